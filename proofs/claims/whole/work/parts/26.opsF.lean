/-! CALLS: factions, rooms, hottest, heaviest -/
/-- the opinions of who stands among the first -/
def fa_s (T : tr_T) : Nat → Nat
  | 0 => 0
  | k + 1 => cond (t_up T k) (fa_s T k ||| 2 ^ t_op T k) (fa_s T k)
def fa_b (T : tr_T) (h k : Nat) : Bool := t_up T h && !(fa_s T k).testBit (t_op T h)
def fa_n (T : tr_T) (k : Nat) : Nat := ct 64 (fun j => (fa_s T k).testBit j)
section OPF
variable {g N : Nat} {sw lv : Bool} {I : Nat → Nat → Int32} {L : Nat → Nat → Int64} {T : tr_T} {E : e_E} {mb : Nat}
theorem fa_lt (ht : t_ok T) : ∀ k, k ≤ t_n T → fa_s T k < 18446744073709551616
  | 0, _ => by
    show (0 : Nat) < 18446744073709551616
    omega
  | k + 1, h => by
    have ih := fa_lt ht k (by omega)
    unfold fa_s
    cases t_up T k with
    | false => exact ih
    | true => exact li_lt ih (t_op_lt ht (by omega))
theorem fa_b_s (h k : Nat) : fa_b T h (k + 1) = (fa_b T h k && !(t_up T k && decide (t_op T k = t_op T h))) := by
  unfold fa_b
  show (t_up T h && !(cond (t_up T k) (fa_s T k ||| 2 ^ t_op T k) (fa_s T k)).testBit (t_op T h)) = _
  cases t_up T k with
  | false => simp
  | true =>
    rw [cond_true, Nat.testBit_or, Nat.testBit_two_pow]
    cases t_up T h <;> cases (fa_s T k).testBit (t_op T h) <;> cases decide (t_op T k = t_op T h) <;> rfl
theorem fa_n_s (ht : t_ok T) {k : Nat} (hk : k < t_n T) : fa_n T (k + 1) = fa_n T k + cond (fa_b T k k) 1 0 := by
  unfold fa_n fa_b
  show ct 64 (fun j => (cond (t_up T k) (fa_s T k ||| 2 ^ t_op T k) (fa_s T k)).testBit j) = _
  cases t_up T k with
  | false => rfl
  | true =>
    rw [cond_true, lp_ins (t_op_lt ht hk), Bool.true_and]
    cases (fa_s T k).testBit (t_op T k) <;> rfl
theorem fa_n_le (k : Nat) : fa_n T k ≤ 64 := ct_le 64 _
def sp_factions (T : tr_T) : a_O := .inl (Int32.ofNat (fa_n T (t_n T)))
theorem C_faL (hr : rC 99 T I) (ht : t_ok T) : ∀ c k, k + c = t_n T → am_R 46 2 4 [.ref 75, .long (Int64.ofNat (fa_s T k)), am_u, .int (Int32.ofNat k)] [] (am_hp g N sw lv I L) = some (.inl (some (.int (Int32.ofNat (fa_n T (t_n T))))), am_hp g N sw lv I L)
  | 0, k, hc => by
    have hn := ht.1
    rw [y_Ca_factions_4 _ _, hr.1, nb_dle (by omega) (by omega), d_t (by omega : t_n T ≤ k), lp_pc (fa_lt ht k (by omega)), show k = t_n T by omega]
    rfl
  | c + 1, k, hc => by
    have hn := ht.1
    have hk : k < t_n T := by omega
    have ih := C_faL hr ht c (k + 1) (by omega)
    obtain ⟨o1, o2⟩ := rC_op hr ht hk
    rw [y_Ca_factions_4 _ _, hr.1, nb_dle (by omega) (by omega), d_f (by omega : ¬ t_n T ≤ k), rC_stands hr ht hk, i_b0, o1, o2, nb_s, li_ins (t_op_lt ht hk)]
    unfold fa_s at ih
    cases hu : t_up T k with
    | false =>
      rw [hu] at ih
      exact ih
    | true =>
      rw [hu] at ih
      exact ih
theorem C_factions (h : cC E mb T sw I) (ht : t_ok T) : oC g N sw lv L I (am_R 46 2 0 [.ref 75, am_u, am_u, am_u] [] (am_hp g N sw lv I L)) (sp_factions T) := by
  rw [y_Ca_factions_0]
  exact oC_v zf_rfl (C_faL h.2.1 ht (t_n T) 0 (by omega))
theorem M_faI (hr : rM T I) (ht : t_ok T) {n h : Nat} (hh : h < t_n T) : ∀ c k, k + c = h → ∃ w3 w4, am_R 240 3 28 [.ref 147, .int (Int32.ofNat n), .int (Int32.ofNat h), .int (cond (fa_b T h k) 1 0), .int (Int32.ofNat k)] [] (am_hp g N sw lv I L) = am_R 240 3 9 [.ref 147, .int (Int32.ofNat (n + cond (fa_b T h h) 1 0)), .int (Int32.ofNat (h + 1)), w3, w4] [] (am_hp g N sw lv I L)
  | 0, k, hc => by
    have hn := ht.1
    have e : k = h := by omega
    subst e
    refine ⟨.int (cond (fa_b T k k) 1 0), .int (Int32.ofNat k), ?_⟩
    rw [y_Mo_factions_28 _ _ _ _, nb_dle (by omega) (by omega), d_t (Nat.le_refl k), i_b0, nb_s, Int32.add_zero, nb_s]
    cases fa_b T k k <;> rfl
  | c + 1, k, hc => by
    have hn := ht.1
    have hk : k < t_n T := by omega
    obtain ⟨w3, w4, ih⟩ := M_faI hr ht (n := n) hh c (k + 1) (by omega)
    obtain ⟨o1, o2⟩ := rM_op hr ht hk
    obtain ⟨p1, p2⟩ := rM_op hr ht hh
    have l1 := t_op_lt ht hk
    have l2 := t_op_lt ht hh
    rw [fa_b_s] at ih
    cases hb : fa_b T h k with
    | false =>
      have hz : ∀ j, fa_b T h (k + j) = false := fun j => by
        induction j with
        | zero => exact hb
        | succ j ihj => rw [show k + (j + 1) = k + j + 1 from rfl, fa_b_s, ihj]; rfl
      have hh2 : fa_b T h h = false := by
        have := hz (c + 1)
        rw [hc] at this
        exact this
      refine ⟨.int (cond false 1 0), .int (Int32.ofNat k), ?_⟩
      rw [y_Mo_factions_28 _ _ _ _, i_b0, nb_dle (by omega) (by omega), d_f (by omega : ¬ h ≤ k), nb_s, Int32.add_zero, hh2]
      rfl
    | true =>
      rw [hb, Bool.true_and] at ih
      refine ⟨w3, w4, ?_⟩
      rw [y_Mo_factions_28 _ _ _ _, i_b0, nb_dle (by omega) (by omega), d_f (by omega : ¬ h ≤ k), rM_stands hr ht hk, i_b0, o1, o2, p1, p2, nb_s, nb_deq (by omega) (by omega)]
      simp only [cond_true, cond_false, Bool.not_true]
      rw [nb_s]
      cases hu : t_up T k with
      | false =>
        rw [hu] at ih
        exact ih
      | true =>
        rw [hu] at ih
        cases hd : decide (t_op T k = t_op T h) with
        | false =>
          rw [hd] at ih
          exact ih
        | true =>
          rw [hd] at ih
          exact ih
theorem M_faL (hr : rM T I) (ht : t_ok T) : ∀ c k (w3 w4 : Value), k + c = t_n T → am_R 240 3 9 [.ref 147, .int (Int32.ofNat (fa_n T k)), .int (Int32.ofNat k), w3, w4] [] (am_hp g N sw lv I L) = some (.inl (some (.int (Int32.ofNat (fa_n T (t_n T))))), am_hp g N sw lv I L)
  | 0, k, w3, w4, hc => by
    have hn := ht.1
    rw [y_Mo_factions_9 _ _ _ _, hr.1, nb_dle (by omega) (by omega), d_t (by omega : t_n T ≤ k), show k = t_n T by omega]
  | c + 1, k, w3, w4, hc => by
    have hn := ht.1
    have hk : k < t_n T := by omega
    obtain ⟨v3, v4, e⟩ := M_faI (g := g) (N := N) (sw := sw) (lv := lv) (L := L) hr ht (n := fa_n T k) hk k 0 (by omega)
    have ih := M_faL hr ht c (k + 1) v3 v4 (by omega)
    rw [fa_n_s ht hk] at ih
    have e0 : fa_b T k 0 = t_up T k := by
      unfold fa_b fa_s
      rw [Nat.zero_testBit, Bool.not_false, Bool.and_true]
    rw [e0] at e
    rw [y_Mo_factions_9 _ _ _ _, hr.1, nb_dle (by omega) (by omega), d_f (by omega : ¬ t_n T ≤ k), rM_stands hr ht hk]
    exact e.trans ih
theorem M_factions (h : cM E mb T I) (ht : t_ok T) : oM g N sw lv L T I k1 (am_R 240 3 0 [.ref 147, am_u, am_u, am_u, am_u] [] (am_hp g N sw lv I L)) (sp_factions T) := by
  have e0 : fa_n T 0 = 0 := by
    unfold fa_n fa_s
    decide
  have hl := M_faL (g := g) (N := N) (sw := sw) (lv := lv) (L := L) (cM_4 h 0).2.1 ht (t_n T) 0 am_u am_u (by omega)
  rw [e0] at hl
  rw [y_Mo_factions_0]
  exact oM_v h hl
/-! rooms -/
def rm_v (T : tr_T) (k : Nat) : Int32 := v_Ma_abs (t_sg T (t_s T) - 2 * t_sg T k)
def rm_f (T : tr_T) (k : Nat) (a : Int32 × Nat) : Int32 × Nat := cond (decide (k &&& b_no (t_n T) (t_s T) = 0)) (cond (decide (rm_v T k < a.1)) (rm_v T k, k) a) a
def rm_r (T : tr_T) (k : Nat) : Int32 × Nat := fd k (rm_f T) (100000, 0)
def sp_rooms (T : tr_T) (x1 : Int32) : a_O := cond (gI 0 1 x1) (.inl (cond (decide (x1 = 0)) (rm_r T (2 ^ t_n T)).1 (Int32.ofNat (rm_r T (2 ^ t_n T)).2))) (.inr 0)
theorem t_sgk (ht : t_ok T) (b : Nat) : ∀ k, k ≤ t_n T → 0 ≤ (fd k (fun h a => cond (b.testBit h) (a + t_su T h) a) (0 : Int32)).toInt ∧ (fd k (fun h a => cond (b.testBit h) (a + t_su T h) a) (0 : Int32)).toInt ≤ 99 * (k : Int)
  | 0, _ => by
    have e0 : (0 : Int32).toInt = 0 := by decide
    show 0 ≤ (0 : Int32).toInt ∧ (0 : Int32).toInt ≤ 99 * ((0 : Nat) : Int)
    omega
  | k + 1, h => by
    have hn := ht.1
    obtain ⟨i1, i2⟩ := t_sgk ht b k (by omega)
    obtain ⟨⟨s1, s2⟩, -⟩ := ht.2.2.2.1 k (by omega)
    rw [Int32.le_iff_toInt_le] at s1 s2
    have e0 : (0 : Int32).toInt = 0 := by decide
    have e9 : (99 : Int32).toInt = 99 := by decide
    have e : fd (k + 1) (fun h a => cond (b.testBit h) (a + t_su T h) a) (0 : Int32) = cond (b.testBit k) (fd k (fun h a => cond (b.testBit h) (a + t_su T h) a) (0 : Int32) + t_su T k) (fd k (fun h a => cond (b.testBit h) (a + t_su T h) a) (0 : Int32)) := rfl
    rw [e]
    generalize fd k (fun h a => cond (b.testBit h) (a + t_su T h) a) (0 : Int32) = F at *
    cases b.testBit k with
    | false =>
      rw [cond_false]
      omega
    | true =>
      rw [cond_true, Int32.toInt_add, Int.bmod_eq_of_le (by omega) (by omega)]
      omega
theorem t_sg_b (ht : t_ok T) (b : Nat) : 0 ≤ (t_sg T b).toInt ∧ (t_sg T b).toInt ≤ 792 := by
  have hn := ht.1
  have := t_sgk ht b (t_n T) (Nat.le_refl _)
  unfold t_sg
  omega
theorem t_sg_0 : t_sg T 0 = 0 := by
  unfold t_sg
  have : ∀ k, fd k (fun h a => cond ((0 : Nat).testBit h) (a + t_su T h) a) (0 : Int32) = 0 := fun k => by
    induction k with
    | zero => rfl
    | succ k ih => rw [fd, Nat.zero_testBit, cond_false, ih]
  exact this _
theorem v_abs0 {x : Int32} (h : 0 ≤ x) : v_Ma_abs x = x := by
  unfold v_Ma_abs
  first
    | rw [d_f (i_nlt.mpr h)]
    | rw [d_t h]
theorem rm_1 (ht : t_ok T) : rm_r T 1 = (t_sg T (t_s T), 0) := by
  obtain ⟨b1, b2⟩ := t_sg_b ht (t_s T)
  have e0 : (0 : Int32).toInt = 0 := by decide
  have e1 : (100000 : Int32).toInt = 100000 := by decide
  have hv : rm_v T 0 = t_sg T (t_s T) := by
    unfold rm_v
    rw [t_sg_0, show (2 : Int32) * 0 = 0 by decide, Int32.sub_zero]
    exact v_abs0 (by rw [Int32.le_iff_toInt_le]; omega)
  show rm_f T 0 (100000, 0) = _
  unfold rm_f
  rw [Nat.zero_and, decide_eq_true rfl, cond_true, hv, d_t (show t_sg T (t_s T) < (100000 : Int32) by rw [Int32.lt_iff_toInt_lt]; omega)]
theorem C_rmL (hr : rC 99 T I) (ht : t_ok T) (x1 : Int32) : ∀ c k (w6 : Value), k + c = 2 ^ t_n T → am_R 115 2 28 [.ref 75, .int x1, .int (t_sg T (t_s T)), .int (rm_r T k).1, .int (Int32.ofNat (rm_r T k).2), .int (Int32.ofNat k), w6] [] (am_hp g N sw lv I L) = some (.inl (some (.int (cond (decide (x1 = 0)) (rm_r T (2 ^ t_n T)).1 (Int32.ofNat (rm_r T (2 ^ t_n T)).2)))), am_hp g N sw lv I L)
  | 0, k, w6, hc => by
    have hn := ht.1
    have h8 : (2 : Nat) ^ t_n T ≤ 2 ^ 8 := Nat.pow_le_pow_right (by decide) hn
    rw [y_Ca_rooms_28 _ _ _ _ _ _, hr.1, b_p2 _ (by omega), nb_dle (by omega) (by omega), d_t (by omega : 2 ^ t_n T ≤ k), show k = 2 ^ t_n T by omega]
    cases decide (x1 = 0) <;> rfl
  | c + 1, k, w6, hc => by
    have hn := ht.1
    have h8 : (2 : Nat) ^ t_n T ≤ 2 ^ 8 := Nat.pow_le_pow_right (by decide) hn
    have hk : k < 2 ^ t_n T := by omega
    have ih := fun w6 => C_rmL hr ht x1 c (k + 1) w6 (by omega)
    have hf : rm_r T (k + 1) = rm_f T k (rm_r T k) := rfl
    rw [hf] at ih
    rw [y_Ca_rooms_28 _ _ _ _ _ _, hr.1, b_p2 _ (by omega), nb_dle (by omega) (by omega), d_f (by omega : ¬ 2 ^ t_n T ≤ k), rC_sg a_99 hr ht (show k < 256 by omega), am_bd_ok, am_tl, y_Ca_rooms_53 _ _ _ _ _ _ _ _ _, hr.2.2.1, b_andn k (by omega) _ (b_256 hn ht.2.1), b_nn hn ht.2.1 hk, show decide (Int32.ofNat (k &&& b_no (t_n T) (t_s T)) = 0) = decide (k &&& b_no (t_n T) (t_s T) = 0) from nb_deq (b := 0) (Nat.lt_of_le_of_lt Nat.and_le_left (by omega)) (by omega), nb_s]
    show cond _ (cond (decide (_ ≤ rm_v T k)) _ _) _ = _
    unfold rm_f at ih
    cases hA : decide (k &&& b_no (t_n T) (t_s T) = 0) with
    | false =>
      rw [hA] at ih
      exact ih _
    | true =>
      rw [hA] at ih
      by_cases hw : rm_v T k < (rm_r T k).1
      · rw [cond_true, d_t hw] at ih
        rw [cond_true, d_f (i_nle.mpr hw)]
        exact ih _
      · rw [cond_true, d_f hw] at ih
        rw [cond_true, d_t (i_nlt.mp hw)]
        exact ih _
theorem C_rooms (h : cC E mb T sw I) (ht : t_ok T) (x1 : Int32) : oC g N sw lv L I (am_R 115 2 0 [.ref 75, .int x1, am_u, am_u, am_u, am_u, am_u] [] (am_hp g N sw lv I L)) (sp_rooms T x1) := by
  have h1p : 0 < (2 : Nat) ^ t_n T := Nat.two_pow_pos _
  have hn := ht.1
  rw [y_Ca_rooms_0 _, g_I]
  unfold sp_rooms
  cases h1 : gI 0 1 x1 with
  | false => exact oC_t rfl
  | true =>
    have hl := C_rmL (g := g) (N := N) (sw := sw) (lv := lv) (L := L) h.2.1 ht x1 (2 ^ t_n T - 1) 1 am_u (by omega)
    rw [rm_1 ht] at hl
    simp only [cond_true]
    rw [h.2.1.2.2.1, rC_sg a_99 h.2.1 ht (b_256 hn ht.2.1), am_bd_ok, am_tl, y_Ca_rooms_19 _ _]
    exact oC_v zf_rfl hl
theorem rM_sgL (hr : rM T I) (ht : t_ok T) {b : Nat} (hb : b < 256) : ∀ c k, k + c = t_n T → am_R 242 2 4 [.ref 147, .int (Int32.ofNat b), .int (fd k (fun h a => cond (b.testBit h) (a + t_su T h) a) 0), .int (Int32.ofNat k)] [] (am_hp g N sw lv I L) = some (.inl (some (.int (t_sg T b))), am_hp g N sw lv I L)
  | 0, k, hc => by
    have hn := ht.1
    rw [y_Mo_sugarOf_4 _ _ _, hr.1, nb_dle (by omega) (by omega), d_t (by omega : t_n T ≤ k), show k = t_n T by omega]
    rfl
  | c + 1, k, hc => by
    have hn := ht.1
    have ih := rM_sgL hr ht hb c (k + 1) (by omega)
    rw [fd] at ih
    rw [y_Mo_sugarOf_4 _ _ _, hr.1, nb_dle (by omega) (by omega), d_f (by omega : ¬ t_n T ≤ k), m_isof b hb k (by omega), i_b0, c_t (nb_inb (by omega) (by omega)), nb_tn (by omega), (hr.2.2.2.1 k (by omega)).1, nb_s, Int32.add_zero]
    cases hu : b.testBit k with
    | false =>
      rw [hu] at ih
      exact ih
    | true =>
      rw [hu] at ih
      exact ih
theorem rM_sg (hr : rM T I) (ht : t_ok T) {b : Nat} (hb : b < 256) : am_R 242 2 0 [.ref 147, .int (Int32.ofNat b), am_u, am_u] [] (am_hp g N sw lv I L) = some (.inl (some (.int (t_sg T b))), am_hp g N sw lv I L) := by
  rw [y_Mo_sugarOf_0 _]
  exact rM_sgL hr ht hb (t_n T) 0 (by omega)
theorem M_rmL (hr : rM T I) (ht : t_ok T) (x1 : Int32) : ∀ c k (w6 : Value), k + c = 2 ^ t_n T → am_R 241 3 29 [.ref 147, .int x1, .int (Int32.ofNat (rm_r T k).2), .int (rm_r T k).1, .int (Int32.ofNat k), w6] [] (am_hp g N sw lv I L) = some (.inl (some (.int (cond (decide (x1 = 0)) (rm_r T (2 ^ t_n T)).1 (Int32.ofNat (rm_r T (2 ^ t_n T)).2)))), am_hp g N sw lv I L)
  | 0, k, w6, hc => by
    have hn := ht.1
    have h8 : (2 : Nat) ^ t_n T ≤ 2 ^ 8 := Nat.pow_le_pow_right (by decide) hn
    rw [y_Mo_rooms_29 _ _ _ _ _, hr.1, b_p2 _ (by omega), nb_dle (by omega) (by omega), d_t (by omega : 2 ^ t_n T ≤ k), show k = 2 ^ t_n T by omega]
    cases decide (x1 = 0) <;> rfl
  | c + 1, k, w6, hc => by
    have hn := ht.1
    have h8 : (2 : Nat) ^ t_n T ≤ 2 ^ 8 := Nat.pow_le_pow_right (by decide) hn
    have hk : k < 2 ^ t_n T := by omega
    have ih := fun w6 => M_rmL hr ht x1 c (k + 1) w6 (by omega)
    have hf : rm_r T (k + 1) = rm_f T k (rm_r T k) := rfl
    rw [hf] at ih
    rw [y_Mo_rooms_29 _ _ _ _ _, hr.1, b_p2 _ (by omega), nb_dle (by omega) (by omega), d_f (by omega : ¬ 2 ^ t_n T ≤ k), hr.2.2.1, bt_and k (by omega) _ (b_no_lt _ (by omega) _ ht.2.1), show decide (Int32.ofNat (k &&& b_no (t_n T) (t_s T)) = 0) = decide (k &&& b_no (t_n T) (t_s T) = 0) from nb_deq (b := 0) (Nat.lt_of_le_of_lt Nat.and_le_left (by omega)) (by omega), rM_standing hr ht, rM_sg hr ht (b_256 hn ht.2.1), am_bd_ok, am_tl, y_Mo_rooms_63 _ _ _ _ _ _, rM_sg hr ht (show k < 256 by omega), am_bd_ok, am_tl, y_Mo_rooms_70 _ _ _ _ _ _ _ _, nb_s]
    show cond _ (cond (decide (rm_v T k < _)) _ _) _ = _
    unfold rm_f at ih
    cases hA : decide (k &&& b_no (t_n T) (t_s T) = 0) with
    | false =>
      rw [hA] at ih
      exact ih _
    | true =>
      rw [hA] at ih
      by_cases hw : rm_v T k < (rm_r T k).1
      · rw [cond_true, d_t hw] at ih
        rw [cond_true, d_t hw]
        exact ih _
      · rw [cond_true, d_f hw] at ih
        rw [cond_true, d_f hw]
        exact ih _
theorem M_rooms (h : cM E mb T I) (ht : t_ok T) (x1 : Int32) : oM g N sw lv L T I k1 (am_R 241 3 0 [.ref 147, .int x1, am_u, am_u, am_u, am_u] [] (am_hp g N sw lv I L)) (sp_rooms T x1) := by
  rw [y_Mo_rooms_0 _, m_inL (a := 0) (b := 1) (by decide) (by decide)]
  unfold sp_rooms
  cases h1 : gI 0 1 x1 with
  | false => exact oM_t (c := 0) h rfl
  | true =>
    simp only [cond_true]
    rw [d_f (by decide : ¬ (1 : Int32) = 0)]
    exact oM_v h (M_rmL (cM_4 h 0).2.1 ht x1 (2 ^ t_n T) 0 am_u (by omega))
/-! hottest -/
def ho_f (E : e_E) (d : Int32) (k b : Nat) : Nat := cond (decide (e_on E (d + Int32.ofNat k) ≤ e_on E (d + Int32.ofNat b))) b k
def ho_r (E : e_E) (d : Int32) (k : Nat) : Nat := fd k (ho_f E d) 0
def sp_hottest (E : e_E) (T : tr_T) (x1 : Int32) : a_O := cond (gI 1 40 x1) (.inl (Int32.ofNat (ho_r E (t_d T) x1.toNatClampNeg))) (.inr 1)
theorem ho_lt (E : e_E) (d : Int32) : ∀ k, ho_r E d k ≤ k
  | 0 => Nat.le_refl _
  | k + 1 => by
    have ih := ho_lt E d k
    show ho_f E d k (ho_r E d k) ≤ k + 1
    unfold ho_f
    cases decide (e_on E (d + Int32.ofNat k) ≤ e_on E (d + Int32.ofNat (ho_r E d k)))
    · exact Nat.le_succ k
    · exact Nat.le_succ_of_le ih
theorem ho_1 (E : e_E) (d : Int32) : ho_r E d 1 = 0 := by
  show ho_f E d 0 0 = 0
  unfold ho_f
  cases decide (e_on E (d + Int32.ofNat 0) ≤ e_on E (d + Int32.ofNat 0)) <;> rfl
theorem C_hoL (h : cC E mb T sw I) (ht : t_ok T) (hd : t_d T ≤ 1000) {n : Nat} (hn : n ≤ 40) : ∀ c k, k + c = n → am_R 118 3 9 [.ref 75, .int (Int32.ofNat n), .int (Int32.ofNat (ho_r E (t_d T) k)), .int (Int32.ofNat k)] [] (am_hp g N sw lv I L) = some (.inl (some (.int (Int32.ofNat (ho_r E (t_d T) n)))), am_hp g N sw lv I L)
  | 0, k, hc => by
    rw [y_Ca_hottest_9 _ _ _, nb_dle (by omega) (by omega), d_t (by omega : n ≤ k), show k = n by omega]
  | c + 1, k, hc => by
    have ih := C_hoL h ht hd hn c (k + 1) (by omega)
    have hf : ho_r E (t_d T) (k + 1) = ho_f E (t_d T) k (ho_r E (t_d T) k) := rfl
    have hb := ho_lt E (t_d T) k
    have hd1 : t_d T ≤ 1100 := Int32.le_trans hd (by decide)
    obtain ⟨k1, k2⟩ := i_dk ht.2.2.1.1 hd1 (show k ≤ 50 by omega)
    obtain ⟨b1, b2⟩ := i_dk ht.2.2.1.1 hd1 (show ho_r E (t_d T) k ≤ 50 by omega)
    obtain ⟨u1, u2⟩ := qC_heat h.1 k1 (Int32.le_of_lt k2)
    obtain ⟨v1, v2⟩ := qC_heat h.1 b1 (Int32.le_of_lt b2)
    rw [hf] at ih
    rw [y_Ca_hottest_9 _ _ _, nb_dle (by omega) (by omega), d_f (by omega : ¬ n ≤ k), h.2.1.2.1, u1, u2, v1, v2, nb_s]
    unfold ho_f at ih
    cases hw : decide (e_on E (t_d T + Int32.ofNat k) ≤ e_on E (t_d T + Int32.ofNat (ho_r E (t_d T) k))) with
    | false =>
      rw [hw] at ih
      exact ih
    | true =>
      rw [hw] at ih
      exact ih
theorem C_hottest (h : cC E mb T sw I) (ht : t_ok T) (hd : t_d T ≤ 1000) (x1 : Int32) : oC g N sw lv L I (am_R 118 3 0 [.ref 75, .int x1, am_u, am_u] [] (am_hp g N sw lv I L)) (sp_hottest E T x1) := by
  rw [y_Ca_hottest_0 _, g_I]
  unfold sp_hottest
  cases h2 : gI 1 40 x1 with
  | false => exact oC_t rfl
  | true =>
    obtain ⟨d, hd1, hd2, rfl⟩ := gI_at1 (b := 40) (by decide) h2
    have hl := C_hoL (g := g) (N := N) (lv := lv) (L := L) h ht hd hd2 (d - 1) 1 (by omega)
    rw [ho_1] at hl
    simp only [cond_true]
    rw [nb_tn (by omega)]
    exact oC_v zf_rfl hl
def t_dk : Nat → tr_T → tr_T
  | 0, T => T
  | k + 1, T => t_dd (t_dk k T)
theorem t_dk_ok (ht : t_ok T) (hd : t_d T ≤ 1000) : ∀ k, k ≤ 40 → t_ok (t_dk k T) ∧ t_d (t_dk k T) = t_d T + Int32.ofNat k
  | 0, _ => ⟨ht, (Int32.add_zero _).symm⟩
  | k + 1, hk => by
    obtain ⟨i1, i2⟩ := t_dk_ok ht hd k (by omega)
    obtain ⟨-, k2⟩ := i_dk ht.2.2.1.1 (Int32.le_trans hd (by decide)) (show k ≤ 50 by omega)
    refine ⟨t_dd_ok i1 (by rw [i2]; exact k2), ?_⟩
    show t_d (t_dk k T) + 1 = _
    rw [i2, Int32.add_assoc, nb_s]
theorem mS_33 {T1 : tr_T} {I1 : Nat → Nat → Int32} (s : mS T T1 I I1) : mS T (t_dd T1) I (am_up I1 147 (upd (I1 147) 33 (I1 147 33 + 1))) := by
  obtain ⟨s1, s2, s3, s4, s5⟩ := s
  refine ⟨rM_wD s1, pM_fr s2 (up_ne (by decide)), zM_tr s3 ⟨fun a q1 _ => up_ne q1, fun j _ q1 _ _ _ _ => by rw [up_same, upd_ne q1]⟩, ?_, ?_⟩
  · rw [up_same, upd_ne (by decide)]
    exact s4
  · rw [up_same, upd_ne (by decide)]
    exact s5
/-- heats are no less than 0 -/
def e_pos (E : e_E) : Prop := ∀ j, j < e_hc E → 0 ≤ e_ht E j
theorem e_on_pos (he : e_pos E) (d : Int32) : -1 < e_on E d := by
  unfold e_on
  by_cases h : e_hc E = 0
  · rw [d_t h]
    decide
  · rw [d_f h]
    have := he _ (Nat.mod_lt d.toNatClampNeg (by omega))
    rw [Int32.le_iff_toInt_le] at this
    rw [Int32.lt_iff_toInt_lt]
    have e0 : (0 : Int32).toInt = 0 := by decide
    have e1 : (-1 : Int32).toInt = -1 := by decide
    omega
theorem M_hoL (h : cM E mb T I) (ht : t_ok T) (he : e_pos E) (hd : t_d T ≤ 1000) {n : Nat} (hn : n ≤ 40) : ∀ c k (I1 : Nat → Nat → Int32), k + c = n → mS T (t_dk k T) I I1 → ∃ I2, am_R 224 2 39 [.ref 147, .int (Int32.ofNat n), .int (Int32.ofNat (ho_r E (t_d T) k)), .int (cond (decide (k = 0)) (-1) (e_on E (t_d T + Int32.ofNat (ho_r E (t_d T) k)))), .int (Int32.ofNat k)] [] (am_hp g N sw lv I1 L) = some (.inl (some (.int (Int32.ofNat (ho_r E (t_d T) n)))), am_hp g N sw lv I2 L) ∧ mR T I I2
  | 0, k, I1, hc, s => by
    obtain ⟨I2, b1, b2⟩ := mS_back (g := g) (N := N) (sw := sw) (lv := lv) (L := L) h ht s
    refine ⟨I2, ?_, b2⟩
    rw [y_Mo_hottest_39 _ _ _ _, nb_dle (by omega) (by omega), d_t (by omega : n ≤ k), b1, am_bd_ok, am_tn, y_Mo_hottest_86 _ _ _ _, show k = n by omega]
  | c + 1, k, I1, hc, s => by
    have hf : ho_r E (t_d T) (k + 1) = ho_f E (t_d T) k (ho_r E (t_d T) k) := rfl
    obtain ⟨j1, j2⟩ := t_dk_ok ht hd k (by omega)
    obtain ⟨w1, w2⟩ := qM_heat (cM_q h s.2.2.1) s.1 j1 s.2.2.2.1
    obtain ⟨I2, b1, b2⟩ := M_hoL h ht he hd hn c (k + 1) _ (by omega) (mS_33 s)
    refine ⟨I2, ?_, b2⟩
    rw [d_f (by omega : ¬ k + 1 = 0), hf] at b1
    rw [y_Mo_hottest_39 _ _ _ _, nb_dle (by omega) (by omega), d_f (by omega : ¬ n ≤ k), w1, w2, j2, nb_s]
    simp only [cond_true]
    by_cases h0 : k = 0
    · subst h0
      rw [d_t rfl, d_f (i_nle.mpr (e_on_pos he _))]
      have e : ho_f E (t_d T) 0 (ho_r E (t_d T) 0) = 0 := ho_1 E (t_d T)
      rw [e] at b1
      exact b1
    · rw [d_f h0]
      unfold ho_f at b1
      cases hw : decide (e_on E (t_d T + Int32.ofNat k) ≤ e_on E (t_d T + Int32.ofNat (ho_r E (t_d T) k))) with
      | false =>
        rw [hw] at b1
        exact b1
      | true =>
        rw [hw] at b1
        exact b1
theorem M_hottest (h : cM E mb T I) (ht : t_ok T) (he : e_pos E) (hd : t_d T ≤ 1000) (x1 : Int32) : oM g N sw lv L T I k1 (am_R 224 2 0 [.ref 147, .int x1, am_u, am_u, am_u] [] (am_hp g N sw lv I L)) (sp_hottest E T x1) := by
  rw [y_Mo_hottest_0 _, m_inL (a := 1) (b := 40) (by decide) (by decide)]
  unfold sp_hottest
  cases h2 : gI 1 40 x1 with
  | false => exact oM_t (c := 1) h rfl
  | true =>
    obtain ⟨d, hd1, hd2, rfl⟩ := gI_at1 (b := 40) (by decide) h2
    obtain ⟨I0, a1, s0⟩ := mS_pk (g := g) (N := N) (sw := sw) (lv := lv) (L := L) h ht (mR_0 h)
    obtain ⟨I2, b1, b2⟩ := M_hoL (g := g) (N := N) (sw := sw) (lv := lv) (L := L) h ht he hd hd2 d 0 I0 (by omega) s0
    simp only [cond_true]
    rw [d_f (by decide : ¬ (1 : Int32) = 0), nb_tn (show d < 100000 by omega), a1, am_bd_ok, am_tn, y_Mo_hottest_32 _]
    exact oM_r b2 b1
/-! heaviest -/
/-- who stands has sugar -/
def t_pos (T : tr_T) : Prop := ∀ h, h < t_n T → t_up T h = true → 0 < t_su T h
def hv_f (T : tr_T) (k : Nat) (a : Option Nat) : Option Nat := cond (t_up T k) (match a with
  | none => some k
  | some b => cond (decide (t_su T k ≤ t_su T b)) (some b) (some k)) a
def hv_m (T : tr_T) : Option Nat → Int32
  | none => 0
  | some b => t_su T b
def hv_r (T : tr_T) (k : Nat) : Option Nat := fd k (hv_f T) none
theorem hv_lt (T : tr_T) : ∀ k b, hv_r T k = some b → b < k
  | 0, _, h => by cases h
  | k + 1, b, h => by
    have ih := hv_lt T k
    have h' : hv_f T k (hv_r T k) = some b := h
    unfold hv_f at h'
    cases hu : t_up T k with
    | false =>
      rw [hu] at h'
      exact Nat.lt_succ_of_lt (ih b h')
    | true =>
      rw [hu, cond_true] at h'
      cases ha : hv_r T k with
      | none =>
        rw [ha] at h'
        cases h'
        exact Nat.lt_succ_self k
      | some a =>
        have i1 := ih a ha
        rw [ha] at h'
        dsimp only at h'
        cases hd : decide (t_su T k ≤ t_su T a) with
        | true =>
          rw [hd] at h'
          cases h'
          exact Nat.lt_succ_of_lt i1
        | false =>
          rw [hd] at h'
          cases h'
          exact Nat.lt_succ_self k
def sp_heaviest (E : e_E) (T : tr_T) (x1 : Int32) : a_O := cond (gI 0 40 x1) (.inl (oi (hv_r (t_dn E x1.toNatClampNeg T) (t_n T)))) (.inr 1)
theorem C_hvL (hr : rC 109 T I) (ht : t_ok T) (hp : t_pos T) (x1 : Int32) : ∀ c k, k + c = t_n T → am_R 116 8 17 [.ref 75, .int x1, .int (oi (hv_r T k)), .int (hv_m T (hv_r T k)), .int (Int32.ofNat k)] [] (am_hp g N sw lv I L) = some (.inl (some (.int (oi (hv_r T (t_n T))))), am_hp g N sw lv I L)
  | 0, k, hc => by
    have hn := ht.1
    rw [y_Ca_heaviest_17 _ _ _ _, hr.1, nb_dle (by omega) (by omega), d_t (by omega : t_n T ≤ k), show k = t_n T by omega]
  | c + 1, k, hc => by
    have hn := ht.1
    have hk : k < t_n T := by omega
    have ih := C_hvL hr ht hp x1 c (k + 1) (by omega)
    have hf : hv_r T (k + 1) = hv_f T k (hv_r T k) := rfl
    rw [hf] at ih
    rw [y_Ca_heaviest_17 _ _ _ _, hr.1, nb_dle (by omega) (by omega), d_f (by omega : ¬ t_n T ≤ k), rC_stands hr ht hk, i_b0, nb_inb (show k < 8 by omega) (by omega), nb_tn (by omega), (hr.2.2.2.1 k hk).1, nb_s]
    unfold hv_f at ih
    cases hu : t_up T k with
    | false =>
      rw [hu] at ih
      exact ih
    | true =>
      rw [hu, cond_true] at ih
      simp only [Bool.not_true, cond_false, cond_true]
      cases ha : hv_r T k with
      | none =>
        rw [ha] at ih
        rw [show decide (t_su T k ≤ hv_m T none) = false from decide_eq_false (i_nle.mpr (hp k hk hu))]
        exact ih
      | some b =>
        rw [ha] at ih
        dsimp only at ih
        show cond (decide (t_su T k ≤ t_su T b)) _ _ = _
        cases hd : decide (t_su T k ≤ t_su T b) with
        | true =>
          rw [hd] at ih
          exact ih
        | false =>
          rw [hd] at ih
          exact ih
theorem t_pos_m1 {w : Int32} (ht : t_ok T) (hp : t_pos T) {h : Nat} (hh : h < t_n T) : t_pos (t_m1 E w h T) := by
  unfold t_m1
  cases hu : t_up T h with
  | false => exact hp
  | true =>
    rw [cond_true]
    intro j hj q
    have hn := ht.1
    have hj2 : j < t_n T := hj
    have hs := b_256 ht.1 ht.2.1
    show 0 < upd (t_su T) h (t_mv E w T h) j
    by_cases e : j = h
    · subst e
      rw [upd_same]
      have h0 := (t_mv_ok (E := E) (w := w) (ht.2.2.2.1 j hj2).1.1 (ht.2.2.2.1 j hj2).1.2).1
      by_cases hz : t_mv E w T j = 0
      · have q' : (cond (decide (t_mv E w T j = 0)) (b_off (t_s T) j) (t_s T)).testBit j = true := q
        rw [d_t hz, b_off_at _ hs _ (by omega) _ (by omega), decide_eq_true rfl, Bool.not_true, Bool.and_false] at q'
        cases q'
      · rw [Int32.le_iff_toInt_le] at h0
        rw [Int32.lt_iff_toInt_lt]
        have : (t_mv E w T j).toInt ≠ (0 : Int32).toInt := fun q => hz (Int32.toInt_inj.mp q)
        omega
    · rw [upd_ne e]
      refine hp j hj2 ?_
      have q' : (cond (decide (t_mv E w T h = 0)) (b_off (t_s T) h) (t_s T)).testBit j = true := q
      cases hd : decide (t_mv E w T h = 0) with
      | false =>
        rw [hd] at q'
        exact q'
      | true =>
        rw [hd] at q'
        exact b_off_sub q'
theorem t_pos_mm {w : Int32} (ht : t_ok T) (hp : t_pos T) : ∀ k, k ≤ t_n T → t_pos (fd k (t_m1 E w) T)
  | 0, _ => hp
  | k + 1, hk => by
    obtain ⟨m1, m2⟩ := t_mm_ok (E := E) (w := w) ht k (by omega)
    exact t_pos_m1 m1 (t_pos_mm ht hp k (by omega)) (by omega)
theorem t_pos_sub {T' : tr_T} (hp : t_pos T) (hn : t_n T' = t_n T) (hs : t_su T' = t_su T) (hu : t_sub T' T) : t_pos T' := fun h hh q => by
  rw [hs]
  exact hp h (by omega) (hu h q)
theorem t_tp_su : ∀ (f : Nat) (w : Bool) (h : Nat) (T : tr_T), t_su (t_tp f w h T) = t_su T
  | 0, _, _, _ => rfl
  | f + 1, w, h, T => by
    unfold t_tp
    cases t_nx (t_off T h) w h with
    | none => rfl
    | some j =>
      dsimp only
      cases decide (v_Rw_within (t_le T j + 2 * sd w) (-9) 9 = 9 * sd w) with
      | true => exact t_tp_su f w j _
      | false => rfl
theorem t_f1_su (k : Nat) (T : tr_T) : t_su (t_f1 k T) = t_su T := by
  unfold t_f1
  cases (t_up T (t_hd T k) && decide (v_Ma_abs (t_le T (t_hd T k)) = 9)) with
  | true => exact t_tp_su _ _ _ _
  | false => rfl
theorem t_pos_day {w : Int32} (ht : t_ok T) (hp : t_pos T) : t_pos (t_day E w T) := by
  obtain ⟨m1, m2⟩ := t_mm_ok (E := E) (w := w) ht (t_n T) (Nat.le_refl _)
  obtain ⟨n1, n2⟩ := t_sy_ok (E := E) (w := w) m1
  have p1 : t_pos (t_sy E w (fd (t_n T) (t_m1 E w) T)) := t_pos_mm (E := E) (w := w) ht hp (t_n T) (Nat.le_refl _)
  have nn : t_n (t_sy E w (fd (t_n T) (t_m1 E w) T)) = t_n T := m2
  obtain ⟨f1, f2⟩ := t_ff_ok n1 (t_n T)
  exact t_pos_sub (T' := fd (t_n T) t_f1 (t_sy E w (fd (t_n T) (t_m1 E w) T))) p1 f2 (fd_keep (p := t_su) t_f1_su _ _) (t_sub_fd t_sub_f1 _ _)
theorem t_pos_dn (ht : t_ok T) (hd : t_d T ≤ 1100) (hp : t_pos T) : ∀ k, k ≤ 50 → t_pos (t_dn E k T)
  | 0, _ => hp
  | k + 1, hk => t_pos_day (t_dn_ok ht hd k (by omega)).1 (t_pos_dn ht hd hp k (by omega))
theorem C_heaviest (h : cC E mb T sw I) (ht : t_ok T) (hp : t_pos T) (hd : t_d T ≤ 1000) (x1 : Int32) : oC g N sw lv L I (am_R 116 8 0 [.ref 75, .int x1, am_u, am_u, am_u] [] (am_hp g N sw lv I L)) (sp_heaviest E T x1) := by
  rw [y_Ca_heaviest_0 _, g_I]
  unfold sp_heaviest
  cases h2 : gI 0 40 x1 with
  | false => exact oC_t rfl
  | true =>
    obtain ⟨d, hd2, rfl⟩ := gI_at (b := 40) (by decide) h2
    have hd1 : t_d T ≤ 1100 := Int32.le_trans hd (by decide)
    obtain ⟨I1, a1, a2, a3⟩ := C_try (g := g) (N := N) (lv := lv) (L := L) h ht hd1 (show d ≤ 50 by omega)
    obtain ⟨m1, m2, m3⟩ := t_dn_ok (E := E) ht hd1 d (by omega)
    have hl := C_hvL (g := g) (N := N) (sw := sw) (lv := lv) (L := L) a2 m1 (t_pos_dn ht hd1 hp d (by omega)) (Int32.ofNat d) (t_n T) 0 (by omega)
    simp only [cond_true]
    rw [nb_tn (by omega), a1, am_bd_ok, am_tn, y_Ca_heaviest_10 _]
    rw [m2] at hl
    exact oC_v a3 hl
theorem M_hvL (h : cM E mb T I) (ht : t_ok T) (x1 : Int32) {T1 : tr_T} {I1 : Nat → Nat → Int32} (s : mS T T1 I I1) (h1 : t_ok T1) : ∀ c k, k + c = t_n T1 → ∃ I2, am_R 222 8 41 [.ref 147, .int x1, .int (oi (hv_r T1 k)), .int (Int32.ofNat k)] [] (am_hp g N sw lv I1 L) = some (.inl (some (.int (oi (hv_r T1 (t_n T1))))), am_hp g N sw lv I2 L) ∧ mR T I I2
  | 0, k, hc => by
    have hn := h1.1
    obtain ⟨I2, b1, b2⟩ := mS_back (g := g) (N := N) (sw := sw) (lv := lv) (L := L) h ht s
    refine ⟨I2, ?_, b2⟩
    rw [y_Mo_heaviest_41 _ _ _, s.1.1, nb_dle (by omega) (by omega), d_t (by omega : t_n T1 ≤ k), b1, am_bd_ok, am_tn, y_Mo_heaviest_96 _ _ _, show k = t_n T1 by omega]
  | c + 1, k, hc => by
    have hn := h1.1
    have hk : k < t_n T1 := by omega
    obtain ⟨I2, b1, b2⟩ := M_hvL h ht x1 s h1 c (k + 1) (by omega)
    refine ⟨I2, ?_, b2⟩
    have hf : hv_r T1 (k + 1) = hv_f T1 k (hv_r T1 k) := rfl
    have hlt := hv_lt T1 k
    rw [hf] at b1
    rw [y_Mo_heaviest_41 _ _ _, s.1.1, nb_dle (by omega) (by omega), d_f (by omega : ¬ t_n T1 ≤ k), rM_stands s.1 h1 hk, i_b0, nb_inb (show k < 8 by omega) (by omega), nb_tn (by omega), (s.1.2.2.2.1 k hk).1, nb_s]
    unfold hv_f at b1
    cases hu : t_up T1 k with
    | false =>
      rw [hu] at b1
      exact b1
    | true =>
      rw [hu, cond_true] at b1
      simp only [Bool.not_true, cond_false, cond_true]
      cases ha : hv_r T1 k with
      | none =>
        rw [ha] at b1
        exact b1
      | some b =>
        have hb := hlt b ha
        rw [ha] at b1
        dsimp only at b1
        rw [d_f (show ¬ oi (some b) = -1 from nb_n1 (by omega)), show oi (some b) = Int32.ofNat b from rfl, nb_inb (show b < 8 by omega) (by omega), nb_tn (by omega), (s.1.2.2.2.1 b (by omega)).1, cond_true]
        cases hd : decide (t_su T1 k ≤ t_su T1 b) with
        | true =>
          rw [hd] at b1
          exact b1
        | false =>
          rw [hd] at b1
          exact b1
theorem M_heaviest (h : cM E mb T I) (ht : t_ok T) (hd : t_d T ≤ 1000) (x1 : Int32) : oM g N sw lv L T I k1 (am_R 222 8 0 [.ref 147, .int x1, am_u, am_u] [] (am_hp g N sw lv I L)) (sp_heaviest E T x1) := by
  rw [y_Mo_heaviest_0 _, m_inL (a := 0) (b := 40) (by decide) (by decide)]
  unfold sp_heaviest
  cases h2 : gI 0 40 x1 with
  | false => exact oM_t (c := 1) h rfl
  | true =>
    obtain ⟨d, hd2, rfl⟩ := gI_at (b := 40) (by decide) h2
    have hd1 : t_d T ≤ 1100 := Int32.le_trans hd (by decide)
    obtain ⟨I0, a1, s0⟩ := mS_pk (g := g) (N := N) (sw := sw) (lv := lv) (L := L) h ht (mR_0 h)
    obtain ⟨I1, b1, s1⟩ := mS_days (g := g) (N := N) (sw := sw) (lv := lv) (L := L) h s0 ht hd1 (show d ≤ 50 by omega)
    obtain ⟨m1, m2, m3⟩ := t_dn_ok (E := E) ht hd1 d (by omega)
    obtain ⟨I2, c1, c2⟩ := M_hvL (g := g) (N := N) (sw := sw) (lv := lv) (L := L) h ht (Int32.ofNat d) s1 m1 (t_n (t_dn E d T)) 0 (by omega)
    simp only [cond_true]
    rw [d_f (by decide : ¬ (1 : Int32) = 0), nb_tn (show d < 100000 by omega), a1, am_bd_ok, am_tn, y_Mo_heaviest_32 _, b1, am_bd_ok, am_tn, y_Mo_heaviest_37 _]
    rw [m2] at c1
    exact oM_r c2 c1
end OPF
