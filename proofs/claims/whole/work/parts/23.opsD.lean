/-! CALLS: toTurn, margin, agreed, ties, wins, leaning -/
theorem b_p2 : ∀ n, n < 9 → (1 : Int32) <<< (Int32.ofNat n &&& 31) = Int32.ofNat (2 ^ n) := by decide +kernel
theorem b_nn {n s t : Nat} (hn : n ≤ 8) (hs : s < 2 ^ n) (ht : t < 2 ^ n) : t &&& (255 - s) = t &&& b_no n s := by
  refine Nat.eq_of_testBit_eq fun j => ?_
  rw [Nat.testBit_and, Nat.testBit_and]
  by_cases hj : j < n
  · rw [show (255 - s).testBit j = !(s.testBit j) from b_no_at 8 (by decide) s (b_256 hn hs) j (by omega), b_no_at n (by omega) s hs j hj]
  · rw [Nat.testBit_lt_two_pow (Nat.lt_of_lt_of_le ht (Nat.pow_le_pow_right (by decide) (by omega)))]
    rfl
/-- opinions on q turned, of those in P -/
def t_fp (T : tr_T) (P : Nat → Bool) (q : Nat) : tr_T := (T.1, T.2.1, T.2.2.1, (fun h => cond (P h) (t_fi T h ^^^ 2 ^ q) (t_fi T h)), (fun h => cond (P h) (t_se T h ^^^ 2 ^ q) (t_se T h)), T.2.2.2.2.2)
theorem t_fp_ok {T : tr_T} (ht : t_ok T) {P : Nat → Bool} {q : Nat} (hq : q < 6) : t_ok (t_fp T P q) := by
  have h64 : ∀ a, a < 64 → a ^^^ 2 ^ q < 64 := fun a ha => Nat.xor_lt_two_pow (n := 6) ha (Nat.pow_lt_pow_right (by decide) hq)
  refine ⟨ht.1, ht.2.1, ht.2.2.1, fun h hh => ?_, ht.2.2.2.2⟩
  obtain ⟨a1, a2, a3, a4, a5⟩ := ht.2.2.2.1 h hh
  refine ⟨a1, a2, ?_, ?_, a5⟩
  · show cond (P h) _ _ < 64
    cases P h with
    | true => exact h64 _ a3
    | false => exact a3
  · show cond (P h) _ _ < 64
    cases P h with
    | true => exact h64 _ a4
    | false => exact a4
theorem t_fp2 (T : tr_T) (P : Nat → Bool) (q : Nat) : t_fp (t_fp T P q) P q = T := by
  obtain ⟨T1, su, le, fi, se, hd, st⟩ := T
  have e : ∀ (f : Nat → Nat), (fun h => cond (P h) ((cond (P h) (f h ^^^ 2 ^ q) (f h)) ^^^ 2 ^ q) (cond (P h) (f h ^^^ 2 ^ q) (f h))) = f := by
    intro f
    funext h
    cases P h with
    | false => rfl
    | true =>
      show (f h ^^^ 2 ^ q) ^^^ 2 ^ q = f h
      rw [Nat.xor_assoc, Nat.xor_self, Nat.xor_zero]
  exact Prod.ext rfl (Prod.ext rfl (Prod.ext rfl (Prod.ext (e fi) (Prod.ext (e se) rfl))))
theorem t_op_fp (T : tr_T) (P : Nat → Bool) (q h : Nat) : (t_op (t_fp T P q) h).testBit q = ((t_op T h).testBit q ^^ P h) := by
  show (cond (decide (0 ≤ t_le T h)) (cond (P h) (t_fi T h ^^^ 2 ^ q) (t_fi T h)) (cond (P h) (t_se T h ^^^ 2 ^ q) (t_se T h))).testBit q = ((cond (decide (0 ≤ t_le T h)) (t_fi T h) (t_se T h)).testBit q ^^ P h)
  cases decide (0 ≤ t_le T h) <;> cases P h
  · show (t_se T h).testBit q = ((t_se T h).testBit q ^^ false)
    rw [Bool.xor_false]
  · show (t_se T h ^^^ 2 ^ q).testBit q = ((t_se T h).testBit q ^^ true)
    rw [Nat.testBit_xor, Nat.testBit_two_pow_self]
  · show (t_fi T h).testBit q = ((t_fi T h).testBit q ^^ false)
    rw [Bool.xor_false]
  · show (t_fi T h ^^^ 2 ^ q).testBit q = ((t_fi T h).testBit q ^^ true)
    rw [Nat.testBit_xor, Nat.testBit_two_pow_self]
/-- whose opinion is for q -/
def t_oo (T : tr_T) (q : Nat) : Nat := bs (t_n T) (fun h => (t_op T h).testBit q)
theorem t_for_fp {T : tr_T} (ht : t_ok T) (s q : Nat) : t_for (t_fp T (fun h => s.testBit h) q) q = t_vw T (t_oo T q ^^^ s) := by
  refine bs_congr fun h hh => ?_
  show (t_up T h && (t_op (t_fp T (fun h => s.testBit h) q) (t_fo T h)).testBit q) = (t_up T h && (t_oo T q ^^^ s).testBit (t_fo T h))
  rw [t_op_fp, Nat.testBit_xor]
  unfold t_oo
  rw [bs_at, decide_eq_true (t_fo_lt ht hh), Bool.true_and]
/-- whether q would pass, were those of s of the other opinion -/
def t_pw (T : tr_T) (q s : Nat) : Bool := decide (b_pc (t_s T) < 2 * b_pc (t_vw T (t_oo T q ^^^ s)))
theorem t_ps_fp {T : tr_T} (ht : t_ok T) (s q : Nat) : t_ps (t_fp T (fun h => s.testBit h) q) q = t_pw T q s := by
  unfold t_ps t_pw
  rw [t_for_fp ht]
  rfl
theorem t_pw0 {T : tr_T} (ht : t_ok T) (q : Nat) : t_pw T q 0 = t_ps T q := by
  unfold t_ps t_pw t_oo
  rw [Nat.xor_zero, t_vw_for ht]
section OPD
variable {g N : Nat} {sw lv : Bool} {I : Nat → Nat → Int32} {L : Nat → Nat → Int64} {T : tr_T} {E : e_E} {mb : Nat}
theorem rM_tAL {s : Nat} (hs : s < 256) {n q : Nat} (hn : n ≤ 8) : ∀ c k (I : Nat → Nat → Int32), k + c = n → I 151 0 = Int32.ofNat n → ∃ I', am_R 232 2 2 [.ref 147, .int (Int32.ofNat s), .int (Int32.ofNat q), .int (Int32.ofNat k)] [] (am_hp g N sw lv I L) = some (.inl none, am_hp g N sw lv I' L) ∧ (∀ a, a ≠ 165 → a ≠ 166 → I' a = I a) ∧ ∀ h, h < n → I' 165 h = cond (decide (k ≤ h) && s.testBit h) (I 165 h ^^^ ((1 : Int32) <<< (Int32.ofNat q &&& 31))) (I 165 h) ∧ I' 166 h = cond (decide (k ≤ h) && s.testBit h) (I 166 h ^^^ ((1 : Int32) <<< (Int32.ofNat q &&& 31))) (I 166 h)
  | 0, k, I, hc, h0 => ⟨I, by
    rw [y_Mo_turnAll_2 _ _ _, h0, nb_dle (by omega) (by omega), d_t (by omega : n ≤ k)], fun _ _ _ => rfl, fun h hh => by
      rw [decide_eq_false (by omega : ¬ k ≤ h)]
      exact ⟨rfl, rfl⟩⟩
  | c + 1, k, I, hc, h0 => by
    have e0 := y_Mo_turnAll_2 (g := g) (N := N) (sw := sw) (lv := lv) (I := I) (L := L) (Int32.ofNat s) (Int32.ofNat q) (Int32.ofNat k)
    rw [h0, nb_dle (by omega) (by omega), d_f (by omega : ¬ n ≤ k), m_isof _ hs _ (by omega), i_b0, nb_inb (show k < 8 by omega) (by omega), nb_tn (show k < 100000 by omega), nb_s] at e0
    simp only [cond_true] at e0
    cases hb : s.testBit k with
    | false =>
      rw [hb] at e0
      obtain ⟨I', a1, a2, a3⟩ := rM_tAL hs (q := q) hn c (k + 1) I (by omega) h0
      refine ⟨I', e0.trans a1, a2, fun h hh => ?_⟩
      by_cases e : h = k
      · subst e
        have := a3 h hh
        rw [hb, Bool.and_false] at this ⊢
        exact this
      · rw [show decide (k ≤ h) = decide (k + 1 ≤ h) from decide_eq_decide.mpr (by omega)]
        exact a3 h hh
    | true =>
      rw [hb] at e0
      obtain ⟨I', a1, a2, a3⟩ := rM_tAL hs (q := q) hn c (k + 1) (am_up (am_up I 165 (upd (I 165) k (I 165 k ^^^ ((1 : Int32) <<< (Int32.ofNat q &&& 31))))) 166 (upd (I 166) k (I 166 k ^^^ ((1 : Int32) <<< (Int32.ofNat q &&& 31))))) (by omega) (by rw [up_ne (by decide), up_ne (by decide)]; exact h0)
      refine ⟨I', e0.trans a1, fun a h1 h2 => by rw [a2 a h1 h2, up_ne h2, up_ne h1], fun h hh => ?_⟩
      have h3 := a3 h hh
      rw [up_ne (show 165 ≠ 166 by decide), up_same, up_same] at h3
      by_cases e : h = k
      · subst e
        rw [decide_eq_false (by omega : ¬ h + 1 ≤ h), upd_same, upd_same] at h3
        rw [hb, decide_eq_true (Nat.le_refl h)]
        exact h3
      · rw [show decide (k ≤ h) = decide (k + 1 ≤ h) from decide_eq_decide.mpr (by omega)]
        rw [upd_ne e, upd_ne e] at h3
        exact h3
theorem rM_tA (hr : rM T I) (ht : t_ok T) {s q : Nat} (hs : s < 256) (hq : q < 6) : ∃ I', am_R 232 2 0 [.ref 147, .int (Int32.ofNat s), .int (Int32.ofNat q), am_u] [] (am_hp g N sw lv I L) = some (.inl none, am_hp g N sw lv I' L) ∧ rM (t_fp T (fun h => s.testBit h) q) I' ∧ ∀ a, a ≠ 165 → a ≠ 166 → I' a = I a := by
  have hn := ht.1
  obtain ⟨I', a1, a2, a3⟩ := rM_tAL (g := g) (N := N) (sw := sw) (lv := lv) (L := L) hs (q := q) hn (t_n T) 0 I (by omega) hr.1
  have key : ∀ (b : Bool) (v : Nat), v < 64 → cond (decide (0 ≤ 0) && b) (Int32.ofNat v ^^^ ((1 : Int32) <<< (Int32.ofNat q &&& 31))) (Int32.ofNat v) = Int32.ofNat (cond b (v ^^^ 2 ^ q) v) := by
    intro b v hv
    rw [bt_shl q (by omega), bt_xor v (by omega) _ (b_2p (by omega))]
    cases b <;> rfl
  refine ⟨I', ?_, ⟨?_, ?_, ?_, fun h hh => ?_, fun k hk => ?_⟩, a2⟩
  · rw [y_Mo_turnAll_0 _ _]
    exact a1
  · rw [a2 151 (by decide) (by decide)]
    exact hr.1
  · rw [a2 147 (by decide) (by decide)]
    exact hr.2.1
  · rw [a2 147 (by decide) (by decide)]
    exact hr.2.2.1
  · obtain ⟨b1, b2⟩ := a3 h hh
    obtain ⟨c1, c2, c3, c4⟩ := hr.2.2.2.1 h hh
    have ho := ht.2.2.2.1 h hh
    refine ⟨?_, ?_, ?_, ?_⟩
    · rw [a2 162 (by decide) (by decide)]
      exact c1
    · rw [a2 163 (by decide) (by decide)]
      exact c2
    · rw [b1, c3, show decide (0 ≤ h) = decide (0 ≤ 0) from decide_eq_decide.mpr (by omega)]
      exact key _ _ ho.2.2.1
    · rw [b2, c4, show decide (0 ≤ h) = decide (0 ≤ 0) from decide_eq_decide.mpr (by omega)]
      exact key _ _ ho.2.2.2.1
  · rw [a2 164 (by decide) (by decide)]
    exact hr.2.2.2.2 k hk
/-- the reference turns some, asks whether q passes, turns them back -/
theorem mR_165 {I1 I2 : Nat → Nat → Int32} (r : mR T I I1) (e : ∀ a, a ≠ 165 → a ≠ 166 → I2 a = I1 a) (hr : rM T I2) : mR T I I2 :=
  ⟨hr, zM_tr r.2.1 ⟨fun a _ q2 => e a (by omega) (by omega), fun j _ _ _ _ _ _ => by rw [e 147 (by decide) (by decide)]⟩, by rw [e 147 (by decide) (by decide)]; exact r.2.2.1, by rw [e 147 (by decide) (by decide)]; exact r.2.2.2⟩
def tt_w (T : tr_T) (s : Nat) (a : Option Nat) : Bool := match a with
  | none => true
  | some b => decide (b_pc s < b_pc b)
def tt_f (T : tr_T) (q s : Nat) (a : Option Nat) : Option Nat := cond (decide (s &&& b_no (t_n T) (t_s T) = 0) && (tt_w T s a && !(t_pw T q s == t_ps T q))) (some s) a
def sp_toTurn (T : tr_T) (x1 : Int32) : a_O := cond (gH 6 x1) (.inl (oi (fd (2 ^ t_n T) (tt_f T x1.toNatClampNeg) none))) (.inr 0)
theorem tt_lt (T : tr_T) (q : Nat) : ∀ k b, fd k (tt_f T q) none = some b → b < k
  | 0, _, h => by cases h
  | k + 1, b, h => by
    have h' : cond (decide (k &&& b_no (t_n T) (t_s T) = 0) && (tt_w T k (fd k (tt_f T q) none) && !(t_pw T q k == t_ps T q))) (some k) (fd k (tt_f T q) none) = some b := h
    cases hc : (decide (k &&& b_no (t_n T) (t_s T) = 0) && (tt_w T k (fd k (tt_f T q) none) && !(t_pw T q k == t_ps T q))) with
    | true =>
      rw [hc] at h'
      cases h'
      exact Nat.lt_succ_self _
    | false =>
      rw [hc] at h'
      have := tt_lt T q k b h'
      omega
theorem C_ttL (hr : rC 99 T I) (ht : t_ok T) {q : Nat} (hq : q < 6) : ∀ c k (w6 w7 : Value), k + c = 2 ^ t_n T → am_R 108 6 28 [.ref 75, .int (Int32.ofNat q), .int (Int32.ofNat (t_oo T q)), .int (cond (t_ps T q) 1 0), .int (oi (fd k (tt_f T q) none)), .int (Int32.ofNat k), w6, w7] [] (am_hp g N sw lv I L) = some (.inl (some (.int (oi (fd (2 ^ t_n T) (tt_f T q) none)))), am_hp g N sw lv I L)
  | 0, k, w6, w7, hc => by
    have hn := ht.1
    have h8 : (2 : Nat) ^ t_n T ≤ 2 ^ 8 := Nat.pow_le_pow_right (by decide) hn
    rw [y_Ca_toTurn_28 _ _ _ _ _ _ _, hr.1, b_p2 _ (by omega), nb_dle (by omega) (by omega), d_t (by omega : 2 ^ t_n T ≤ k), show k = 2 ^ t_n T by omega]
  | c + 1, k, w6, w7, hc => by
    have hn := ht.1
    have h8 : (2 : Nat) ^ t_n T ≤ 2 ^ 8 := Nat.pow_le_pow_right (by decide) hn
    have hk : k < 2 ^ t_n T := by omega
    have ih := fun w6 w7 => C_ttL hr ht hq c (k + 1) w6 w7 (by omega)
    have hf : fd (k + 1) (tt_f T q) none = tt_f T q k (fd k (tt_f T q) none) := rfl
    have ho : t_oo T q < 256 := bs_256 hn
    have hlt := tt_lt T q k
    rw [y_Ca_toTurn_28 _ _ _ _ _ _ _, hr.1, b_p2 _ (by omega), nb_dle (by omega) (by omega), d_f (by omega : ¬ 2 ^ t_n T ≤ k), hr.2.2.1, b_andn k (by omega) _ (b_256 hn ht.2.1), b_nn hn ht.2.1 hk, show decide (Int32.ofNat (k &&& b_no (t_n T) (t_s T)) = 0) = decide (k &&& b_no (t_n T) (t_s T) = 0) from nb_deq (b := 0) (Nat.lt_of_le_of_lt Nat.and_le_left (by omega)) (by omega), bt_xor _ ho _ (by omega), rC_passW a_99 hr ht (Nat.xor_lt_two_pow (n := 8) ho (by omega)), am_bd_ok, am_tl, y_Ca_toTurn_111 _ _ _ _ _ _ _ _, i_b2, nb_s, b_pc_c k (by omega)]
    show cond _ (cond _ (cond (t_pw T q k == t_ps T q) _ _) (cond _ _ (cond (t_pw T q k == t_ps T q) _ _))) _ = _
    generalize ha : fd k (tt_f T q) none = a at *
    cases hA : decide (k &&& b_no (t_n T) (t_s T) = 0) with
    | false =>
      have e : tt_f T q k a = a := by
        unfold tt_f
        rw [hA]
        rfl
      rw [hf, e] at ih
      rw [cond_false]
      cases decide (oi a = (-1)) with
      | true => exact ih _ _
      | false =>
        rw [cond_false]
        cases decide (v_In_bitCount (oi a) ≤ Int32.ofNat (b_pc k)) with
        | true => exact ih _ _
        | false => exact ih _ _
    | true =>
      rw [cond_true]
      cases a with
      | none =>
        rw [show oi none = -1 from rfl, d_t rfl]
        cases hP : (t_pw T q k == t_ps T q) with
        | true =>
          have e : tt_f T q k none = none := by
            unfold tt_f
            rw [hA, hP]
            rfl
          rw [hf, e] at ih
          exact ih _ _
        | false =>
          have e : tt_f T q k none = some k := by
            unfold tt_f
            rw [hA, hP]
            rfl
          rw [hf, e] at ih
          exact ih _ _
      | some b =>
        have hb := hlt b rfl
        have p1 := b_pc_le k
        have p2 := b_pc_le b
        rw [show oi (some b) = Int32.ofNat b from rfl, d_f (nb_n1 (by omega)), b_pc_c b (by omega), nb_dle (by omega) (by omega)]
        by_cases hw : b_pc b ≤ b_pc k
        · have e : tt_f T q k (some b) = some b := by
            show cond (_ && (decide (b_pc k < b_pc b) && _)) _ _ = _
            rw [decide_eq_false (by omega : ¬ b_pc k < b_pc b), Bool.false_and, Bool.and_false]
            rfl
          rw [hf, e] at ih
          rw [d_t hw]
          exact ih _ _
        · rw [d_f hw]
          cases hP : (t_pw T q k == t_ps T q) with
          | true =>
            have e : tt_f T q k (some b) = some b := by
              unfold tt_f
              rw [hA, hP, show (!true) = false from rfl, Bool.and_false, Bool.and_false]
              rfl
            rw [hf, e] at ih
            exact ih _ _
          | false =>
            have e : tt_f T q k (some b) = some k := by
              unfold tt_f tt_w
              rw [hA, hP]
              show cond (true && (decide (b_pc k < b_pc b) && !false)) _ _ = _
              rw [decide_eq_true (by omega : b_pc k < b_pc b)]
              rfl
            rw [hf, e] at ih
            exact ih _ _
theorem tt_0 (ht : t_ok T) (q : Nat) : fd 1 (tt_f T q) none = none := by
  show tt_f T q 0 none = none
  unfold tt_f
  rw [t_pw0 ht, beq_self_eq_true, show (!true) = false from rfl, Bool.and_false, Bool.and_false]
  rfl
theorem C_toTurn (h : cC E mb T sw I) (ht : t_ok T) (x1 : Int32) : oC g N sw lv L I (am_R 108 6 0 [.ref 75, .int x1, am_u, am_u, am_u, am_u, am_u, am_u] [] (am_hp g N sw lv I L)) (sp_toTurn T x1) := by
  have h1p : 0 < (2 : Nat) ^ t_n T := Nat.two_pow_pos _
  rw [y_Ca_toTurn_0 _, g_6]
  unfold sp_toTurn
  cases h1 : gH 6 x1 with
  | false => exact oC_t rfl
  | true =>
    obtain ⟨q, hq, rfl⟩ := gH_at (by decide) h1
    have hl := C_ttL (g := g) (N := N) (sw := sw) (lv := lv) (L := L) h.2.1 ht hq (2 ^ t_n T - 1) 1 am_u am_u (by omega)
    rw [tt_0 ht] at hl
    simp only [cond_true]
    rw [nb_tn (show q < 100000 by omega), rC_opsOn a_99 h.2.1 ht (show q < 8 by omega), am_bd_ok, am_tl, y_Ca_toTurn_12 _ _, rC_pass a_99 h.2.1 ht (show q < 8 by omega), am_bd_ok, am_tl, y_Ca_toTurn_21 _ _ _]
    exact oC_v zf_rfl hl
theorem M_ttT (h : cM E mb T I) (ht : t_ok T) {q : Nat} (hq : q < 6) {k : Nat} (hk : k < 256) (x3 : Int32) {I1 : Nat → Nat → Int32} (r : mR T I I1) : ∃ I2, am_bd (am_R 232 2 0 [.ref 147, .int (Int32.ofNat k), .int (Int32.ofNat q), am_u] [] (am_hp g N sw lv I1 L)) (fun v h => am_R 231 7 79 [.ref 147, .int (Int32.ofNat q), .int (cond (t_ps T q) 1 0), .int x3, .int (Int32.ofNat k)] (v.toList ++ []) h) (fun c h => some (.inr c, h)) = am_R 231 7 29 [.ref 147, .int (Int32.ofNat q), .int (cond (t_ps T q) 1 0), .int (cond (t_pw T q k == t_ps T q) x3 (Int32.ofNat k)), .int (Int32.ofNat (k + 1))] [] (am_hp g N sw lv I2 L) ∧ mR T I I2 := by
  obtain ⟨I2, a1, a2, a3⟩ := rM_tA (g := g) (N := N) (sw := sw) (lv := lv) (L := L) r.1 ht hk hq
  obtain ⟨I3, b1, b2, b3⟩ := rM_tA (g := g) (N := N) (sw := sw) (lv := lv) (L := L) a2 (t_fp_ok ht hq) hk hq
  rw [t_fp2] at b2
  have r3 : mR T I I3 := mR_165 r (fun a q1 q2 => by rw [b3 a q1 q2, a3 a q1 q2]) b2
  refine ⟨I3, ?_, r3⟩
  rw [a1, am_bd_ok, am_tn, y_Mo_toTurn_79 _ _ _ _, rM_pass a2 (t_fp_ok ht hq) (show q < 8 by omega), am_bd_ok, am_tl, y_Mo_toTurn_84 _ _ _ _ _, i_b2, t_ps_fp ht, b1, am_bd_ok, am_bd_ok, am_tn, y_Mo_toTurn_98 _ _ _ _, y_Mo_toTurn_98 _ _ _ _, nb_s]
  cases (t_pw T q k == t_ps T q) <;> rfl
theorem M_ttL (h : cM E mb T I) (ht : t_ok T) {q : Nat} (hq : q < 6) : ∀ c k (I1 : Nat → Nat → Int32), k + c = 2 ^ t_n T → mR T I I1 → ∃ I2, am_R 231 7 29 [.ref 147, .int (Int32.ofNat q), .int (cond (t_ps T q) 1 0), .int (oi (fd k (tt_f T q) none)), .int (Int32.ofNat k)] [] (am_hp g N sw lv I1 L) = some (.inl (some (.int (oi (fd (2 ^ t_n T) (tt_f T q) none)))), am_hp g N sw lv I2 L) ∧ mR T I I2
  | 0, k, I1, hc, r => ⟨I1, by
    have hn := ht.1
    have h8 : (2 : Nat) ^ t_n T ≤ 2 ^ 8 := Nat.pow_le_pow_right (by decide) hn
    rw [y_Mo_toTurn_29 _ _ _ _, r.1.1, b_p2 _ (by omega), nb_dle (by omega) (by omega), d_t (by omega : 2 ^ t_n T ≤ k), show k = 2 ^ t_n T by omega], r⟩
  | c + 1, k, I1, hc, r => by
    have hn := ht.1
    have h8 : (2 : Nat) ^ t_n T ≤ 2 ^ 8 := Nat.pow_le_pow_right (by decide) hn
    have hk : k < 2 ^ t_n T := by omega
    have hf : fd (k + 1) (tt_f T q) none = tt_f T q k (fd k (tt_f T q) none) := rfl
    have hlt := tt_lt T q k
    have ih := fun I1 r => M_ttL h ht hq c (k + 1) I1 (by omega) r
    rw [hf] at ih
    rw [y_Mo_toTurn_29 _ _ _ _, r.1.1, b_p2 _ (by omega), nb_dle (by omega) (by omega), d_f (by omega : ¬ 2 ^ t_n T ≤ k), r.1.2.2.1, bt_and k (by omega) _ (b_no_lt _ (by omega) _ ht.2.1), show decide (Int32.ofNat (k &&& b_no (t_n T) (t_s T)) = 0) = decide (k &&& b_no (t_n T) (t_s T) = 0) from nb_deq (b := 0) (Nat.lt_of_le_of_lt Nat.and_le_left (by omega)) (by omega), y_Mo_toTurn_98 _ _ _ _, nb_s]
    generalize ha : fd k (tt_f T q) none = a at *
    cases hA : decide (k &&& b_no (t_n T) (t_s T) = 0) with
    | false =>
      have e : tt_f T q k a = a := by
        unfold tt_f
        rw [hA]
        rfl
      rw [e] at ih
      exact ih I1 r
    | true =>
      rw [cond_true]
      obtain ⟨I2, b1, r2⟩ := M_ttT (g := g) (N := N) (sw := sw) (lv := lv) (L := L) h ht hq (show k < 256 by omega) (oi a) r
      obtain ⟨I3, c1, r3⟩ := ih I2 r2
      cases a with
      | none =>
        refine ⟨I3, ?_, r3⟩
        rw [show decide (oi none = -1) = true from rfl, cond_true, b1]
        cases hP : (t_pw T q k == t_ps T q) with
        | true =>
          have e : tt_f T q k none = none := by
            unfold tt_f
            rw [hA, hP]
            rfl
          rw [e] at c1
          exact c1
        | false =>
          have e : tt_f T q k none = some k := by
            unfold tt_f
            rw [hA, hP]
            rfl
          rw [e] at c1
          exact c1
      | some b =>
        have hb := hlt b rfl
        have p1 := b_pc_le k
        have p2 := b_pc_le b
        rw [d_f (show ¬ oi (some b) = -1 from nb_n1 (by omega)), m_bits (by omega), am_bd_ok, am_tl, y_Mo_toTurn_62 _ _ _ _ _, show oi (some b) = Int32.ofNat b from rfl, m_bits (by omega), am_bd_ok, am_tl, y_Mo_toTurn_66 _ _ _ _ _ _, nb_dlt (by omega) (by omega), y_Mo_toTurn_98 _ _ _ _, nb_s]
        by_cases hw : b_pc k < b_pc b
        · rw [d_t hw]
          refine ⟨I3, ?_, r3⟩
          refine b1.trans ?_
          cases hP : (t_pw T q k == t_ps T q) with
          | true =>
            have e : tt_f T q k (some b) = some b := by
              unfold tt_f
              rw [hA, hP, show (!true) = false from rfl, Bool.and_false, Bool.and_false]
              rfl
            rw [e] at c1
            exact c1
          | false =>
            have e : tt_f T q k (some b) = some k := by
              unfold tt_f tt_w
              rw [hA, hP]
              show cond (true && (decide (b_pc k < b_pc b) && !false)) _ _ = _
              rw [decide_eq_true hw]
              rfl
            rw [e] at c1
            exact c1
        · rw [d_f hw]
          have e : tt_f T q k (some b) = some b := by
            show cond (_ && (decide (b_pc k < b_pc b) && _)) _ _ = _
            rw [decide_eq_false hw, Bool.false_and, Bool.and_false]
            rfl
          rw [e] at ih
          exact ih I1 r
theorem M_toTurn (h : cM E mb T I) (ht : t_ok T) (x1 : Int32) : oM g N sw lv L T I k1 (am_R 231 7 0 [.ref 147, .int x1, am_u, am_u, am_u] [] (am_hp g N sw lv I L)) (sp_toTurn T x1) := by
  have h4 := cM_4 h 0
  obtain ⟨q1, q2⟩ := m_q x1
  rw [y_Mo_toTurn_0 _, q1, q2]
  unfold sp_toTurn
  cases h1 : gH 6 x1 with
  | false => exact oM_t (c := 0) h rfl
  | true =>
    obtain ⟨q, hq, rfl⟩ := gH_at (by decide) h1
    obtain ⟨I3, b1, r3⟩ := M_ttL (g := g) (N := N) (sw := sw) (lv := lv) (L := L) h ht hq (2 ^ t_n T) 0 _ (by omega) (mR_0 h)
    simp only [cond_true]
    rw [d_f (by decide : ¬ (1 : Int32) = 0), nb_tn (show q < 100000 by omega), rM_pass h4.2.1 ht (show q < 8 by omega), am_bd_ok, am_tl, y_Mo_toTurn_23 _ _]
    exact oM_r r3 b1
def sp_margin (T : tr_T) (x1 : Int32) : a_O := cond (gH 6 x1) (.inl (2 * Int32.ofNat (b_pc (t_for T x1.toNatClampNeg)) - Int32.ofNat (b_pc (t_s T)))) (.inr 0)
theorem C_marg (hr : rC 99 T I) (ht : t_ok T) {q : Nat} (hq : q < 6) : am_R 49 5 0 [.ref 75, .int (Int32.ofNat q)] [] (am_hp g N sw lv I L) = some (.inl (some (.int (2 * Int32.ofNat (b_pc (t_for T q)) - Int32.ofNat (b_pc (t_s T))))), am_hp g N sw lv I L) := by
  have hn := ht.1
  rw [y_Ca_marginOn_0 _, rC_votF a_99 hr ht (show q < 8 by omega), am_bd_ok, am_tl, y_Ca_marginOn_9 _ _ _, b_pc_c (t_for T q) (bs_256 hn), hr.2.2.1, b_pc_c _ (b_256 hn ht.2.1)]
theorem C_margin (h : cC E mb T sw I) (ht : t_ok T) (x1 : Int32) : oC g N sw lv L I (am_R 121 6 0 [.ref 75, .int x1] [] (am_hp g N sw lv I L)) (sp_margin T x1) := by
  rw [y_Ca_margin_0 _, g_6]
  unfold sp_margin
  cases h1 : gH 6 x1 with
  | false => exact oC_t rfl
  | true =>
    obtain ⟨q, hq, rfl⟩ := gH_at (by decide) h1
    simp only [cond_true]
    rw [nb_tn (show q < 100000 by omega), C_marg h.2.1 ht hq, am_bd_ok, am_tl, y_Ca_margin_9 _ _]
    exact oC_v zf_rfl rfl
theorem M_margin (h : cM E mb T I) (ht : t_ok T) (x1 : Int32) : oM g N sw lv L T I k1 (am_R 227 6 0 [.ref 147, .int x1] [] (am_hp g N sw lv I L)) (sp_margin T x1) := by
  have hn := ht.1
  have h4 := cM_4 h 0
  obtain ⟨q1, q2⟩ := m_q x1
  rw [y_Mo_margin_0 _, q1, q2]
  unfold sp_margin
  cases h1 : gH 6 x1 with
  | false => exact oM_t (c := 0) h rfl
  | true =>
    obtain ⟨q, hq, rfl⟩ := gH_at (by decide) h1
    simp only [cond_true]
    rw [d_f (by decide : ¬ (1 : Int32) = 0), nb_tn (show q < 100000 by omega), rM_for h4.2.1 ht (show q < 8 by omega), am_bd_ok, am_tl, y_Mo_margin_18 _ _ _, m_bits (v := t_for T q) (bs_256 hn), am_bd_ok, am_tl, y_Mo_margin_21 _ _ _, rM_standing h4.2.1 ht, m_bits (b_256 hn ht.2.1), am_bd_ok, am_tl, y_Mo_margin_29 _ _ _]
    exact oM_v h rfl
/-- on which all agree -/
def t_ag (T : tr_T) (q : Nat) : Bool := decide (t_for T q = 0) || decide (t_for T q = t_s T)
def sp_agreed (T : tr_T) : a_O := .inl (Int32.ofNat (bs 6 (t_ag T)))
theorem C_agrL (hr : rC 99 T I) (ht : t_ok T) : ∀ c k (w3 : Value), k + c = 6 → am_R 42 5 4 [.ref 75, .int (Int32.ofNat (bs k (t_ag T))), .int (Int32.ofNat k), w3] [] (am_hp g N sw lv I L) = some (.inl (some (.int (Int32.ofNat (bs 6 (t_ag T))))), am_hp g N sw lv I L)
  | 0, k, w3, hc => by
    rw [y_Ca_agreed_4 _ _ _, nb_ge6 (by omega), d_t (by omega : 6 ≤ k), show k = 6 by omega]
  | c + 1, k, w3, hc => by
    have hn := ht.1
    have ih := fun w3 => C_agrL hr ht c (k + 1) w3 (by omega)
    have hf : t_for T k < 256 := bs_256 hn
    have hs := b_256 hn ht.2.1
    rw [y_Ca_agreed_4 _ _ _, nb_ge6 (by omega), d_f (by omega : ¬ 6 ≤ k), rC_votF a_99 hr ht (show k < 8 by omega), am_bd_ok, am_tl, y_Ca_agreed_18 _ _ _ _, hr.2.2.1, nb_deq (by omega) (by omega), show decide (Int32.ofNat (t_for T k) = 0) = decide (t_for T k = 0) from nb_deq (b := 0) (by omega) (by omega), nb_s, bt_on _ (bs_256 (by omega)) _ (by omega)]
    cases h1 : decide (t_for T k = 0) with
    | true =>
      rw [bs_t (P := t_ag T) (show t_ag T k = true by unfold t_ag; rw [h1]; rfl)] at ih
      exact ih _
    | false =>
      cases h2 : decide (t_for T k = t_s T) with
      | true =>
        rw [bs_t (P := t_ag T) (show t_ag T k = true by unfold t_ag; rw [h1, h2]; rfl)] at ih
        exact ih _
      | false =>
        rw [bs_f (P := t_ag T) (show t_ag T k = false by unfold t_ag; rw [h1, h2]; rfl)] at ih
        exact ih _
theorem C_agreed (h : cC E mb T sw I) (ht : t_ok T) : oC g N sw lv L I (am_R 42 5 0 [.ref 75, am_u, am_u, am_u] [] (am_hp g N sw lv I L)) (sp_agreed T) := by
  rw [y_Ca_agreed_0]
  exact oC_v zf_rfl (C_agrL h.2.1 ht 6 0 am_u (by omega))
theorem M_agrL (hr : rM T I) (ht : t_ok T) : ∀ c k, k + c = 6 → am_R 228 6 9 [.ref 147, .int (Int32.ofNat (bs k (t_ag T))), .int (Int32.ofNat k)] [] (am_hp g N sw lv I L) = some (.inl (some (.int (Int32.ofNat (bs 6 (t_ag T))))), am_hp g N sw lv I L)
  | 0, k, hc => by
    rw [y_Mo_agreed_9 _ _, nb_ge6 (by omega), d_t (by omega : 6 ≤ k), show k = 6 by omega]
  | c + 1, k, hc => by
    have hn := ht.1
    have ih := M_agrL hr ht c (k + 1) (by omega)
    have hf : t_for T k < 256 := bs_256 hn
    have hs := b_256 hn ht.2.1
    rw [y_Mo_agreed_9 _ _, nb_ge6 (by omega), d_f (by omega : ¬ 6 ≤ k), rM_for hr ht (show k < 8 by omega), am_bd_ok, am_tl, y_Mo_agreed_21 _ _ _ _, rM_for hr ht (show k < 8 by omega), am_bd_ok, am_tl, y_Mo_agreed_29 _ _ _ _, rM_standing hr ht, nb_deq (by omega) (by omega), show decide (Int32.ofNat (t_for T k) = 0) = decide (t_for T k = 0) from nb_deq (b := 0) (by omega) (by omega), nb_s, bt_on _ (bs_256 (by omega)) _ (by omega), Int32.or_zero]
    cases h1 : decide (t_for T k = 0) with
    | true =>
      rw [bs_t (P := t_ag T) (show t_ag T k = true by unfold t_ag; rw [h1]; rfl)] at ih
      exact ih
    | false =>
      cases h2 : decide (t_for T k = t_s T) with
      | true =>
        rw [bs_t (P := t_ag T) (show t_ag T k = true by unfold t_ag; rw [h1, h2]; rfl)] at ih
        exact ih
      | false =>
        rw [bs_f (P := t_ag T) (show t_ag T k = false by unfold t_ag; rw [h1, h2]; rfl)] at ih
        exact ih
theorem M_agreed (h : cM E mb T I) (ht : t_ok T) : oM g N sw lv L T I k1 (am_R 228 6 0 [.ref 147, am_u, am_u] [] (am_hp g N sw lv I L)) (sp_agreed T) := by
  rw [y_Mo_agreed_0]
  exact oM_v h (M_agrL (cM_4 h 0).2.1 ht 6 0 (by omega))
/-- as many for it as against -/
def t_tie (T : tr_T) (q : Nat) : Bool := decide (2 * b_pc (t_for T q) = b_pc (t_s T))
def sp_ties (T : tr_T) : a_O := .inl (Int32.ofNat (bs 6 (t_tie T)))
theorem i_sub0 {a b : Nat} (ha : a < 100) (hb : b < 100) : decide (Int32.ofNat a - Int32.ofNat b = 0) = decide (a = b) := by
  refine decide_eq_decide.mpr ⟨fun q => ?_, fun q => by rw [q, Int32.sub_self]⟩
  have := congrArg Int32.toInt q
  rw [i_sub ((nb_le (a := 0) (by omega) (by omega)).mpr (by omega)) ((nb_le (a := 0) (by omega) (by omega)).mpr (by omega)), nb_ti (by omega), nb_ti (by omega)] at this
  have e0 : (0 : Int32).toInt = 0 := by decide
  omega
theorem C_tieL (hr : rC 99 T I) (ht : t_ok T) : ∀ c k, k + c = 6 → am_R 48 6 4 [.ref 75, .int (Int32.ofNat (bs k (t_tie T))), .int (Int32.ofNat k)] [] (am_hp g N sw lv I L) = some (.inl (some (.int (Int32.ofNat (bs 6 (t_tie T))))), am_hp g N sw lv I L)
  | 0, k, hc => by
    rw [y_Ca_ties_4 _ _, nb_ge6 (by omega), d_t (by omega : 6 ≤ k), show k = 6 by omega]
  | c + 1, k, hc => by
    have hn := ht.1
    have ih := C_tieL hr ht c (k + 1) (by omega)
    have h1 := b_pc_le (t_s T)
    have h2 := b_pc_le (t_for T k)
    rw [y_Ca_ties_4 _ _, nb_ge6 (by omega), d_f (by omega : ¬ 6 ≤ k), C_marg hr ht (by omega), am_bd_ok, am_tl, y_Ca_ties_15 _ _ _, nb_two, i_sub0 (by omega) (by omega), nb_s, bt_on _ (bs_256 (by omega)) _ (by omega)]
    cases h3 : decide (2 * b_pc (t_for T k) = b_pc (t_s T)) with
    | true =>
      rw [bs_t (P := t_tie T) h3] at ih
      exact ih
    | false =>
      rw [bs_f (P := t_tie T) h3] at ih
      exact ih
theorem C_ties (h : cC E mb T sw I) (ht : t_ok T) : oC g N sw lv L I (am_R 48 6 0 [.ref 75, am_u, am_u] [] (am_hp g N sw lv I L)) (sp_ties T) := by
  rw [y_Ca_ties_0]
  exact oC_v zf_rfl (C_tieL h.2.1 ht 6 0 (by omega))
theorem M_tieL (hr : rM T I) (ht : t_ok T) : ∀ c k, k + c = 6 → am_R 246 6 9 [.ref 147, .int (Int32.ofNat (bs k (t_tie T))), .int (Int32.ofNat k)] [] (am_hp g N sw lv I L) = some (.inl (some (.int (Int32.ofNat (bs 6 (t_tie T))))), am_hp g N sw lv I L)
  | 0, k, hc => by
    rw [y_Mo_ties_9 _ _, nb_ge6 (by omega), d_t (by omega : 6 ≤ k), show k = 6 by omega]
  | c + 1, k, hc => by
    have hn := ht.1
    have ih := M_tieL hr ht c (k + 1) (by omega)
    have h1 := b_pc_le (t_s T)
    have h2 := b_pc_le (t_for T k)
    rw [y_Mo_ties_9 _ _, nb_ge6 (by omega), d_f (by omega : ¬ 6 ≤ k), rM_for hr ht (show k < 8 by omega), am_bd_ok, am_tl, y_Mo_ties_22 _ _ _ _ _, m_bits (v := t_for T k) (bs_256 hn), am_bd_ok, am_tl, y_Mo_ties_25 _ _ _ _ _, rM_standing hr ht, m_bits (b_256 hn ht.2.1), am_bd_ok, am_tl, y_Mo_ties_33 _ _ _ _ _, nb_two, nb_deq (by omega) (by omega), nb_s, bt_on _ (bs_256 (by omega)) _ (by omega), Int32.or_zero]
    cases h3 : decide (2 * b_pc (t_for T k) = b_pc (t_s T)) with
    | true =>
      rw [bs_t (P := t_tie T) h3] at ih
      exact ih
    | false =>
      rw [bs_f (P := t_tie T) h3] at ih
      exact ih
theorem M_ties (h : cM E mb T I) (ht : t_ok T) : oM g N sw lv L T I k1 (am_R 246 6 0 [.ref 147, am_u, am_u] [] (am_hp g N sw lv I L)) (sp_ties T) := by
  rw [y_Mo_ties_0]
  exact oM_v h (M_tieL (cM_4 h 0).2.1 ht 6 0 (by omega))
def sp_wins (T : tr_T) (x1 : Int32) : a_O := cond (gH (t_n T) x1) (.inl (cond (t_up T x1.toNatClampNeg) (63 &&& ((Int32.ofNat (t_ba T x1.toNatClampNeg) ^^^ Int32.ofNat (t_pg T)) ^^^ (-1))) 0)) (.inr 0)
theorem C_wins (h : cC E mb T sw I) (ht : t_ok T) (x1 : Int32) : oC g N sw lv L I (am_R 122 5 0 [.ref 75, .int x1] [] (am_hp g N sw lv I L)) (sp_wins T x1) := by
  have hn := ht.1
  rw [y_Ca_wins_0 _, h.2.1.1, g_H]
  unfold sp_wins
  cases h1 : gH (t_n T) x1 with
  | false => exact oC_t rfl
  | true =>
    obtain ⟨k, hk, rfl⟩ := gH_at hn h1
    obtain ⟨I2, b1, b2⟩ := C_pgn (g := g) (N := N) (sw := sw) (lv := lv) (L := L) h.2.1 ht
    simp only [cond_true]
    rw [nb_tn (show k < 100000 by omega), rC_stands h.2.1 ht hk, rC_ballot a_99 h.2.1 ht hk, am_bd_ok, am_tl, y_Ca_wins_28 _ _ _, b1, am_bd_ok, am_tl, y_Ca_wins_35 _ _ _ _]
    cases t_up T k with
    | true => exact oC_v b2 rfl
    | false => exact oC_v zf_rfl rfl
theorem M_wins (h : cM E mb T I) (ht : t_ok T) (x1 : Int32) : oM g N sw lv L T I k1 (am_R 229 8 0 [.ref 147, .int x1] [] (am_hp g N sw lv I L)) (sp_wins T x1) := by
  have hn := ht.1
  have h4 := cM_4 h 0
  obtain ⟨q1, q2⟩ := m_H h4.2.1 ht x1
  rw [y_Mo_wins_0 _, q1, q2]
  unfold sp_wins
  cases h1 : gH (t_n T) x1 with
  | false => exact oM_t (c := 0) h rfl
  | true =>
    obtain ⟨k, hk, rfl⟩ := gH_at hn h1
    simp only [cond_true]
    rw [d_f (by decide : ¬ (1 : Int32) = 0), nb_tn (show k < 100000 by omega), rM_stands h4.2.1 ht hk, rM_votes h4.2.1 ht hk, am_bd_ok, am_tl, y_Mo_wins_34 _ _ _, rM_pg h4.2.1 ht, am_bd_ok, am_tl, y_Mo_wins_38 _ _ _ _]
    cases t_up T k with
    | true => exact oM_v h rfl
    | false => exact oM_v h rfl
/-- who leans far -/
def t_lf (T : tr_T) (h : Nat) : Bool := t_up T h && !decide (v_Ma_abs (t_le T h) < 5)
def sp_leaning (T : tr_T) : a_O := .inl (Int32.ofNat (bs (t_n T) (t_lf T)))
theorem C_leaL (hr : rC 99 T I) (ht : t_ok T) : ∀ c k, k + c = t_n T → am_R 50 2 4 [.ref 75, .int (Int32.ofNat (bs k (t_lf T))), .int (Int32.ofNat k)] [] (am_hp g N sw lv I L) = some (.inl (some (.int (Int32.ofNat (bs (t_n T) (t_lf T))))), am_hp g N sw lv I L)
  | 0, k, hc => by
    have hn := ht.1
    rw [y_Ca_leaning_4 _ _, hr.1, nb_dle (by omega) (by omega), d_t (by omega : t_n T ≤ k), show k = t_n T by omega]
  | c + 1, k, hc => by
    have hn := ht.1
    have hk : k < t_n T := by omega
    have ih := C_leaL hr ht c (k + 1) (by omega)
    rw [y_Ca_leaning_4 _ _, hr.1, nb_dle (by omega) (by omega), d_f (by omega : ¬ t_n T ≤ k), rC_stands hr ht hk, i_b0, nb_inb (show k < 8 by omega) (by omega), nb_tn (by omega), (hr.2.2.2.1 k hk).2.1, nb_s, bt_on _ (bs_256 (by omega)) _ (by omega)]
    cases hu : t_up T k with
    | false =>
      rw [bs_f (P := t_lf T) (show t_lf T k = false by unfold t_lf; rw [hu]; rfl)] at ih
      exact ih
    | true =>
      cases hl : decide (v_Ma_abs (t_le T k) < 5) with
      | true =>
        rw [bs_f (P := t_lf T) (show t_lf T k = false by unfold t_lf; rw [hu, hl]; rfl)] at ih
        exact ih
      | false =>
        rw [bs_t (P := t_lf T) (show t_lf T k = true by unfold t_lf; rw [hu, hl]; rfl)] at ih
        exact ih
theorem C_leaning (h : cC E mb T sw I) (ht : t_ok T) : oC g N sw lv L I (am_R 50 2 0 [.ref 75, am_u, am_u] [] (am_hp g N sw lv I L)) (sp_leaning T) := by
  rw [y_Ca_leaning_0]
  exact oC_v zf_rfl (C_leaL h.2.1 ht (t_n T) 0 (by omega))
theorem M_leaL (hr : rM T I) (ht : t_ok T) : ∀ c k, k + c = t_n T → am_R 247 3 9 [.ref 147, .int (Int32.ofNat (bs k (t_lf T))), .int (Int32.ofNat k)] [] (am_hp g N sw lv I L) = some (.inl (some (.int (Int32.ofNat (bs (t_n T) (t_lf T))))), am_hp g N sw lv I L)
  | 0, k, hc => by
    have hn := ht.1
    rw [y_Mo_leaning_9 _ _, hr.1, nb_dle (by omega) (by omega), d_t (by omega : t_n T ≤ k), show k = t_n T by omega]
  | c + 1, k, hc => by
    have hn := ht.1
    have hk : k < t_n T := by omega
    have ih := M_leaL hr ht c (k + 1) (by omega)
    rw [y_Mo_leaning_9 _ _, hr.1, nb_dle (by omega) (by omega), d_f (by omega : ¬ t_n T ≤ k), rM_stands hr ht hk, i_b0, nb_inb (show k < 8 by omega) (by omega), nb_tn (by omega), (hr.2.2.2.1 k hk).2.1, nb_s, bt_on _ (bs_256 (by omega)) _ (by omega), Int32.or_zero]
    cases hu : t_up T k with
    | false =>
      rw [bs_f (P := t_lf T) (show t_lf T k = false by unfold t_lf; rw [hu]; rfl)] at ih
      exact ih
    | true =>
      cases hl : decide (v_Ma_abs (t_le T k) < 5) with
      | true =>
        rw [bs_f (P := t_lf T) (show t_lf T k = false by unfold t_lf; rw [hu, hl]; rfl)] at ih
        exact ih
      | false =>
        rw [bs_t (P := t_lf T) (show t_lf T k = true by unfold t_lf; rw [hu, hl]; rfl)] at ih
        exact ih
theorem M_leaning (h : cM E mb T I) (ht : t_ok T) : oM g N sw lv L T I k1 (am_R 247 3 0 [.ref 147, am_u, am_u] [] (am_hp g N sw lv I L)) (sp_leaning T) := by
  rw [y_Mo_leaning_0]
  exact oM_v h (M_leaL (cM_4 h 0).2.1 ht (t_n T) 0 (by omega))
end OPD
