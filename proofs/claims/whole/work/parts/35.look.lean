/-! WHAT IS SEEN: look -/
/-- the set of some values below 64 -/
def us (o : Nat → Nat) : Nat → Nat
  | 0 => 0
  | k + 1 => us o k ||| 2 ^ o k
theorem us_lt {o : Nat → Nat} : ∀ k, (∀ i, i < k → o i < 64) → us o k < 18446744073709551616
  | 0, _ => by
    show (0 : Nat) < 18446744073709551616
    omega
  | k + 1, h => li_lt (us_lt k (fun i hi => h i (by omega))) (h k (by omega))
theorem us_congr {o p : Nat → Nat} : ∀ k, (∀ i, i < k → o i = p i) → us o k = us p k
  | 0, _ => rfl
  | k + 1, h => by
    show us o k ||| 2 ^ o k = us p k ||| 2 ^ p k
    rw [us_congr k (fun i hi => h i (by omega)), h k (by omega)]
def us_n (o : Nat → Nat) (k : Nat) : Nat := ct 64 (fun j => (us o k).testBit j)
def us_b (o : Nat → Nat) (i k : Nat) : Bool := !(us o k).testBit (o i)
theorem us_b_s (o : Nat → Nat) (i k : Nat) : us_b o i (k + 1) = (us_b o i k && !decide (o k = o i)) := by
  unfold us_b
  show (!(us o k ||| 2 ^ o k).testBit (o i)) = _
  rw [Nat.testBit_or, Nat.testBit_two_pow]
  cases (us o k).testBit (o i) <;> cases decide (o k = o i) <;> rfl
theorem us_n_s {o : Nat → Nat} {k : Nat} (h : o k < 64) : us_n o (k + 1) = us_n o k + cond (us_b o k k) 1 0 := by
  unfold us_n us_b
  show ct 64 (fun j => (us o k ||| 2 ^ o k).testBit j) = _
  rw [lp_ins h]
  cases (us o k).testBit (o k) <;> rfl
theorem us_n_le (o : Nat → Nat) (k : Nat) : us_n o k ≤ 64 := ct_le 64 _
def lk_v (E : e_E) (T : tr_T) (d m : Nat) : Nat := t_pg (t_dn E d (w_T T m))
theorem lk_v_lt (E : e_E) (T : tr_T) (d m : Nat) : lk_v E T d m < 64 := bs_lt 6 _
def lk_s (E : e_E) (W : s_W) (T : tr_T) (d k : Nat) : Nat := us (fun i => lk_v E T d ((w_o E W T k).2 i)) (w_o E W T k).1
def lk_n (E : e_E) (W : s_W) (T : tr_T) (d : Nat) : Nat := us_n (fun i => lk_v E T d ((w_o E W T 136).2 i)) (w_o E W T 136).1
def lo_f (E : e_E) (W : s_W) (T : tr_T) (n : Nat) (s : Nat × Int32) : Nat × Int32 := cond (decide (lk_n E W T (n + 1) ≤ s.1)) s (lk_n E W T (n + 1), Int32.ofNat (n + 1))
def lo_r (E : e_E) (W : s_W) (T : tr_T) (k : Nat) : Nat × Int32 := fd k (lo_f E W T) (0, -1)
theorem lo_le (E : e_E) (W : s_W) (T : tr_T) : ∀ k, (lo_r E W T k).1 ≤ 64
  | 0 => Nat.zero_le _
  | k + 1 => by
    have ih := lo_le E W T k
    show (lo_f E W T k (lo_r E W T k)).1 ≤ 64
    unfold lo_f
    cases decide (lk_n E W T (k + 1) ≤ (lo_r E W T k).1) with
    | true => exact ih
    | false => exact us_n_le _ _
def sp_look (E : e_E) (W : s_W) (T : tr_T) (x : Int32) : a_O := cond (gI 0 1 x) (.inl (cond (decide (x = 0)) (lo_r E W T 20).2 (Int32.ofNat (lo_r E W T 20).1))) (.inr 0)
theorem lk_s_f {E : e_E} {W : s_W} {T : tr_T} {d m : Nat} (h : w_f E W T m = false) : lk_s E W T d (m + 1) = lk_s E W T d m := by
  unfold lk_s
  rw [w_o_f h]
theorem lk_s_t {E : e_E} {W : s_W} {T : tr_T} {d m : Nat} (h : w_f E W T m = true) : lk_s E W T d (m + 1) = lk_s E W T d m ||| 2 ^ lk_v E T d m := by
  unfold lk_s
  rw [w_o_t h]
  show us (fun i => lk_v E T d (if i = (w_o E W T m).1 then m else (w_o E W T m).2 i)) (w_o E W T m).1 ||| 2 ^ lk_v E T d (if (w_o E W T m).1 = (w_o E W T m).1 then m else (w_o E W T m).2 (w_o E W T m).1) = _
  rw [if_pos rfl]
  congr 1
  refine us_congr _ (fun i hi => ?_)
  show lk_v E T d (if i = (w_o E W T m).1 then m else (w_o E W T m).2 i) = _
  rw [if_neg (by omega)]
theorem vL_same {f : Nat → Int64} {k : Nat} {x : Int64} : vp_updL f k x k = x := if_pos rfl
theorem vL_ne {f : Nat → Int64} {k j : Nat} {x : Int64} (h : j ≠ k) : vp_updL f k x j = f j := if_neg h
theorem nb_gt20 {k : Nat} (hk : k < 100000) : decide ((20 : Int32) < Int32.ofNat k) = decide (20 < k) := nb_dlt (a := 20) (by decide) hk
theorem nb_ge20 {k : Nat} (hk : k < 100000) : decide ((20 : Int32) ≤ Int32.ofNat k) = decide (20 ≤ k) := nb_dle (a := 20) (by decide) hk
section LOOK
variable {g N : Nat} {sw lv : Bool} {I : Nat → Nat → Int32} {L : Nat → Nat → Int64} {T : tr_T} {E : e_E} {mb : Nat} {W : s_W}
theorem C_lkA (x1 x2 : Int32) : ∀ c k (L1 : Nat → Nat → Int64), k + c = 21 → (∀ j, j < k → L1 146 j = Int64.ofNat 0) → (∀ a, a ≠ 146 → L1 a = L a) → ∃ L2, am_R 132 9 15 [.ref 75, .int x1, .int x2, .int (Int32.ofNat k), am_u, am_u, am_u] [] (am_hp g N sw lv I L1) = am_R 132 9 36 [.ref 75, .int x1, .int x2, .int 0, am_u, am_u, am_u] [] (am_hp g N sw lv I L2) ∧ (∀ j, j < 21 → L2 146 j = Int64.ofNat 0) ∧ ∀ a, a ≠ 146 → L2 a = L a
  | 0, k, L1, hc, h1, h2 => by
    refine ⟨L1, ?_, fun j hj => h1 j (by omega), h2⟩
    rw [y_Ca_look_15 _ _ _, nb_gt20 (by omega), d_t (by omega : 20 < k)]
  | c + 1, k, L1, hc, h1, h2 => by
    obtain ⟨L2, b1, b2, b3⟩ := C_lkA x1 x2 c (k + 1) (am_up L1 146 (vp_updL (L1 146) k 0)) (by omega) (fun j hj => by
      rw [up_same]
      by_cases q : j = k
      · rw [q, vL_same]
        rfl
      · rw [vL_ne q]
        exact h1 j (by omega)) (fun a p => by rw [up_ne p]; exact h2 a p)
    refine ⟨L2, ?_, b2, b3⟩
    rw [y_Ca_look_15 _ _ _, nb_gt20 (by omega), d_f (by omega : ¬ 20 < k), nb_inb (show k < 21 by omega) (by omega), nb_tn (by omega), nb_s]
    exact b1
theorem C_noL {v s : Nat → Nat} (hv : ∀ j, j < 21 → I 145 j = Int32.ofNat (v j) ∧ v j < 64) : ∀ c k (L1 : Nat → Nat → Int64), k + c = 21 → (∀ j, j < k → L1 146 j = Int64.ofNat (s j ||| 2 ^ v j)) → (∀ j, k ≤ j → j < 21 → L1 146 j = Int64.ofNat (s j)) → (∀ a, a ≠ 146 → L1 a = L a) → ∃ L2, am_R 133 1 2 [.ref 75, .int (Int32.ofNat k)] [] (am_hp g N sw lv I L1) = some (.inl none, am_hp g N sw lv I L2) ∧ (∀ j, j < 21 → L2 146 j = Int64.ofNat (s j ||| 2 ^ v j)) ∧ ∀ a, a ≠ 146 → L2 a = L a
  | 0, k, L1, hc, h1, h2, h3 => by
    refine ⟨L1, ?_, fun j hj => h1 j (by omega), h3⟩
    rw [y_Ca_noteOutcomes_2 _, nb_gt20 (by omega), d_t (by omega : 20 < k)]
  | c + 1, k, L1, hc, h1, h2, h3 => by
    obtain ⟨v1, v2⟩ := hv k (by omega)
    obtain ⟨L2, b1, b2, b3⟩ := C_noL hv c (k + 1) (am_up L1 146 (vp_updL (L1 146) k (Int64.ofNat (s k ||| 2 ^ v k)))) (by omega) (fun j hj => by
      rw [up_same]
      by_cases q : j = k
      · rw [q, vL_same]
      · rw [vL_ne q]
        exact h1 j (by omega)) (fun j hj hj2 => by
      rw [up_same, vL_ne (by omega)]
      exact h2 j (by omega) hj2) (fun a p => by rw [up_ne p]; exact h3 a p)
    refine ⟨L2, ?_, b2, b3⟩
    rw [y_Ca_noteOutcomes_2 _, nb_gt20 (by omega), d_f (by omega : ¬ 20 < k), nb_inb (show k < 21 by omega) (by omega), nb_tn (by omega), h2 k (by omega) (by omega), v1, li_ins v2, nb_s]
    exact b1
theorem C_lkL (h : cC E mb T sw I) (ht : t_ok T) (hd : t_d T ≤ 1000) (hw : wCs 121 W I) (hg : gW W) (x1 : Int32) : ∀ c m (I1 : Nat → Nat → Int32) (L1 : Nat → Nat → Int64), m + c = 136 → zf I I1 → (∀ j, j < 21 → L1 146 j = Int64.ofNat (lk_s E W T j m)) → (∀ a, a ≠ 146 → L1 a = L a) → ∃ I2 L2, am_R 132 9 36 [.ref 75, .int x1, .int (Int32.ofNat (w_l W)), .int (Int32.ofNat m), am_u, am_u, am_u] [] (am_hp g N sw lv I1 L1) = am_R 132 9 79 [.ref 75, .int x1, .int (Int32.ofNat (w_l W)), .int 0, .int (-1), .int 1, am_u] [] (am_hp g N sw lv I2 L2) ∧ zf I I2 ∧ (∀ j, j < 21 → L2 146 j = Int64.ofNat (lk_s E W T j 136)) ∧ ∀ a, a ≠ 146 → L2 a = L a
  | 0, m, I1, L1, hc, z, h1, h2 => by
    refine ⟨I1, L1, ?_, z, fun j hj => by rw [← show m = 136 by omega]; exact h1 j hj, h2⟩
    rw [y_Ca_look_36 _ _ _, show decide ((136 : Int32) ≤ Int32.ofNat m) = decide (136 ≤ m) from nb_dle (a := 136) (by decide) (by omega), d_t (by omega : 136 ≤ m)]
  | c + 1, m, I1, L1, hc, z, h1, h2 => by
    have hl := w_l_le hg
    obtain ⟨I2, a1, a2, a3⟩ := C_guess (g := g) (N := N) (lv := lv) (L := L1) h ht hd hw hg (show m < 136 by omega) z
    rw [y_Ca_look_36 _ _ _, show decide ((136 : Int32) ≤ Int32.ofNat m) = decide (136 ≤ m) from nb_dle (a := 136) (by decide) (by omega), d_f (by omega : ¬ 136 ≤ m), a1, am_bd_ok, am_tl, y_Ca_look_49 _ _ _ _, i_b0, y_Ca_look_65 _ _ _, nb_s, nb_s]
    cases hf : w_f E W T m with
    | false => exact C_lkL h ht hd hw hg x1 c (m + 1) I2 L1 (by omega) a2 (fun j hj => by rw [lk_s_f hf]; exact h1 j hj) h2
    | true =>
      obtain ⟨b1, b2⟩ := a3 hf
      obtain ⟨I3, c1, c2, c3, c4⟩ := C_foL (g := g) (N := N) (lv := lv) (L := L1) h (w_T_ok ht m) hd (Int32.ofNat (w_l W + 1)) (show 20 ≤ 20 by decide) (20 - w_l W) (w_l W + 1) I2 (by omega) a2 b1 b2
      obtain ⟨L2, d1, d2, d3⟩ := C_noL (g := g) (N := N) (sw := sw) (lv := lv) (I := I3) (L := L) (v := fun j => lk_v E T j m) (s := fun j => lk_s E W T j m) (fun j hj => ⟨c4 j (by omega), lk_v_lt E T j m⟩) 21 0 L1 (by omega) (fun j hj => by omega) (fun j _ hj => h1 j hj) h2
      obtain ⟨I4, L3, e1, e2, e3, e4⟩ := C_lkL h ht hd hw hg x1 c (m + 1) I3 L2 (by omega) c2 (fun j hj => by rw [lk_s_t hf]; exact d2 j hj) d3
      refine ⟨I4, L3, ?_, e2, e3, e4⟩
      simp only [Bool.not_true, cond_false]
      rw [y_Ca_foresee_0 _ _, show v_Ma_max 0 (Int32.ofNat (w_l W + 1)) = Int32.ofNat (w_l W + 1) from by
        rw [show (0 : Int32) = Int32.ofNat 0 from rfl, nb_max (by omega) (by omega), Nat.max_eq_right (by omega)], show (.int 20 : Value) = .int (Int32.ofNat 20) from rfl, c1, am_bd_ok, am_tn, y_Ca_look_61 _ _ _, y_Ca_noteOutcomes_0, show (.int 0 : Value) = .int (Int32.ofNat 0) from rfl, d1, am_bd_ok, am_tn, y_Ca_look_65 _ _ _, nb_s]
      exact e1
theorem C_lkZ (hL : ∀ j, j < 21 → L 146 j = Int64.ofNat (lk_s E W T j 136)) (x1 x2 : Int32) : ∀ c n (w6 : Value), n + c = 20 → am_R 132 9 79 [.ref 75, .int x1, .int x2, .int (Int32.ofNat (lo_r E W T n).1), .int (lo_r E W T n).2, .int (Int32.ofNat (n + 1)), w6] [] (am_hp g N sw lv I L) = some (.inl (some (.int (cond (decide (x1 = 0)) (lo_r E W T 20).2 (Int32.ofNat (lo_r E W T 20).1)))), am_hp g N sw lv I L)
  | 0, n, w6, hc => by
    rw [y_Ca_look_79 _ _ _ _ _ _, nb_gt20 (by omega), d_t (by omega : 20 < n + 1), show n = 20 by omega]
    cases decide (x1 = 0) <;> rfl
  | c + 1, n, w6, hc => by
    have ih := fun w6 => C_lkZ hL x1 x2 c (n + 1) w6 (by omega)
    have hle := lo_le E W T n
    have hn := us_n_le (fun i => lk_v E T (n + 1) ((w_o E W T 136).2 i)) (w_o E W T 136).1
    have e : v_Lo_bitCount (L 146 (n + 1)) = Int32.ofNat (lk_n E W T (n + 1)) := by
      rw [hL (n + 1) (by omega)]
      exact lp_pc (n := lk_s E W T (n + 1) 136) (us_lt _ (fun i _ => lk_v_lt E T _ _))
    rw [show lo_r E W T (n + 1) = lo_f E W T n (lo_r E W T n) from rfl] at ih
    rw [y_Ca_look_79 _ _ _ _ _ _, nb_gt20 (by omega), d_f (by omega : ¬ 20 < n + 1), nb_inb (show n + 1 < 21 by omega) (by omega), nb_tn (by omega), e, nb_dle (show lk_n E W T (n + 1) < 100000 from Nat.lt_of_le_of_lt hn (by decide)) (by omega), nb_s]
    unfold lo_f at ih
    cases hq : decide (lk_n E W T (n + 1) ≤ (lo_r E W T n).1) with
    | true =>
      rw [hq] at ih
      exact ih _
    | false =>
      rw [hq] at ih
      exact ih _
theorem C_look (h : cC E mb T sw I) (ht : t_ok T) (hd : t_d T ≤ 1000) (hw : wCs 121 W I) (hg : gW W) (x1 : Int32) : ∃ L', (∀ a, a ≠ 146 → L' a = L a) ∧ ∃ I', zf I I' ∧ match sp_look E W T x1 with
    | .inl v => am_R 132 9 0 [.ref 75, .int x1, am_u, am_u, am_u, am_u, am_u] [] (am_hp g N sw lv I L) = some (.inl (some (.int v)), am_hp g N sw lv I' L')
    | .inr c => am_R 132 9 0 [.ref 75, .int x1, am_u, am_u, am_u, am_u, am_u] [] (am_hp g N sw lv I L) = some (.inr c, am_hp (g + 1) N sw lv I' L') := by
  rw [y_Ca_look_0 _, g_I]
  unfold sp_look
  cases h1 : gI 0 1 x1 with
  | false => exact ⟨L, fun _ _ => rfl, I, zf_rfl, rfl⟩
  | true =>
    obtain ⟨L2, a1, a2, a3⟩ := C_lkA (g := g) (N := N) (sw := sw) (lv := lv) (I := I) (L := L) x1 (Int32.ofNat (w_l W)) 21 0 L (by omega) (fun j hj => by omega) (fun _ _ => rfl)
    obtain ⟨I3, L3, b1, b2, b3, b4⟩ := C_lkL (g := g) (N := N) (lv := lv) (L := L) h ht hd hw hg x1 136 0 I L2 (by omega) zf_rfl a2 a3
    have hz := C_lkZ (g := g) (N := N) (sw := sw) (lv := lv) (I := I3) b3 x1 (Int32.ofNat (w_l W)) 20 0 am_u (by omega)
    refine ⟨L3, b4, I3, b2, ?_⟩
    simp only [cond_true]
    rw [C_lat hw hg, am_bd_ok, am_tl, y_Ca_look_12 _ _, show (.int 0 : Value) = .int (Int32.ofNat 0) from rfl, a1, show (.int 0 : Value) = .int (Int32.ofNat 0) from rfl, b1]
    exact hz
/-! the reference -/
def lkF (E : e_E) (T : tr_T) (J I : Nat → Nat → Int32) (i n m : Nat) : Prop := I 147 48 = J 147 48 ∧ I 176 = J 176 ∧ (∀ k, k < 20 * i → I 177 k = J 177 k) ∧ ∀ j, j < n → I 177 (20 * i + j) = Int32.ofNat (lk_v E T (j + 1) m)
theorem M_loI (h : cM E mb T I) (ht : t_ok T) (hd : t_d T ≤ 1000) (x1 : Int32) {i m : Nat} (hi : i < 136) {J : Nat → Nat → Int32} : ∀ c n (I1 : Nat → Nat → Int32), n + c = 20 → mS T (t_dn E n (w_T T m)) I I1 → lkF E T J I1 i n m → ∃ I2, am_R 253 9 72 [.ref 147, .int x1, .int (Int32.ofNat i), .int (Int32.ofNat n), am_u, am_u] [] (am_hp g N sw lv I1 L) = am_R 253 9 36 [.ref 147, .int x1, .int (Int32.ofNat (i + 1)), .int (Int32.ofNat 20), am_u, am_u] [] (am_hp g N sw lv I2 L) ∧ mS T T I I2 ∧ lkF E T J I2 i 20 m
  | 0, n, I1, hc, s, f => by
    have e : n = 20 := by omega
    subst e
    obtain ⟨s1, s2, s3, s4, s5⟩ := s
    have h0 : I1 151 0 = Int32.ofNat (t_n T) := by rw [s3.1 151 (by decide) (by decide)]; exact h.2.1.1
    obtain ⟨I', a1, a2, a3, a4⟩ := M_un (g := g) (N := N) (sw := sw) (lv := lv) (L := L) ht h0 s2
    refine ⟨I', ?_, ⟨a2, pM_fr s2 (a3 171 (by decide) (by decide) (by decide) (by decide) (by decide) (by decide)), zM_tr s3 ⟨fun a q1 q2 => a3 a q1 (by omega) (by omega) (by omega) (by omega) (by omega), fun j q1 q2 q3 q4 q5 q6 => a4 j q2 q3⟩, by rw [a4 37 (by decide) (by decide)]; exact s4, by rw [a4 4 (by decide) (by decide)]; exact s5⟩, ?_⟩
    · rw [y_Mo_look_72 _ _ _, nb_ge20 (by omega), d_t (Nat.le_refl 20), a1, am_bd_ok, am_tn, y_Mo_look_112 _ _ _, nb_s]
    · obtain ⟨f1, f2, f3, f4⟩ := f
      refine ⟨(a4 48 (by decide) (by decide)).trans f1, (a3 176 (by decide) (by decide) (by decide) (by decide) (by decide) (by decide)).trans f2, fun k hk => ?_, fun j hj => ?_⟩
      · rw [a3 177 (by decide) (by decide) (by decide) (by decide) (by decide) (by decide)]
        exact f3 k hk
      · rw [a3 177 (by decide) (by decide) (by decide) (by decide) (by decide) (by decide)]
        exact f4 j hj
  | c + 1, n, I1, hc, s, f => by
    have hd1 : t_d (w_T T m) ≤ 1100 := Int32.le_trans hd (by decide)
    obtain ⟨m1, m2, m3⟩ := t_dn_ok (E := E) (w_T_ok ht m) hd1 n (by omega)
    obtain ⟨n1, n2, n3⟩ := t_dn_ok (E := E) (w_T_ok ht m) hd1 (n + 1) (by omega)
    obtain ⟨s1, s2, s3, s4, s5⟩ := s
    obtain ⟨I2, d1, d2, d3⟩ := rM_day (g := g) (N := N) (sw := sw) (lv := lv) (L := L) s1 m1 (cM_q h s3) (qM_heat (cM_q h s3) s1 m1 s4)
    have e : (20 * Int32.ofNat i) + Int32.ofNat n = Int32.ofNat (20 * i + n) := by
      rw [show 20 * Int32.ofNat i = Int32.ofNat (20 * i) from nb_mul 20 i, nb_add]
    have d2' : rM (t_dn E (n + 1) (w_T T m)) I2 := d2
    have k2 : mS T (t_dn E (n + 1) (w_T T m)) I (am_up I2 177 (upd (I2 177) (20 * i + n) (Int32.ofNat (lk_v E T (n + 1) m)))) := by
      refine ⟨rM_fr d2' (fun a q => up_ne (by omega)) (by rw [up_ne (by decide)]) (by rw [up_ne (by decide)]), pM_fr s2 ?_, zM_tr (zM_tr s3 (zM_fM d3)) ⟨fun a p q => up_ne (by omega), fun j _ _ _ _ _ _ => by rw [up_ne (by decide)]⟩, ?_, ?_⟩
      · rw [up_ne (by decide), d3.1 171 (by decide) (by decide) (by decide) (by decide) (by decide) (by decide)]
      · rw [up_ne (by decide), d3.2 37 (by decide) (by decide)]
        exact s4
      · rw [up_ne (by decide), d3.2 4 (by decide) (by decide)]
        exact s5
    obtain ⟨f1, f2, f3, f4⟩ := f
    have g7 : I2 177 = I1 177 := d3.1 177 (by decide) (by decide) (by decide) (by decide) (by decide) (by decide)
    obtain ⟨I3, b1, b2, b3⟩ := M_loI h ht hd x1 hi (J := J) c (n + 1) _ (by omega) k2 ⟨by rw [up_ne (by decide), d3.2 48 (by decide) (by decide)]; exact f1, by rw [up_ne (by decide), d3.1 176 (by decide) (by decide) (by decide) (by decide) (by decide) (by decide)]; exact f2, fun k hk => by rw [up_same, upd_ne (by omega), g7]; exact f3 k hk, fun j hj => by
      rw [up_same]
      by_cases q : j = n
      · rw [q, upd_same]
      · rw [upd_ne (by omega), g7]
        exact f4 j (by omega)⟩
    refine ⟨I3, ?_, b2, b3⟩
    rw [y_Mo_look_72 _ _ _, nb_ge20 (by omega), d_f (by omega : ¬ 20 ≤ n), d1, am_bd_ok, am_tn, y_Mo_look_82 _ _ _, rM_pg d2' n1, am_bd_ok, am_tl, y_Mo_look_96 _ _ _ _ _, e, nb_inb (show 20 * i + n < 2720 by omega) (by omega), nb_tn (by omega), nb_s]
    exact b1
/-- told up to guess i -/
def lkG (E : e_E) (W : s_W) (T : tr_T) (I : Nat → Nat → Int32) (i : Nat) : Prop := I 147 48 = Int32.ofNat (w_o E W T 136).1 ∧ (∀ k, k < (w_o E W T 136).1 → I 176 k = w_c ((w_o E W T 136).2 k)) ∧ ∀ k, k < i → ∀ j, j < 20 → I 177 (20 * k + j) = Int32.ofNat (lk_v E T (j + 1) ((w_o E W T 136).2 k))
theorem M_loO (h : cM E mb T I) (ht : t_ok T) (hd : t_d T ≤ 1000) (x1 : Int32) : ∀ c i (I1 : Nat → Nat → Int32) (w3 : Value), i + c = (w_o E W T 136).1 → mS T T I I1 → lkG E W T I1 i → ∃ I2, am_R 253 9 36 [.ref 147, .int x1, .int (Int32.ofNat i), w3, am_u, am_u] [] (am_hp g N sw lv I1 L) = am_R 253 9 125 [.ref 147, .int x1, .int (-1), .int 0, .int 0, am_u] [] (am_hp g N sw lv I2 L) ∧ mS T T I I2 ∧ lkG E W T I2 (w_o E W T 136).1
  | 0, i, I1, w3, hc, s, f => by
    have hl := w_o_le E W T 136
    refine ⟨I1, ?_, s, by rw [← show i = (w_o E W T 136).1 by omega]; exact f⟩
    rw [y_Mo_look_36 _ _ _, f.1, nb_dle (by omega) (by omega), d_t (by omega : (w_o E W T 136).1 ≤ i)]
  | c + 1, i, I1, w3, hc, s, f => by
    have hl := w_o_le E W T 136
    have hi : i < (w_o E W T 136).1 := by omega
    obtain ⟨p1, p2⟩ := w_o_at E W T 136 i hi
    obtain ⟨f1, f2, f3⟩ := f
    have hm8 : (w_o E W T 136).2 i / 17 < 8 := by omega
    have hm17 : (w_o E W T 136).2 i % 17 < 17 := Nat.mod_lt _ (by decide)
    have e1 : w_c ((w_o E W T 136).2 i) / 100 = Int32.ofNat ((w_o E W T 136).2 i / 17) := by
      unfold w_c
      rw [show (100 : Int32) = Int32.ofNat 100 from rfl, nb_div (by omega) (by decide)]
      congr 1
      omega
    have e2 : w_c ((w_o E W T 136).2 i) - w_c ((w_o E W T 136).2 i) / 100 * 100 = Int32.ofNat ((w_o E W T 136).2 i % 17) := by
      unfold w_c
      rw [show (100 : Int32) = Int32.ofNat 100 from rfl, nb_mod (by omega) (by decide)]
      congr 1
      omega
    obtain ⟨s1, s2, s3, s4, s5⟩ := s
    have k2 : mS T (t_dn E 0 (w_T T ((w_o E W T 136).2 i))) I (am_up I1 163 (upd (I1 163) ((w_o E W T 136).2 i / 17) (Int32.ofNat ((w_o E W T 136).2 i % 17) - 8))) := by
      refine ⟨rM_w2 s1 _ _, pM_fr s2 (up_ne (by decide)), zM_tr s3 ⟨fun a p q => up_ne (by omega), fun j _ _ _ _ _ _ => by rw [up_ne (by decide)]⟩, ?_, ?_⟩
      · rw [up_ne (by decide)]
        exact s4
      · rw [up_ne (by decide)]
        exact s5
    obtain ⟨I2, b1, b2, b3⟩ := M_loI (g := g) (N := N) (sw := sw) (lv := lv) (L := L) h ht hd x1 (i := i) (m := (w_o E W T 136).2 i) (by omega) (J := I1) 20 0 _ (by omega) k2 ⟨by rw [up_ne (by decide)], by rw [up_ne (by decide)], fun k hk => by rw [up_ne (by decide)], fun j hj => by omega⟩
    obtain ⟨g1, g2, g3, g4⟩ := b3
    obtain ⟨I3, c1, c2, c3⟩ := M_loO h ht hd x1 c (i + 1) I2 (.int (Int32.ofNat 20)) (by omega) b2 ⟨g1.trans f1, fun k hk => by rw [g2]; exact f2 k hk, fun k hk j hj => by
      by_cases q : k = i
      · rw [q]
        exact g4 j hj
      · rw [g3 (20 * k + j) (by omega)]
        exact f3 k (by omega) j hj⟩
    refine ⟨I3, ?_, c2, c3⟩
    rw [y_Mo_look_36 _ _ _, f1, nb_dle (by omega) (by omega), d_f (by omega : ¬ (w_o E W T 136).1 ≤ i), nb_inb (show i < 136 by omega) (by omega), nb_tn (by omega), f2 i hi, e2, e1, nb_inb hm8 (by omega), nb_tn (by omega), show (.int 0 : Value) = .int (Int32.ofNat 0) from rfl]
    exact b1.trans c1
theorem M_unI {o : Nat → Nat} {n c0 : Nat} (hn : n < 20) (hc0 : c0 ≤ 136) (ho : ∀ i, i < c0 → I 177 (20 * i + n) = Int32.ofNat (o i) ∧ o i < 64) {a i : Nat} (hi : i < c0) : ∀ c k, k + c = i → ∃ w4 w5, am_R 254 1 18 [.ref 147, .int (Int32.ofNat n), .int (Int32.ofNat a), .int (Int32.ofNat i), .int (cond (us_b o i k) 1 0), .int (Int32.ofNat k)] [] (am_hp g N sw lv I L) = am_R 254 1 4 [.ref 147, .int (Int32.ofNat n), .int (Int32.ofNat (a + cond (us_b o i i) 1 0)), .int (Int32.ofNat (i + 1)), w4, w5] [] (am_hp g N sw lv I L)
  | 0, k, hc => by
    have e : k = i := by omega
    subst e
    refine ⟨.int (cond (us_b o k k) 1 0), .int (Int32.ofNat k), ?_⟩
    rw [y_Mo_unlike_18 _ _ _ _ _, nb_dle (by omega) (by omega), d_t (Nat.le_refl k), i_b0, nb_s, Int32.add_zero, nb_s]
    cases us_b o k k <;> rfl
  | c + 1, k, hc => by
    obtain ⟨w4, w5, ih⟩ := M_unI hn hc0 ho (a := a) hi c (k + 1) (by omega)
    obtain ⟨o1, l1⟩ := ho k (by omega)
    obtain ⟨o2, l2⟩ := ho i hi
    have ek : ∀ j, (20 * Int32.ofNat j) + Int32.ofNat n = Int32.ofNat (20 * j + n) := fun j => by
      rw [show 20 * Int32.ofNat j = Int32.ofNat (20 * j) from nb_mul 20 j, nb_add]
    rw [us_b_s] at ih
    cases hb : us_b o i k with
    | false =>
      have hz : ∀ j, us_b o i (k + j) = false := fun j => by
        induction j with
        | zero => exact hb
        | succ j ihj => rw [show k + (j + 1) = k + j + 1 from rfl, us_b_s, ihj]; rfl
      have hh2 : us_b o i i = false := by
        have := hz (c + 1)
        rw [hc] at this
        exact this
      refine ⟨.int (cond false 1 0), .int (Int32.ofNat k), ?_⟩
      rw [y_Mo_unlike_18 _ _ _ _ _, i_b0, nb_dle (by omega) (by omega), d_f (by omega : ¬ i ≤ k), nb_s, Int32.add_zero, hh2]
      rfl
    | true =>
      rw [hb, Bool.true_and] at ih
      refine ⟨w4, w5, ?_⟩
      rw [y_Mo_unlike_18 _ _ _ _ _, i_b0, nb_dle (by omega) (by omega), d_f (by omega : ¬ i ≤ k), ek, ek, nb_inb (show 20 * k + n < 2720 by omega) (by omega), nb_inb (show 20 * i + n < 2720 by omega) (by omega), nb_tn (by omega), nb_tn (by omega), o1, o2, nb_deq (by omega) (by omega)]
      simp only [cond_true, cond_false, Bool.not_true]
      rw [nb_s]
      cases hd : decide (o k = o i) with
      | false =>
        rw [hd] at ih
        exact ih
      | true =>
        rw [hd] at ih
        exact ih
theorem M_unL {o : Nat → Nat} {n c0 : Nat} (hn : n < 20) (hc0 : c0 ≤ 136) (h48 : I 147 48 = Int32.ofNat c0) (ho : ∀ i, i < c0 → I 177 (20 * i + n) = Int32.ofNat (o i) ∧ o i < 64) : ∀ c i (w4 w5 : Value), i + c = c0 → am_R 254 1 4 [.ref 147, .int (Int32.ofNat n), .int (Int32.ofNat (us_n o i)), .int (Int32.ofNat i), w4, w5] [] (am_hp g N sw lv I L) = some (.inl (some (.int (Int32.ofNat (us_n o c0)))), am_hp g N sw lv I L)
  | 0, i, w4, w5, hc => by
    rw [y_Mo_unlike_4 _ _ _ _ _, h48, nb_dle (by omega) (by omega), d_t (by omega : c0 ≤ i), show i = c0 by omega]
  | c + 1, i, w4, w5, hc => by
    obtain ⟨v4, v5, e⟩ := M_unI (g := g) (N := N) (sw := sw) (lv := lv) (L := L) hn hc0 ho (a := us_n o i) (show i < c0 by omega) i 0 (by omega)
    have ih := M_unL hn hc0 h48 ho c (i + 1) v4 v5 (by omega)
    rw [us_n_s (ho i (by omega)).2] at ih
    have e0 : us_b o i 0 = true := by
      unfold us_b us
      rw [Nat.zero_testBit]
      rfl
    rw [e0] at e
    rw [y_Mo_unlike_4 _ _ _ _ _, h48, nb_dle (by omega) (by omega), d_f (by omega : ¬ c0 ≤ i)]
    exact e.trans ih
theorem M_lkZ {I1 : Nat → Nat → Int32} (f : lkG E W T I1 (w_o E W T 136).1) (x1 : Int32) : ∀ c n (w5 : Value), n + c = 20 → am_R 253 9 125 [.ref 147, .int x1, .int (lo_r E W T n).2, .int (Int32.ofNat (lo_r E W T n).1), .int (Int32.ofNat n), w5] [] (am_hp g N sw lv I1 L) = some (.inl (some (.int (cond (decide (x1 = 0)) (lo_r E W T 20).2 (Int32.ofNat (lo_r E W T 20).1)))), am_hp g N sw lv I1 L)
  | 0, n, w5, hc => by
    rw [y_Mo_look_125 _ _ _ _ _, nb_ge20 (by omega), d_t (by omega : 20 ≤ n), show n = 20 by omega]
    cases decide (x1 = 0) <;> rfl
  | c + 1, n, w5, hc => by
    have ih := fun w5 => M_lkZ f x1 c (n + 1) w5 (by omega)
    have hl := w_o_le E W T 136
    have hle := lo_le E W T n
    have hu := M_unL (g := g) (N := N) (sw := sw) (lv := lv) (L := L) (o := fun i => lk_v E T (n + 1) ((w_o E W T 136).2 i)) (show n < 20 by omega) hl f.1 (fun i hi => ⟨f.2.2 i hi n (by omega), lk_v_lt E T _ _⟩) (w_o E W T 136).1 0 am_u am_u (by omega)
    have e0 : us_n (fun i => lk_v E T (n + 1) ((w_o E W T 136).2 i)) 0 = 0 := by
      unfold us_n us
      decide
    rw [e0] at hu
    have hn := us_n_le (fun i => lk_v E T (n + 1) ((w_o E W T 136).2 i)) (w_o E W T 136).1
    have hu' : am_R 254 1 4 [.ref 147, .int (Int32.ofNat n), .int 0, .int 0, am_u, am_u] [] (am_hp g N sw lv I1 L) = some (.inl (some (.int (Int32.ofNat (lk_n E W T (n + 1))))), am_hp g N sw lv I1 L) := hu
    rw [show lo_r E W T (n + 1) = lo_f E W T n (lo_r E W T n) from rfl] at ih
    rw [y_Mo_look_125 _ _ _ _ _, nb_ge20 (by omega), d_f (by omega : ¬ 20 ≤ n), y_Mo_unlike_0 _, hu', am_bd_ok, am_tl, y_Mo_look_138 _ _ _ _ _ _, nb_dlt (by omega) (show lk_n E W T (n + 1) < 100000 from Nat.lt_of_le_of_lt hn (by decide)), nb_s]
    unfold lo_f at ih
    by_cases hq : (lo_r E W T n).1 < lk_n E W T (n + 1)
    · rw [d_f (by omega : ¬ lk_n E W T (n + 1) ≤ (lo_r E W T n).1)] at ih
      rw [d_t hq]
      exact ih _
    · rw [d_t (by omega : lk_n E W T (n + 1) ≤ (lo_r E W T n).1)] at ih
      rw [d_f hq]
      exact ih _
theorem M_look (h : cM E mb T I) (ht : t_ok T) (hd : t_d T ≤ 1000) (hw : wMs 36 172 173 175 W I) (hg : gW W) (x1 : Int32) : oM g N sw lv L T I k1 (am_R 253 9 0 [.ref 147, .int x1, am_u, am_u, am_u, am_u] [] (am_hp g N sw lv I L)) (sp_look E W T x1) := by
  have h4 := cM_4 h 0
  rw [y_Mo_look_0 _, m_inL (a := 0) (b := 1) (by decide) (by decide)]
  unfold sp_look
  cases h1 : gI 0 1 x1 with
  | false => exact oM_t (c := 0) h rfl
  | true =>
    have r0 := mR_0 h
    obtain ⟨I2, a1, a2, a3⟩ := M_tf (g := g) (N := N) (sw := sw) (lv := lv) (L := L) ht hd h4.2.1 h4.1 h4.2.2.1 (wMs_4 hw) hg
    have r2 : mR T I I2 := ⟨a3, zM_tr r0.2.1 (zM_w_I a2), (a2.2.2.2 37 (by decide) (by decide) (by decide)).trans r0.2.2.1, (a2.2.2.2 4 (by decide) (by decide) (by decide)).trans r0.2.2.2⟩
    obtain ⟨I3, b1, b2, b3, b4⟩ := M_pk (g := g) (N := N) (sw := sw) (lv := lv) (L := L) (cM_mR h r2) ht
    have s3 : mS T T I I3 := ⟨b3.2.1, b2, zM_tr r2.2.1 ⟨fun a q1 q2 => b4 a (by omega), fun j _ _ _ _ _ _ => by rw [b4 147 (by decide)]⟩, b3.2.2.1, by rw [b4 147 (by decide)]; exact r2.2.2.2⟩
    obtain ⟨I4, c1, c2, c3⟩ := M_loO (g := g) (N := N) (sw := sw) (lv := lv) (L := L) (W := W) h ht hd x1 (w_o E W T 136).1 0 I3 am_u (by omega) s3 ⟨by rw [b4 147 (by decide)]; exact a2.1, fun k hk => by rw [b4 176 (by decide)]; exact a2.2.1 k hk, fun k hk => by omega⟩
    have hz := M_lkZ (g := g) (N := N) (sw := sw) (lv := lv) (L := L) c3 x1 20 0 am_u (by omega)
    simp only [cond_true]
    rw [d_f (by decide : ¬ (1 : Int32) = 0), a1, am_bd_ok, am_tn, y_Mo_look_25 _, b1, am_bd_ok, am_tn, y_Mo_look_34 _]
    exact oM_r (mS_mR c2) (c1.trans hz)
end LOOK
