/-! CALLS: years (the reference), game -/
section OPI
variable {g N : Nat} {sw lv : Bool} {I : Nat → Nat → Int32} {L : Nat → Nat → Int64} {T : tr_T} {E : e_E} {mb : Nat}
theorem hM_of {w : Int32} (h : I 147 37 = w) (hw : w ≠ -1) : hM w I := by
  unfold hM g_Mo_heatOf v_Mo_heatOf
  rw [h, d_f hw, d_f hw]
  exact ⟨rfl, rfl⟩
def nS (T T1 : tr_T) (x : Int32) (I I1 : Nat → Nat → Int32) : Prop := rM T1 I1 ∧ pM 171 0 T I1 ∧ zM I I1 ∧ I1 147 50 = x ∧ I1 147 4 = 0
theorem nS_50 {T1 : tr_T} {x : Int32} {I1 : Nat → Nat → Int32} (s : nS T T1 x I I1) (y : Int32) : nS T T1 y I (am_up I1 147 (upd (I1 147) 50 y)) := by
  obtain ⟨s1, s2, s3, s4, s5⟩ := s
  refine ⟨rM_fr s1 (fun a q => up_ne (by omega)) (by rw [up_same, upd_ne (by decide)]) (by rw [up_same, upd_ne (by decide)]), pM_fr s2 (up_ne (by decide)), zM_tr s3 ⟨fun a q _ => up_ne q, fun j _ _ _ _ _ q => by rw [up_same, upd_ne q]⟩, by rw [up_same, upd_same], by rw [up_same, upd_ne (by decide)]; exact s5⟩
theorem nS_37 {T1 : tr_T} {x : Int32} {I1 : Nat → Nat → Int32} (s : nS T T1 x I I1) (y : Int32) : nS T T1 x I (am_up I1 147 (upd (I1 147) 37 y)) := by
  obtain ⟨s1, s2, s3, s4, s5⟩ := s
  refine ⟨rM_fr s1 (fun a q => up_ne (by omega)) (by rw [up_same, upd_ne (by decide)]) (by rw [up_same, upd_ne (by decide)]), pM_fr s2 (up_ne (by decide)), zM_tr s3 ⟨fun a q _ => up_ne q, fun j _ _ _ q _ _ => by rw [up_same, upd_ne q]⟩, by rw [up_same, upd_ne (by decide)]; exact s4, by rw [up_same, upd_ne (by decide)]; exact s5⟩
theorem rM_bef (hr : rM T I) (ht : t_ok T) {h b : Nat} (hh : h < t_n T) (hb : b < 5) : ∃ I', am_R 260 4 36 [.ref 147, .int (Int32.ofNat h), am_u] [.int (Int32.ofNat b)] (am_hp g N sw lv I L) = some (.inl none, am_hp g N sw lv I' L) ∧ rM (t_bef T h b) I' ∧ (∀ x, x ≠ 147 → x ≠ 162 → x ≠ 163 → I' x = I x) ∧ ∀ j, j ≠ 34 → I' 147 j = I 147 j := by
  have hn := ht.1
  obtain ⟨b0, b1, b2⟩ := yr_b b hb
  have st := rM_stands hr ht hh
  have hs := (hr.2.2.2.1 h hh).1
  obtain ⟨I1, a1, a2, a3, a4⟩ := rM_cast (g := g) (N := N) (sw := sw) (lv := lv) (L := L) hr ht hh (show 9 < 100 by decide)
  have e36 := y_Mo_something_36 (g := g) (N := N) (sw := sw) (lv := lv) (I := I) (L := L) (Int32.ofNat h) (Int32.ofNat b)
  rw [b0, show (.int 9 : Value) = .int (Int32.ofNat 9) from rfl, a1, am_bd_ok, am_tn] at e36
  have e48 := fun I => y_Mo_something_48 (g := g) (N := N) (sw := sw) (lv := lv) (I := I) (L := L) (Int32.ofNat h) (Int32.ofNat b)
  have e68 := fun I => y_Mo_something_68 (g := g) (N := N) (sw := sw) (lv := lv) (I := I) (L := L) (Int32.ofNat h) (Int32.ofNat b)
  have e103 := fun I => y_Mo_something_103 (g := g) (N := N) (sw := sw) (lv := lv) (I := I) (L := L) (Int32.ofNat h) (Int32.ofNat b)
  rw [e36]
  match b, hb, b1, b2, e48, e68, e103 with
  | 0, _, b1, b2, e48, e68, e103 =>
    refine ⟨I1, ?_, a2, a3, a4⟩
    rw [d_t rfl, e48, b1, d_f (by decide), e68, b2, d_f (by decide), e103]
  | 1, _, b1, b2, e48, e68, e103 =>
    rw [d_f (by decide), e48, b1, d_t rfl, st, i_b0, nb_inb (show h < 8 by omega) (by omega), nb_tn (show h < 100000 by omega), e68, b2, d_f (by decide), e68, b2, d_f (by decide), e103, e103]
    unfold t_bef
    cases t_up T h with
    | true => exact ⟨_, rfl, rM_w2 hr h 0, fun x _ _ p => up_ne p, fun j _ => by rw [up_ne (by decide)]⟩
    | false => exact ⟨_, rfl, hr, fun x _ _ _ => rfl, fun _ _ => rfl⟩
  | 2, _, b1, b2, e48, e68, e103 =>
    rw [d_f (by decide), e48, b1, d_f (by decide), e68, b2, d_t rfl, st, i_b0, nb_inb (show h < 8 by omega) (by omega), nb_tn (show h < 100000 by omega), hs, e103, e103]
    unfold t_bef
    cases t_up T h with
    | false => exact ⟨_, rfl, hr, fun x _ _ _ => rfl, fun _ _ => rfl⟩
    | true =>
      cases decide (t_su T h ≤ 9) with
      | true => exact ⟨_, rfl, hr, fun x _ _ _ => rfl, fun _ _ => rfl⟩
      | false => exact ⟨_, rfl, rM_w1 hr h _, fun x _ p _ => up_ne p, fun j _ => by rw [up_ne (by decide)]⟩
  | 3, _, b1, b2, e48, e68, e103 =>
    refine ⟨I, ?_, hr, fun x _ _ _ => rfl, fun _ _ => rfl⟩
    rw [d_f (by decide), e48, b1, d_f (by decide), e68, b2, d_f (by decide), e103]
  | 4, _, b1, b2, e48, e68, e103 =>
    refine ⟨I, ?_, hr, fun x _ _ _ => rfl, fun _ _ => rfl⟩
    rw [d_f (by decide), e48, b1, d_f (by decide), e68, b2, d_f (by decide), e103]
theorem M_some {T1 : tr_T} {x : Int32} {I1 : Nat → Nat → Int32} (s : nS T T1 x I I1) (h1 : t_ok T1) : ∃ I2, am_R 260 4 0 [.ref 147, am_u, am_u] [] (am_hp g N sw lv I1 L) = some (.inl none, am_hp g N sw lv I2 L) ∧ I2 147 37 = Int32.ofNat (yr_v (yr_s x) % 10) ∧ nS T (cond (decide (t_n T1 = 0)) T1 (t_bef T1 (yr_v (yr_s (yr_s x)) % t_n T1) (yr_v (yr_s (yr_s (yr_s x))) % 5))) (cond (decide (t_n T1 = 0)) (yr_s x) (yr_s (yr_s (yr_s x)))) I I2 := by
  have hn := h1.1
  have s1 := nS_37 (nS_50 s (yr_s x)) (Int32.ofNat (yr_v (yr_s x) % 10))
  have e37 : (am_up (am_up I1 147 (upd (I1 147) 50 (yr_s x))) 147 (upd ((am_up I1 147 (upd (I1 147) 50 (yr_s x))) 147) 37 (Int32.ofNat (yr_v (yr_s x) % 10)))) 147 37 = Int32.ofNat (yr_v (yr_s x) % 10) := by rw [up_same, upd_same]
  have e0 : (am_up I1 147 (upd (I1 147) 50 (yr_s x))) 151 0 = Int32.ofNat (t_n T1) := by rw [up_ne (by decide)]; exact s.1.1
  rw [y_Mo_something_0, show (.int 10 : Value) = .int (Int32.ofNat 10) from rfl, M_draw s.2.2.2.1 (by decide) (by decide), am_bd_ok, am_tl, y_Mo_something_7 _, e0, show decide (Int32.ofNat (t_n T1) = 0) = decide (t_n T1 = 0) from nb_deq (b := 0) (by omega) (by decide)]
  generalize am_up (am_up I1 147 (upd (I1 147) 50 (yr_s x))) 147 (upd ((am_up I1 147 (upd (I1 147) 50 (yr_s x))) 147) 37 (Int32.ofNat (yr_v (yr_s x) % 10))) = J1 at *
  by_cases h0 : t_n T1 = 0
  · rw [d_t h0, d_t h0, d_t h0]
    exact ⟨J1, rfl, e37, s1⟩
  · rw [d_f h0, d_f h0, d_f h0]
    have hm := Nat.mod_lt (yr_v (yr_s (yr_s x))) (by omega : 0 < t_n T1)
    have hm5 := Nat.mod_lt (yr_v (yr_s (yr_s (yr_s x)))) (by decide : 0 < 5)
    have s2 := nS_50 s1 (yr_s (yr_s x))
    have f37 : (am_up J1 147 (upd (J1 147) 50 (yr_s (yr_s x)))) 147 37 = Int32.ofNat (yr_v (yr_s x) % 10) := by rw [up_same, upd_ne (by decide)]; exact e37
    rw [M_draw s1.2.2.2.1 (by omega) (by omega), am_bd_ok, am_tl, y_Mo_something_30 _]
    generalize am_up J1 147 (upd (J1 147) 50 (yr_s (yr_s x))) = J2 at *
    have s3 := nS_50 s2 (yr_s (yr_s (yr_s x)))
    have g37 : (am_up J2 147 (upd (J2 147) 50 (yr_s (yr_s (yr_s x))))) 147 37 = Int32.ofNat (yr_v (yr_s x) % 10) := by rw [up_same, upd_ne (by decide)]; exact f37
    rw [show (.int 5 : Value) = .int (Int32.ofNat 5) from rfl, M_draw s2.2.2.2.1 (by decide) (by decide), am_bd_ok, am_tl]
    generalize am_up J2 147 (upd (J2 147) 50 (yr_s (yr_s (yr_s x)))) = J3 at *
    obtain ⟨J4, b1, b2, b3, b4⟩ := rM_bef (g := g) (N := N) (sw := sw) (lv := lv) (L := L) s3.1 h1 hm hm5
    refine ⟨J4, b1, (b4 37 (by decide)).trans g37, b2, pM_fr s3.2.1 (b3 171 (by decide) (by decide) (by decide)), zM_tr s3.2.2.1 ⟨fun a q1 q2 => b3 a q1 (by omega) (by omega), fun j _ _ q _ _ _ => b4 j q⟩, (b4 50 (by decide)).trans s3.2.2.2.1, (b4 4 (by decide)).trans s3.2.2.2.2⟩
theorem yr_12 (s : Int32 × tr_T) : (yr_1 E s).2 = t_day E (Int32.ofNat (yr_v (yr_s s.1) % 10)) (cond (decide (t_n s.2 = 0)) s.2 (t_bef s.2 (yr_v (yr_s (yr_s s.1)) % t_n s.2) (yr_v (yr_s (yr_s (yr_s s.1))) % 5))) := by
  unfold yr_1
  cases decide (t_n s.2 = 0) with
  | true => rw [cond_true, cond_true]
  | false => rw [cond_false, cond_false]
theorem yr_11 (s : Int32 × tr_T) : (yr_1 E s).1 = cond (decide (t_n s.2 = 0)) (yr_s s.1) (yr_s (yr_s (yr_s s.1))) := by
  unfold yr_1
  cases decide (t_n s.2 = 0) with
  | true => rw [cond_true, cond_true]
  | false => rw [cond_false, cond_false]
theorem M_yr1 (h : cM E mb T I) (x1 x2 x3 x4 : Int32) {s0 : Int32 × tr_T} {I1 : Nat → Nat → Int32} (s : nS T s0.2 s0.1 I I1) (i1 : t_ok s0.2) : ∃ I3, am_bd (am_R 260 4 0 [.ref 147, am_u, am_u] [] (am_hp g N sw lv I1 L)) (fun v h => am_R 259 8 68 [.ref 147, .int x1, .int x2, .int x3, .int x4] (v.toList ++ []) h) (fun c h => some (.inr c, h)) = am_R 259 8 58 [.ref 147, .int x1, .int x2, .int x3, .int (x4 + 1)] [] (am_hp g N sw lv I3 L) ∧ nS T (yr_1 E s0).2 (yr_1 E s0).1 I I3 := by
  obtain ⟨I2, a1, a2, a3⟩ := M_some (g := g) (N := N) (sw := sw) (lv := lv) (L := L) s i1
  have hw : hM (Int32.ofNat (yr_v (yr_s s0.1) % 10)) I2 := hM_of a2 (nb_n1 (Nat.lt_trans (Nat.mod_lt _ (by decide)) (by decide : 10 < 100000)))
  have ok2 : t_ok (cond (decide (t_n s0.2 = 0)) s0.2 (t_bef s0.2 (yr_v (yr_s (yr_s s0.1)) % t_n s0.2) (yr_v (yr_s (yr_s (yr_s s0.1))) % 5))) := by
    by_cases h0 : t_n s0.2 = 0
    · rw [d_t h0]
      exact i1
    · rw [d_f h0]
      exact (t_bef_ok i1 (Nat.mod_lt _ (Nat.pos_of_ne_zero h0)) _).1
  obtain ⟨I3, d1, d2, d3⟩ := rM_day (g := g) (N := N) (sw := sw) (lv := lv) (L := L) a3.1 ok2 (cM_q h a3.2.2.1) hw
  rw [a1, am_bd_ok, am_tn, y_Mo_years_68 _ _ _ _, d1, am_bd_ok, am_tn, y_Mo_years_72 _ _ _ _, yr_11, yr_12]
  exact ⟨I3, rfl, d2, pM_fr a3.2.1 (d3.1 171 (by decide) (by decide) (by decide) (by decide) (by decide) (by decide)), zM_tr a3.2.2.1 (zM_fM d3), (d3.2 50 (by decide) (by decide)).trans a3.2.2.2.1, (d3.2 4 (by decide) (by decide)).trans a3.2.2.2.2⟩
theorem M_yrL (h : cM E mb T I) (ht : t_ok T) (hd : t_d T ≤ 1000) (x x1 x3 : Int32) {n : Nat} (hn : n ≤ 40) : ∀ c k (I1 : Nat → Nat → Int32), k + c = n → nS T (yr E k (x, T)).2 (yr E k (x, T)).1 I I1 → ∃ I2, am_R 259 8 58 [.ref 147, .int x1, .int (Int32.ofNat n), .int x3, .int (Int32.ofNat k)] [] (am_hp g N sw lv I1 L) = some (.inl (some (.int (yr_a x3 (yr E n (x, T)).2))), am_hp g N sw lv I2 L) ∧ mR T I I2
  | 0, k, I1, hc, s => by
    have e : k = n := by omega
    subst e
    obtain ⟨i1, i2, i3⟩ := yr_ok (E := E) ht hd x k (by omega)
    have s1 := nS_37 s (-1)
    have t1 : mS T (yr E k (x, T)).2 I (am_up I1 147 (upd (I1 147) 37 (-1))) := ⟨s1.1, s1.2.1, s1.2.2.1, by rw [up_same, upd_same], s1.2.2.2.2⟩
    obtain ⟨I2, c1, c2⟩ := mS_back (g := g) (N := N) (sw := sw) (lv := lv) (L := L) h ht t1
    refine ⟨I2, ?_, c2⟩
    rw [y_Mo_years_58 _ _ _ _, nb_dle (by omega) (by omega), d_t (Nat.le_refl k), rM_standing t1.1 i1, rM_allSg t1.1 i1, am_bd_ok, am_tl, y_Mo_years_103 _ _ _ _ _, rM_pg t1.1 i1, am_bd_ok, am_tl, y_Mo_years_110 _ _ _ _ _, m_bits (t_pg_lt _), am_bd_ok, am_tl]
    simp only [y_Mo_years_113, c1, am_bd_ok, am_tn, y_Mo_years_124]
    unfold yr_a
    cases decide (x3 = 0) with
    | true => rfl
    | false => cases decide (x3 = 1) <;> rfl
  | c + 1, k, I1, hc, s => by
    obtain ⟨i1, i2, i3⟩ := yr_ok (E := E) ht hd x k (by omega)
    obtain ⟨I3, a1, a2⟩ := M_yr1 (g := g) (N := N) (sw := sw) (lv := lv) (L := L) h x1 (Int32.ofNat n) x3 (Int32.ofNat k) s i1
    obtain ⟨I4, b1, b2⟩ := M_yrL h ht hd x x1 x3 hn c (k + 1) I3 (by omega) a2
    refine ⟨I4, ?_, b2⟩
    rw [y_Mo_years_58 _ _ _ _, nb_dle (by omega) (by omega), d_f (by omega : ¬ n ≤ k), a1, nb_s]
    exact b1
theorem M_years (h : cM E mb T I) (ht : t_ok T) (hd : t_d T ≤ 1000) (x1 x2 x3 : Int32) : oM g N sw lv L T I k12 (am_R 259 8 0 [.ref 147, .int x1, .int x2, .int x3, am_u] [] (am_hp g N sw lv I L)) (sp_years E T x1 x2 x3) := by
  rw [y_Mo_years_0 _ _ _, m_inL (a := 0) (b := 2) (by decide) (by decide), m_inL (a := 0) (b := 40) (by decide) (by decide)]
  unfold sp_years
  cases h3 : gI 0 2 x3 with
  | false => exact oM_t (c := 0) h rfl
  | true =>
    cases h2 : gI 0 40 x2 with
    | false => exact oM_t (c := 1) h rfl
    | true =>
      obtain ⟨d, hd2, rfl⟩ := gI_at (b := 40) (by decide) h2
      obtain ⟨I0, a1, s0⟩ := mS_pk (g := g) (N := N) (sw := sw) (lv := lv) (L := L) h ht (mR_0 h)
      have n0 : nS T T (I0 147 50) I I0 := ⟨s0.1, s0.2.1, s0.2.2.1, rfl, s0.2.2.2.2⟩
      obtain ⟨I2, b1, b2⟩ := M_yrL (g := g) (N := N) (sw := sw) (lv := lv) (L := L) h ht hd x1 x1 x3 hd2 d 0 _ (by omega) (nS_50 n0 x1)
      simp only [cond_true]
      rw [d_f (by decide : ¬ (1 : Int32) = 0), d_f (by decide : ¬ (1 : Int32) = 0), nb_tn (show d < 100000 by omega), a1, am_bd_ok, am_tn, y_Mo_years_50 _ _ _]
      exact oM_r b2 b1
/-! game -/
def gm_s (a b : Nat) (m t : Bool) : Nat := cond m (2 ^ a) 0 ^^^ cond t (2 ^ b) 0
def gm_g (T : tr_T) (q s h : Nat) (u : Int32) : Int32 := cond (t_pw T q s == (t_oo T q ^^^ s).testBit h) (5 - u) (0 - u)
def gm_a (T : tr_T) (q a b : Nat) (m t : Bool) : Int32 := gm_g T q (gm_s a b m t) a (cond m 1 0)
def gm_o (T : tr_T) (q a b : Nat) (m t : Bool) : Bool := !decide (gm_a T q a b m t < gm_a T q a b (!m) t)
def gm_f (T : tr_T) (q a b c : Nat) (s : Int32 × Int32) : Int32 × Int32 := cond (gm_o T q a b (c.testBit 1) (c.testBit 0) && gm_o T q b a (c.testBit 0) (c.testBit 1)) (s.1 + 1, cond (decide (s.2 = -1)) (10 * (cond (c.testBit 1) 1 0) + cond (c.testBit 0) 1 0) s.2) s
def gm_r (T : tr_T) (q a b : Nat) (k : Nat) : Int32 × Int32 := fd k (gm_f T q a b) (0, -1)
def sp_game (T : tr_T) (x1 x2 x3 x4 : Int32) : a_O := cond (gH (t_n T) x1) (cond (gH (t_n T) x2) (cond (gH 6 x3) (cond (gI 0 1 x4) (cond (decide (x1 = x2)) (.inr 1) (cond (t_up T x1.toNatClampNeg) (cond (t_up T x2.toNatClampNeg) (.inl (cond (decide (x4 = 0)) (gm_r T x3.toNatClampNeg x1.toNatClampNeg x2.toNatClampNeg 4).1 (gm_r T x3.toNatClampNeg x1.toNatClampNeg x2.toNatClampNeg 4).2)) (.inl (-1))) (.inl (-1)))) (.inr 0)) (.inr 0)) (.inr 0)) (.inr 0)
theorem gm_lt {a b n : Nat} (ha : a < n) (hb : b < n) (m t : Bool) : gm_s a b m t < 2 ^ n := by
  refine Nat.xor_lt_two_pow ?_ ?_
  · cases m
    · exact Nat.two_pow_pos n
    · exact Nat.pow_lt_pow_right (by decide) ha
  · cases t
    · exact Nat.two_pow_pos n
    · exact Nat.pow_lt_pow_right (by decide) hb
theorem C_gain (hr : rC 99 T I) (ht : t_ok T) {a b q : Nat} (ha : a < t_n T) (hb : b < t_n T) (hq : q < 6) (m t : Bool) : am_R 136 5 0 [.ref 75, .int (Int32.ofNat a), .int (Int32.ofNat b), .int (cond m 1 0), .int (cond t 1 0), .int (Int32.ofNat q), am_u, am_u] [] (am_hp g N sw lv I L) = some (.inl (some (.int (gm_a T q a b m t))), am_hp g N sw lv I L) := by
  have hn := ht.1
  have ho : t_oo T q < 256 := bs_256 hn
  have h1 : cond m (2 ^ a) 0 < 256 := b_c2 (by omega)
  have h2 : cond t (2 ^ b) 0 < 256 := b_c2 (by omega)
  have hx : t_oo T q ^^^ gm_s a b m t < 256 := Nat.xor_lt_two_pow (n := 8) ho (Nat.xor_lt_two_pow (n := 8) h1 h2)
  have e1 : (Int32.ofNat (t_oo T q) ^^^ Int32.ofNat (cond m (2 ^ a) 0)) ^^^ Int32.ofNat (cond t (2 ^ b) 0) = Int32.ofNat (t_oo T q ^^^ gm_s a b m t) := by
    rw [bt_xor _ ho _ h1, bt_xor _ (Nat.xor_lt_two_pow (n := 8) ho h1) _ h2, Nat.xor_assoc]
    rfl
  have e2 : am_R 44 2 0 [.ref 99, .int (Int32.ofNat q), am_u, am_u] [] (am_hp g N sw lv I L) = some (.inl (some (.int (Int32.ofNat (t_oo T q)))), am_hp g N sw lv I L) := rC_opsOn a_99 hr ht (by omega)
  have e3 : am_R 105 4 0 [.ref 99, .int (Int32.ofNat (t_oo T q ^^^ gm_s a b m t))] [] (am_hp g N sw lv I L) = some (.inl (some (.int (cond (t_pw T q (gm_s a b m t)) 1 0))), am_hp g N sw lv I L) := rC_passW a_99 hr ht hx
  rw [y_Ca_gain_0 _ _ _ _ _, e2, am_bd_ok, am_tl, y_Ca_gain_9 _ _ _ _ _ _, bt_sh a (by omega), bt_sh b (by omega), e1, bt_a _ hx a (by omega), e3, am_bd_ok, am_bd_ok, am_tl, y_Ca_gain_45 _ _ _ _ _ _ _ _, y_Ca_gain_45 _ _ _ _ _ _ _ _]
  unfold gm_a gm_g
  cases t_pw T q (gm_s a b m t) <;> cases (t_oo T q ^^^ gm_s a b m t).testBit a <;> rfl
theorem gm_n : ∀ m : Bool, (1 : Int32) - cond m 1 0 = cond (!m) 1 0 := by decide
theorem C_stay (hr : rC 99 T I) (ht : t_ok T) {a b q : Nat} (ha : a < t_n T) (hb : b < t_n T) (hq : q < 6) (m t : Bool) : am_R 135 6 0 [.ref 75, .int (Int32.ofNat a), .int (Int32.ofNat b), .int (cond m 1 0), .int (cond t 1 0), .int (Int32.ofNat q)] [] (am_hp g N sw lv I L) = some (.inl (some (.int (cond (gm_o T q a b m t) 1 0))), am_hp g N sw lv I L) := by
  rw [y_Ca_staysWith_0 _ _ _ _ _, C_gain hr ht ha hb hq m t, am_bd_ok, am_tl, y_Ca_staysWith_11 _ _ _ _ _ _, gm_n, C_gain hr ht ha hb hq (!m) t, am_bd_ok, am_tl, y_Ca_staysWith_24 _ _ _ _ _ _ _]
  unfold gm_o
  cases decide (gm_a T q a b m t < gm_a T q a b (!m) t) <;> rfl
theorem gm_c : ∀ c, c < 4 → Int32.ofNat c >>> ((1 : Int32) &&& 31) = cond (c.testBit 1) 1 0 ∧ Int32.ofNat c &&& 1 = cond (c.testBit 0) 1 0 := by decide
theorem C_gmL (hr : rC 99 T I) (ht : t_ok T) {a b q : Nat} (ha : a < t_n T) (hb : b < t_n T) (hq : q < 6) (x4 : Int32) : ∀ c k (w8 w9 : Value), k + c = 4 → am_R 134 7 69 [.ref 75, .int (Int32.ofNat a), .int (Int32.ofNat b), .int (Int32.ofNat q), .int x4, .int (gm_r T q a b k).1, .int (gm_r T q a b k).2, .int (Int32.ofNat k), w8, w9] [] (am_hp g N sw lv I L) = some (.inl (some (.int (cond (decide (x4 = 0)) (gm_r T q a b 4).1 (gm_r T q a b 4).2))), am_hp g N sw lv I L)
  | 0, k, w8, w9, hc => by
    rw [y_Ca_game_69 _ _ _ _ _ _ _ _ _, show decide ((4 : Int32) ≤ Int32.ofNat k) = decide (4 ≤ k) from nb_dle (a := 4) (by omega) (by omega), d_t (by omega : 4 ≤ k), show k = 4 by omega]
    cases decide (x4 = 0) <;> rfl
  | c + 1, k, w8, w9, hc => by
    obtain ⟨u1, u2⟩ := gm_c k (by omega)
    have ih := fun w8 w9 => C_gmL hr ht ha hb hq x4 c (k + 1) w8 w9 (by omega)
    rw [show gm_r T q a b (k + 1) = gm_f T q a b k (gm_r T q a b k) from rfl] at ih
    rw [y_Ca_game_69 _ _ _ _ _ _ _ _ _, show decide ((4 : Int32) ≤ Int32.ofNat k) = decide (4 ≤ k) from nb_dle (a := 4) (by omega) (by omega), d_f (by omega : ¬ 4 ≤ k), u1, u2, C_stay hr ht ha hb hq, am_bd_ok, am_tl, y_Ca_game_98 _ _ _ _ _ _ _ _ _ _, i_b0, C_stay hr ht hb ha hq, am_bd_ok, am_tl, y_Ca_game_112 _ _ _ _ _ _ _ _ _ _, i_b0, nb_s]
    unfold gm_f at ih
    cases h1 : gm_o T q a b (k.testBit 1) (k.testBit 0) with
    | false =>
      rw [h1] at ih
      exact ih _ _
    | true =>
      rw [h1] at ih
      cases h2 : gm_o T q b a (k.testBit 0) (k.testBit 1) with
      | false =>
        rw [h2] at ih
        exact ih _ _
      | true =>
        rw [h2] at ih
        cases h3 : decide ((gm_r T q a b k).2 = -1) with
        | true =>
          rw [h3] at ih
          exact ih _ _
        | false =>
          rw [h3] at ih
          exact ih _ _
theorem C_game (h : cC E mb T sw I) (ht : t_ok T) (x1 x2 x3 x4 : Int32) : oC g N sw lv L I (am_R 134 7 0 [.ref 75, .int x1, .int x2, .int x3, .int x4, am_u, am_u, am_u, am_u, am_u] [] (am_hp g N sw lv I L)) (sp_game T x1 x2 x3 x4) := by
  have hn := ht.1
  rw [y_Ca_game_0 _ _ _ _, h.2.1.1, g_I, g_6, g_H, g_H]
  unfold sp_game
  cases h1 : gH (t_n T) x1 with
  | false => exact oC_t rfl
  | true =>
    cases h2 : gH (t_n T) x2 with
    | false => exact oC_t rfl
    | true =>
      cases h3 : gH 6 x3 with
      | false => exact oC_t rfl
      | true =>
        cases h4 : gI 0 1 x4 with
        | false => exact oC_t rfl
        | true =>
          cases h5 : decide (x1 = x2) with
          | true => exact oC_t rfl
          | false =>
            obtain ⟨a, ha, rfl⟩ := gH_at hn h1
            obtain ⟨b, hb, rfl⟩ := gH_at hn h2
            obtain ⟨q, hq, rfl⟩ := gH_at (by decide) h3
            simp only [cond_true, cond_false]
            rw [nb_tn (show a < 100000 by omega), nb_tn (show b < 100000 by omega), nb_tn (show q < 100000 by omega), rC_stands h.2.1 ht ha, rC_stands h.2.1 ht hb, i_b0, i_b0]
            cases t_up T a with
            | false => exact oC_v zf_rfl rfl
            | true =>
              cases t_up T b with
              | false => exact oC_v zf_rfl rfl
              | true => exact oC_v zf_rfl (C_gmL h.2.1 ht ha hb hq x4 4 0 am_u am_u (by omega))
theorem gm_or : ∀ a, a < 8 → ∀ b, b < 8 → a ≠ b → 2 ^ a ||| 2 ^ b = 2 ^ a ^^^ 2 ^ b := by decide
theorem gm_oc {a b : Nat} (ha : a < 8) (hb : b < 8) (h : a ≠ b) (m t : Bool) : cond m (2 ^ a) 0 ||| cond t (2 ^ b) 0 = gm_s a b m t := by
  unfold gm_s
  cases m <;> cases t
  · rw [cond_false, cond_false, Nat.or_zero, Nat.xor_zero]
  · rw [cond_false, cond_true, Nat.zero_or, Nat.zero_xor]
  · rw [cond_false, cond_true, Nat.or_zero, Nat.xor_zero]
  · exact gm_or a ha b hb h
theorem gm_sc (a b : Nat) (m t : Bool) : gm_s a b m t = gm_s b a t m := Nat.xor_comm _ _
theorem M_gain {q h s : Nat} (ht : t_ok T) (hq : q < 6) (hh : h < t_n T) (hr : rM (t_fp T (fun j => s.testBit j) q) I) (u : Int32) : am_R 258 7 0 [.ref 147, .int (Int32.ofNat h), .int (Int32.ofNat q), .int u] [] (am_hp g N sw lv I L) = some (.inl (some (.int (gm_g T q s h u))), am_hp g N sw lv I L) := by
  have h1 := t_fp_ok (P := fun j => s.testBit j) ht hq
  obtain ⟨o1, o2⟩ := rM_op hr h1 hh
  have l := t_op_lt h1 hh
  have e : (t_oo T q ^^^ s).testBit h = ((t_op T h).testBit q ^^ s.testBit h) := by
    unfold t_oo
    rw [Nat.testBit_xor, bs_at, decide_eq_true hh, Bool.true_and]
  rw [y_Mo_gainOf_0 _ _ _, o1, o2, rM_pass hr h1 (show q < 8 by omega), am_bd_ok, am_tl, y_Mo_gainOf_14 _ _ _ _ _, m_isof _ (by omega) q (by omega), t_op_fp, t_ps_fp ht, i_b2]
  unfold gm_g
  rw [e]
  cases t_pw T q s <;> cases ((t_op T h).testBit q ^^ s.testBit h) <;> rfl
theorem gm_d : ∀ k, k < 4 → (decide (Int32.ofNat k / 2 = 1) = k.testBit 1 ∧ decide (Int32.ofNat k - Int32.ofNat k / 2 * 2 = 1) = k.testBit 0) ∧ Int32.ofNat k / 2 = cond (k.testBit 1) 1 0 ∧ Int32.ofNat k - Int32.ofNat k / 2 * 2 = cond (k.testBit 0) 1 0 := by decide
theorem gm_or3 {a b : Nat} (ha : a < 8) (hb : b < 8) (h : a ≠ b) (m t : Bool) : (cond m ((1 : Int32) <<< (Int32.ofNat a &&& 31)) 0 : Int32) ||| cond t ((1 : Int32) <<< (Int32.ofNat b &&& 31)) 0 = Int32.ofNat (gm_s a b m t) := by
  rw [← gm_oc ha hb h, ← bt_or _ (b_c2 ha) _ (b_c2 hb), bt_shl a ha, bt_shl b hb]
  cases m <;> cases t <;> rfl
theorem M_tg3 {a b q k : Nat} (ha : a < 8) (hb : b < 8) (h : a ≠ b) (hk : k < 4) (w5 : Value) : am_R 257 8 3 [.ref 147, .int (Int32.ofNat a), .int (Int32.ofNat b), .int (Int32.ofNat q), .int (Int32.ofNat k), w5] [] (am_hp g N sw lv I L) = am_bd (am_R 232 2 0 [.ref 147, .int (Int32.ofNat (gm_s a b (k.testBit 1) (k.testBit 0))), .int (Int32.ofNat q), am_u] [] (am_hp g N sw lv I L)) (fun v h => am_R 257 8 49 [.ref 147, .int (Int32.ofNat a), .int (Int32.ofNat b), .int (Int32.ofNat q), .int (Int32.ofNat k), .int (Int32.ofNat (gm_s a b (k.testBit 1) (k.testBit 0)))] (v.toList ++ []) h) (fun c h => some (.inr c, h)) := by
  obtain ⟨⟨d1, d2⟩, -⟩ := gm_d k hk
  rw [y_Mo_tellGains_3 _ _ _ _ _, show decide ((4 : Int32) ≤ Int32.ofNat k) = decide (4 ≤ k) from nb_dle (a := 4) (by omega) (by omega), d_f (by omega : ¬ 4 ≤ k), d1, d2]
  have key := gm_or3 ha hb h (k.testBit 1) (k.testBit 0)
  rw [← key]
  cases k.testBit 1 <;> cases k.testBit 0 <;> rfl
theorem mR_x {I1 I2 : Nat → Nat → Int32} (r : mR T I I1) (e : ∀ a, a ≠ 165 → a ≠ 166 → a ≠ 178 → I2 a = I1 a) (hr : rM T I2) : mR T I I2 :=
  ⟨hr, zM_tr r.2.1 ⟨fun a _ q2 => e a (by omega) (by omega) (by omega), fun j _ _ _ _ _ _ => by rw [e 147 (by decide) (by decide) (by decide)]⟩, by rw [e 147 (by decide) (by decide) (by decide)]; exact r.2.2.1, by rw [e 147 (by decide) (by decide) (by decide)]; exact r.2.2.2⟩
def gm_I (T : tr_T) (q a b k : Nat) (I : Nat → Nat → Int32) : Prop := ∀ j, j < k → I 178 (2 * j) = gm_a T q a b (j.testBit 1) (j.testBit 0) ∧ I 178 (2 * j + 1) = gm_a T q b a (j.testBit 0) (j.testBit 1)
theorem M_tgL (ht : t_ok T) {a b q : Nat} (ha : a < t_n T) (hb : b < t_n T) (hq : q < 6) (hne : a ≠ b) : ∀ c k (I1 : Nat → Nat → Int32) (w5 : Value), k + c = 4 → mR T I I1 → gm_I T q a b k I1 → ∃ I2, am_R 257 8 3 [.ref 147, .int (Int32.ofNat a), .int (Int32.ofNat b), .int (Int32.ofNat q), .int (Int32.ofNat k), w5] [] (am_hp g N sw lv I1 L) = some (.inl none, am_hp g N sw lv I2 L) ∧ mR T I I2 ∧ gm_I T q a b 4 I2
  | 0, k, I1, w5, hc, r, hI => by
    refine ⟨I1, ?_, r, by rw [show 4 = k by omega]; exact hI⟩
    rw [y_Mo_tellGains_3 _ _ _ _ _, show decide ((4 : Int32) ≤ Int32.ofNat k) = decide (4 ≤ k) from nb_dle (a := 4) (by omega) (by omega), d_t (by omega : 4 ≤ k)]
  | c + 1, k, I1, w5, hc, r, hI => by
    have hn := ht.1
    obtain ⟨-, d1, d2⟩ := gm_d k (by omega)
    have hs : gm_s a b (k.testBit 1) (k.testBit 0) < 256 := Nat.lt_of_lt_of_le (gm_lt ha hb _ _) (Nat.pow_le_pow_right (n := 2) (by decide) hn)
    obtain ⟨J1, a1, a2, a3⟩ := rM_tA (g := g) (N := N) (sw := sw) (lv := lv) (L := L) r.1 ht hs hq
    have r2 : rM (t_fp T (fun h => (gm_s a b (k.testBit 1) (k.testBit 0)).testBit h) q) (am_up J1 178 (upd (J1 178) (2 * k) (gm_a T q a b (k.testBit 1) (k.testBit 0)))) := rM_fr a2 (fun x p => up_ne (by omega)) (by rw [up_ne (by decide)]) (by rw [up_ne (by decide)])
    have r3 : rM (t_fp T (fun h => (gm_s a b (k.testBit 1) (k.testBit 0)).testBit h) q) (am_up (am_up J1 178 (upd (J1 178) (2 * k) (gm_a T q a b (k.testBit 1) (k.testBit 0)))) 178 (upd (upd (J1 178) (2 * k) (gm_a T q a b (k.testBit 1) (k.testBit 0))) (2 * k + 1) (gm_a T q b a (k.testBit 0) (k.testBit 1)))) := rM_fr a2 (fun x p => by rw [up_ne (by omega), up_ne (by omega)]) (by rw [up_ne (by decide), up_ne (by decide)]) (by rw [up_ne (by decide), up_ne (by decide)])
    obtain ⟨J2, b1, b2, b3⟩ := rM_tA (g := g) (N := N) (sw := sw) (lv := lv) (L := L) r3 (t_fp_ok ht hq) hs hq
    rw [t_fp2] at b2
    have g1 := M_gain (g := g) (N := N) (sw := sw) (lv := lv) (L := L) ht hq ha a2 (cond (k.testBit 1) 1 0)
    have g2 := M_gain (g := g) (N := N) (sw := sw) (lv := lv) (L := L) ht hq hb r2 (cond (k.testBit 0) 1 0)
    have g1' : gm_g T q (gm_s a b (k.testBit 1) (k.testBit 0)) a (cond (k.testBit 1) 1 0) = gm_a T q a b (k.testBit 1) (k.testBit 0) := rfl
    have g2' : gm_g T q (gm_s a b (k.testBit 1) (k.testBit 0)) b (cond (k.testBit 0) 1 0) = gm_a T q b a (k.testBit 0) (k.testBit 1) := by
      rw [gm_sc]
      rfl
    rw [g1'] at g1
    rw [g2'] at g2
    have rr : mR T I J2 := mR_x r (fun x p1 p2 p3 => by rw [b3 x p1 p2, up_ne p3, up_ne p3, a3 x p1 p2]) b2
    have e8 : J2 178 = upd (upd (J1 178) (2 * k) (gm_a T q a b (k.testBit 1) (k.testBit 0))) (2 * k + 1) (gm_a T q b a (k.testBit 0) (k.testBit 1)) := by
      rw [b3 178 (by decide) (by decide), up_same]
    obtain ⟨J3, c1, c2, c3⟩ := M_tgL ht ha hb hq hne c (k + 1) J2 (.int (Int32.ofNat (gm_s a b (k.testBit 1) (k.testBit 0)))) (by omega) rr (fun j hj => by
      rw [e8]
      by_cases w : j = k
      · rw [w, upd_ne (by omega), upd_same, upd_same]
        exact ⟨rfl, rfl⟩
      · rw [upd_ne (by omega), upd_ne (by omega), upd_ne (by omega), upd_ne (by omega), a3 178 (by decide) (by decide)]
        exact hI j (by omega))
    refine ⟨J3, ?_, c2, c3⟩
    rw [M_tg3 (by omega) (by omega) hne (by omega), a1, am_bd_ok, am_tn, y_Mo_tellGains_49 _ _ _ _ _, d1, g1, am_bd_ok, am_tl, y_Mo_tellGains_67 _ _ _ _ _ _ _, nb_two, nb_inb (show 2 * k < 8 by omega) (by omega), nb_tn (show 2 * k < 100000 by omega), d2, g2, cond_true, am_bd_ok, am_tl, y_Mo_tellGains_88 _ _ _ _ _ _ _, nb_s, nb_inb (show 2 * k + 1 < 8 by omega) (by omega), nb_tn (show 2 * k + 1 < 100000 by omega), up_same, b1, cond_true, am_bd_ok, am_tn, y_Mo_tellGains_96 _ _ _ _ _, nb_s]
    exact c1
theorem gm_e : ∀ k, k < 4 → (am_inb (2 * (Int32.ofNat k ^^^ 2)) 8 = true ∧ (2 * (Int32.ofNat k ^^^ 2)).toNatClampNeg = 2 * (k ^^^ 2)) ∧ (am_inb (2 * Int32.ofNat k) 8 = true ∧ (2 * Int32.ofNat k).toNatClampNeg = 2 * k) ∧ (am_inb ((2 * (Int32.ofNat k ^^^ 1)) + 1) 8 = true ∧ ((2 * (Int32.ofNat k ^^^ 1)) + 1).toNatClampNeg = 2 * (k ^^^ 1) + 1) ∧ (am_inb ((2 * Int32.ofNat k) + 1) 8 = true ∧ ((2 * Int32.ofNat k) + 1).toNatClampNeg = 2 * k + 1) ∧ (k ^^^ 2 < 4 ∧ (k ^^^ 2).testBit 1 = !(k.testBit 1) ∧ (k ^^^ 2).testBit 0 = k.testBit 0) ∧ (k ^^^ 1 < 4 ∧ (k ^^^ 1).testBit 1 = k.testBit 1 ∧ (k ^^^ 1).testBit 0 = !(k.testBit 0)) := by decide
theorem M_gmL {a b q : Nat} {I1 : Nat → Nat → Int32} (hI : gm_I T q a b 4 I1) (x4 : Int32) : ∀ c k, k + c = 4 → am_R 256 9 90 [.ref 147, .int (Int32.ofNat a), .int (Int32.ofNat b), .int (Int32.ofNat q), .int x4, .int (gm_r T q a b k).1, .int (gm_r T q a b k).2, .int (Int32.ofNat k)] [] (am_hp g N sw lv I1 L) = some (.inl (some (.int (cond (decide (x4 = 0)) (gm_r T q a b 4).1 (gm_r T q a b 4).2))), am_hp g N sw lv I1 L)
  | 0, k, hc => by
    rw [y_Mo_game_90 _ _ _ _ _ _ _, show decide ((4 : Int32) ≤ Int32.ofNat k) = decide (4 ≤ k) from nb_dle (a := 4) (by omega) (by omega), d_t (by omega : 4 ≤ k), show k = 4 by omega]
    cases decide (x4 = 0) <;> rfl
  | c + 1, k, hc => by
    obtain ⟨⟨u1, u2⟩, ⟨u3, u4⟩, ⟨u5, u6⟩, ⟨u7, u8⟩, ⟨v1, v2, v3⟩, ⟨v4, v5, v6⟩⟩ := gm_e k (by omega)
    obtain ⟨-, d1, d2⟩ := gm_d k (by omega)
    have ih := M_gmL hI x4 c (k + 1) (by omega)
    rw [show gm_r T q a b (k + 1) = gm_f T q a b k (gm_r T q a b k) from rfl] at ih
    have i1 := (hI (k ^^^ 2) v1).1
    rw [v2, v3] at i1
    have i2 := (hI (k ^^^ 1) v4).2
    rw [v5, v6] at i2
    have i3 := hI k (by omega)
    rw [y_Mo_game_90 _ _ _ _ _ _ _, show decide ((4 : Int32) ≤ Int32.ofNat k) = decide (4 ≤ k) from nb_dle (a := 4) (by omega) (by omega), d_f (by omega : ¬ 4 ≤ k), u1, u2, u3, u4, u5, u6, u7, u8, i1, i2, i3.1, i3.2, d2, d1, nb_s]
    unfold gm_f gm_o at ih
    rw [i_dnlt (x := gm_a T q b a (k.testBit 0) (k.testBit 1)), Bool.not_not] at ih
    cases h1 : decide (gm_a T q a b (k.testBit 1) (k.testBit 0) < gm_a T q a b (!k.testBit 1) (k.testBit 0)) with
    | true =>
      rw [h1] at ih
      exact ih
    | false =>
      rw [h1] at ih
      cases h2 : decide (gm_a T q b a (!k.testBit 0) (k.testBit 1) ≤ gm_a T q b a (k.testBit 0) (k.testBit 1)) with
      | false =>
        rw [h2] at ih
        exact ih
      | true =>
        rw [h2] at ih
        cases h3 : decide ((gm_r T q a b k).2 = -1) with
        | true =>
          rw [h3] at ih
          exact ih
        | false =>
          rw [h3] at ih
          exact ih
theorem M_game (h : cM E mb T I) (ht : t_ok T) (x1 x2 x3 x4 : Int32) : oM g N sw lv L T I k12 (am_R 256 9 0 [.ref 147, .int x1, .int x2, .int x3, .int x4, am_u, am_u, am_u] [] (am_hp g N sw lv I L)) (sp_game T x1 x2 x3 x4) := by
  have hn := ht.1
  have h4 := cM_4 h 0
  obtain ⟨q1, q2⟩ := m_H h4.2.1 ht x1
  obtain ⟨q3, q4⟩ := m_H h4.2.1 ht x2
  obtain ⟨q5, q6⟩ := m_q x3
  rw [y_Mo_game_0 _ _ _ _, q1, q2, q3, q4, q5, q6, m_inL (a := 0) (b := 1) (by decide) (by decide)]
  unfold sp_game
  cases h1 : gH (t_n T) x1 with
  | false => exact oM_t (c := 0) h rfl
  | true =>
    cases h2 : gH (t_n T) x2 with
    | false => exact oM_t (c := 0) h rfl
    | true =>
      cases h3 : gH 6 x3 with
      | false => exact oM_t (c := 0) h rfl
      | true =>
        cases h4' : gI 0 1 x4 with
        | false => exact oM_t (c := 0) h rfl
        | true =>
          cases h5 : decide (x1 = x2) with
          | true => exact oM_t (c := 1) h rfl
          | false =>
            obtain ⟨a, ha, rfl⟩ := gH_at hn h1
            obtain ⟨b, hb, rfl⟩ := gH_at hn h2
            obtain ⟨q, hq, rfl⟩ := gH_at (by decide) h3
            rw [nb_deq (by omega) (by omega)] at h5
            have hne : a ≠ b := of_decide_eq_false h5
            obtain ⟨I2, a1, a2, a3⟩ := M_tgL (g := g) (N := N) (sw := sw) (lv := lv) (L := L) ht ha hb hq hne 4 0 _ am_u (by omega) (mR_0 h) (fun j hj => by omega)
            simp only [cond_true, cond_false]
            rw [d_f (by decide : ¬ (1 : Int32) = 0), d_f (by decide : ¬ (1 : Int32) = 0), d_f (by decide : ¬ (1 : Int32) = 0), d_f (by decide : ¬ (1 : Int32) = 0), nb_tn (show a < 100000 by omega), nb_tn (show b < 100000 by omega), nb_tn (show q < 100000 by omega), rM_stands h4.2.1 ht ha, rM_stands h4.2.1 ht hb, i_b0, i_b0, y_Mo_tellGains_0 _ _ _, show (.int 0 : Value) = .int (Int32.ofNat 0) from rfl, a1, am_bd_ok, am_tn, y_Mo_game_81 _ _ _ _]
            cases t_up T a with
            | false => exact oM_v h rfl
            | true =>
              cases t_up T b with
              | false => exact oM_v h rfl
              | true => exact oM_r a2 (M_gmL a3 x4 4 0 (by omega))
end OPI
