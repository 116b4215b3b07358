/-! CALLS: cast anew (both rows), years -/
theorem nb_div {v n : Nat} (hv : v < 100000) (hn : n < 100000) : Int32.ofNat v / Int32.ofNat n = Int32.ofNat (v / n) := by
  have hd : v / n < 100000 := Nat.lt_of_le_of_lt (Nat.div_le_self v n) hv
  have e : Int.tdiv (v : Int) (n : Int) = ((v / n : Nat) : Int) := rfl
  refine Int32.toInt_inj.mp ?_
  rw [Int32.toInt_div, nb_ti hv, nb_ti hn, nb_ti hd, e]
  clear e
  generalize v / n = w at *
  refine Int.bmod_eq_of_le ?_ ?_ <;> omega
theorem nb_mod {v n : Nat} (hv : v < 100000) (hn : n < 100000) : Int32.ofNat v - Int32.ofNat v / Int32.ofNat n * Int32.ofNat n = Int32.ofNat (v % n) := by
  have h1 := Nat.div_add_mod v n
  have h2 : v / n * n ≤ v := Nat.div_mul_le_self v n
  rw [nb_div hv hn, nb_mul, ← Int32.ofNat_sub _ _ h2]
  congr 1
  have h3 : n * (v / n) = v / n * n := Nat.mul_comm _ _
  omega
/-- a number between 0 and 32767 -/
theorem yr_and (x : Int32) : ∃ v, v < 32768 ∧ x &&& 32767 = Int32.ofNat v := by
  refine ⟨(x.toBitVec &&& 32767#32).toNat, ?_, ?_⟩
  · rw [BitVec.toNat_and]
    exact Nat.lt_of_le_of_lt Nat.and_le_right (by decide)
  · refine Int32.toBitVec.inj ?_
    show x.toBitVec &&& 32767#32 = BitVec.ofNat 32 (x.toBitVec &&& 32767#32).toNat
    rw [BitVec.ofNat_toNat, BitVec.setWidth_eq]
theorem yr_sh (x : Int32) : am_bin 8 x 16 &&& 32767 = (x >>> ((16 : Int32) &&& 31)) &&& 32767 := by
  refine Int32.toBitVec.inj ?_
  show (x.toBitVec >>> 16#32) &&& 32767#32 = (x.toBitVec.sshiftRight 16) &&& 32767#32
  refine BitVec.eq_of_getLsbD_eq fun i hi => ?_
  have hm : ∀ i, i < 32 → (32767#32).getLsbD i = decide (i < 15) := by decide
  rw [BitVec.getLsbD_and, BitVec.getLsbD_and, hm i hi]
  by_cases h : i < 15
  · rw [decide_eq_true h, Bool.and_true, Bool.and_true]
    show (x.toBitVec >>> (16#32).toNat).getLsbD i = _
    rw [BitVec.getLsbD_ushiftRight, BitVec.getLsbD_sshiftRight]
    rw [show (16#32).toNat = 16 from rfl, decide_eq_false (by omega : ¬ 32 ≤ i), if_pos (by omega : 16 + i < 32)]
    rfl
  · rw [decide_eq_false h, Bool.and_false, Bool.and_false]
def yr_s (x : Int32) : Int32 := x * 1103515245 + 12345
def yr_v (x : Int32) : Nat := ((x >>> ((16 : Int32) &&& 31)) &&& 32767).toNatClampNeg
theorem yr_ve (x : Int32) : yr_v x < 32768 ∧ (x >>> ((16 : Int32) &&& 31)) &&& 32767 = Int32.ofNat (yr_v x) := by
  obtain ⟨v, hv, e⟩ := yr_and (x >>> ((16 : Int32) &&& 31))
  unfold yr_v
  rw [e, nb_tn (by omega)]
  exact ⟨hv, rfl⟩
def t_cast (T : tr_T) (h m : Nat) : tr_T := cond (t_up T h) (tc_T T h m) (t_put T (b_on (t_s T) h) (upd (t_su T) h (v_Ma_min 99 (t_su T h + Int32.ofNat m))) (upd (t_le T) h 0))
def t_bef (T : tr_T) (h : Nat) : Nat → tr_T
  | 0 => t_cast T h 9
  | 1 => cond (t_up T h) (t_put T (t_s T) (t_su T) (upd (t_le T) h 0)) T
  | 2 => cond (t_up T h && !decide (t_su T h ≤ 9)) (t_put T (t_s T) (upd (t_su T) h (t_su T h - 9)) (t_le T)) T
  | _ => T
def yr_1 (E : e_E) (s : Int32 × tr_T) : Int32 × tr_T := cond (decide (t_n s.2 = 0)) (yr_s s.1, t_day E (Int32.ofNat (yr_v (yr_s s.1) % 10)) s.2) (yr_s (yr_s (yr_s s.1)), t_day E (Int32.ofNat (yr_v (yr_s s.1) % 10)) (t_bef s.2 (yr_v (yr_s (yr_s s.1)) % t_n s.2) (yr_v (yr_s (yr_s (yr_s s.1))) % 5)))
def yr (E : e_E) : Nat → Int32 × tr_T → Int32 × tr_T
  | 0, s => s
  | k + 1, s => yr_1 E (yr E k s)
def yr_a (x : Int32) (T : tr_T) : Int32 := cond (decide (x = 0)) (Int32.ofNat (t_s T)) (cond (decide (x = 1)) (t_sg T (2 ^ t_n T - 1)) (Int32.ofNat (b_pc (t_pg T))))
def sp_years (E : e_E) (T : tr_T) (x1 x2 x3 : Int32) : a_O := cond (gI 0 2 x3) (cond (gI 0 40 x2) (.inl (yr_a x3 (yr E x2.toNatClampNeg (x1, T)).2)) (.inr 1)) (.inr 0)
section OPH
variable {g N : Nat} {sw lv : Bool} {I : Nat → Nat → Int32} {L : Nat → Nat → Int64} {T : tr_T} {E : e_E} {mb : Nat}
theorem t_cast_ok (ht : t_ok T) {h m : Nat} (hh : h < t_n T) (hm : m < 100) : t_ok (t_cast T h m) ∧ t_n (t_cast T h m) = t_n T ∧ t_d (t_cast T h m) = t_d T := by
  have h1 := tc_ok ht hh hm
  unfold t_cast
  cases t_up T h with
  | true => exact ⟨h1, rfl, rfl⟩
  | false =>
    refine ⟨t_ok_put ht (b_on_lt ht.2.1 hh) (fun j hj => (h1.2.2.2.1 j hj).1) (fun j hj => ?_), rfl, rfl⟩
    by_cases q : j = h
    · rw [q, upd_same]
      decide
    · rw [upd_ne q]
      exact (ht.2.2.2.1 j hj).2.1
theorem rC_cast {r : Nat} (ha : am_isr r) (hr : rC r T I) (ht : t_ok T) {h m : Nat} (hh : h < t_n T) (hm : m < 100) : ∃ I', am_R 93 2 0 [.ref r, .int (Int32.ofNat h), .int (Int32.ofNat m)] [] (am_hp g N sw lv I L) = some (.inl none, am_hp g N sw lv I' L) ∧ rC r (t_cast T h m) I' ∧ ∀ x, x ≠ r → x ≠ r + 1 → x ≠ r + 2 → I' x = I x := by
  have hn := ht.1
  have hs := (hr.2.2.2.1 h hh).1
  have h2 := hr.2.2.1
  have w1 := rC_w1 hr h (v_Ma_min 99 (t_su T h + Int32.ofNat m))
  have k0 := tc_ok ht hh hm
  have st := rC_stands (T := tc_T T h m) w1 k0 hh
  rw [show t_up (tc_T T h m) h = t_up T h from rfl] at st
  have e := y_Rw_castAnew_0 (g := g) (N := N) (sw := sw) (lv := lv) (I := I) (L := L) (Int32.ofNat h) (Int32.ofNat m) ha
  rw [nb_inb (show h < 8 by omega) (by omega), nb_tn (show h < 100000 by omega), hs, st, i_b0, h2, bt_on _ (b_256 hn ht.2.1) _ (by omega)] at e
  rw [e]
  unfold t_cast
  cases hu : t_up T h with
  | true => exact ⟨_, rfl, w1, fun x _ p _ => up_ne p⟩
  | false =>
    refine ⟨_, rfl, ?_, fun x p1 p2 p3 => by rw [up_ne p3, up_ne p1, up_ne p2]⟩
    have w2 := rC_wS w1 (b_on (t_s T) h)
    rw [up_ne (show r ≠ r + 1 by omega)] at w2
    have w3 := rC_w2 w2 h 0
    rw [up_ne (show r + 2 ≠ r by omega), up_ne (show r + 2 ≠ r + 1 by omega)] at w3
    exact w3
theorem rM_cast (hr : rM T I) (ht : t_ok T) {h m : Nat} (hh : h < t_n T) (hm : m < 100) : ∃ I', am_R 206 3 0 [.ref 147, .int (Int32.ofNat h), .int (Int32.ofNat m)] [] (am_hp g N sw lv I L) = some (.inl none, am_hp g N sw lv I' L) ∧ rM (t_cast T h m) I' ∧ (∀ x, x ≠ 147 → x ≠ 162 → x ≠ 163 → I' x = I x) ∧ ∀ j, j ≠ 34 → I' 147 j = I 147 j := by
  have hn := ht.1
  have hs := (hr.2.2.2.1 h hh).1
  have h2 := hr.2.2.1
  have w1 := rM_w1 hr h (v_Ma_min 99 (t_su T h + Int32.ofNat m))
  have k0 := tc_ok ht hh hm
  have st := rM_stands (T := tc_T T h m) w1 k0 hh
  rw [show t_up (tc_T T h m) h = t_up T h from rfl] at st
  have e := y_Mo_castBy_0 (g := g) (N := N) (sw := sw) (lv := lv) (I := I) (L := L) (Int32.ofNat h) (Int32.ofNat m)
  rw [nb_inb (show h < 8 by omega) (by omega), nb_tn (show h < 100000 by omega), hs, st, i_b0, h2, bt_off _ (b_no_lt _ (by omega) _ ht.2.1) _ (by omega)] at e
  rw [e]
  unfold t_cast
  cases hu : t_up T h with
  | true => exact ⟨_, rfl, w1, fun x _ p _ => up_ne p, fun j _ => by rw [up_ne (by decide)]⟩
  | false =>
    refine ⟨_, rfl, ?_, fun x p1 p2 p3 => by rw [up_ne p3, up_ne p1, up_ne p2], fun j p => by rw [up_ne (by decide), up_same, upd_ne p]⟩
    have w2 := rM_wS w1 (s := b_on (t_s T) h) (x := b_off (b_no (t_n T) (t_s T)) h) (b_no_off _ (by omega) _ ht.2.1 _ hh)
    rw [up_ne (show 147 ≠ 162 by decide)] at w2
    have w3 := rM_w2 w2 h 0
    rw [up_ne (show 163 ≠ 147 by decide), up_ne (show 163 ≠ 162 by decide)] at w3
    exact w3
theorem t_bef_ok (ht : t_ok T) {h : Nat} (hh : h < t_n T) (b : Nat) : t_ok (t_bef T h b) ∧ t_n (t_bef T h b) = t_n T ∧ t_d (t_bef T h b) = t_d T := by
  match b with
  | 0 => exact t_cast_ok ht hh (by decide)
  | 1 =>
    unfold t_bef
    cases t_up T h with
    | false => exact ⟨ht, rfl, rfl⟩
    | true =>
      refine ⟨t_ok_put ht ht.2.1 (fun j hj => (ht.2.2.2.1 j hj).1) (fun j hj => ?_), rfl, rfl⟩
      by_cases q : j = h
      · rw [q, upd_same]
        decide
      · rw [upd_ne q]
        exact (ht.2.2.2.1 j hj).2.1
  | 2 =>
    unfold t_bef
    cases hd : (t_up T h && !decide (t_su T h ≤ 9)) with
    | false => exact ⟨ht, rfl, rfl⟩
    | true =>
      rw [Bool.and_eq_true, Bool.not_eq_true', decide_eq_false_iff_not] at hd
      refine ⟨t_ok_put ht ht.2.1 (fun j hj => ?_) (fun j hj => (ht.2.2.2.1 j hj).2.1), rfl, rfl⟩
      by_cases q : j = h
      · subst q
        rw [upd_same]
        obtain ⟨⟨s1, s2⟩, -⟩ := ht.2.2.2.1 j hj
        have e := i_sub s1 (show (0 : Int32) ≤ 9 by decide)
        have h9 := hd.2
        rw [Int32.le_iff_toInt_le] at s1 s2 h9 ⊢
        rw [Int32.le_iff_toInt_le, e]
        have e0 : (0 : Int32).toInt = 0 := by decide
        have e9 : (9 : Int32).toInt = 9 := by decide
        have e99 : (99 : Int32).toInt = 99 := by decide
        omega
      · rw [upd_ne q]
        exact (ht.2.2.2.1 j hj).1
  | _ + 3 => exact ⟨ht, rfl, rfl⟩
theorem yr_b : ∀ b, b < 5 → decide (Int32.ofNat b = 0) = decide (b = 0) ∧ decide (Int32.ofNat b = 1) = decide (b = 1) ∧ decide (Int32.ofNat b = 2) = decide (b = 2) := by decide
theorem rC_bef (hr : rC 109 T I) (ht : t_ok T) {h b : Nat} (hh : h < t_n T) (hb : b < 5) : ∃ I', am_R 139 3 0 [.ref 109, .int (Int32.ofNat h), .int (Int32.ofNat b)] [] (am_hp g N sw lv I L) = some (.inl none, am_hp g N sw lv I' L) ∧ rC 109 (t_bef T h b) I' ∧ ∀ x, x ≠ 109 → x ≠ 110 → x ≠ 111 → I' x = I x := by
  have hn := ht.1
  obtain ⟨b0, b1, b2⟩ := yr_b b hb
  have st := rC_stands hr ht hh
  have hs := (hr.2.2.2.1 h hh).1
  obtain ⟨I1, a1, a2, a3⟩ := rC_cast (g := g) (N := N) (sw := sw) (lv := lv) (L := L) a_109 hr ht hh (show 9 < 100 by decide)
  have e : am_R 139 3 0 [.ref 109, .int (Int32.ofNat h), .int (Int32.ofNat b)] [] (am_hp g N sw lv I L) = cond (decide (b = 0)) (some (.inl none, am_hp g N sw lv I1 L)) (cond (decide (b = 1)) (cond (t_up T h) (some (.inl none, am_hp g N sw lv (am_up I 111 (upd (I 111) h 0)) L)) (cond (decide (b = 2)) (cond (t_up T h) (cond (decide (t_su T h ≤ 9)) (some (.inl none, am_hp g N sw lv I L)) (some (.inl none, am_hp g N sw lv (am_up I 110 (upd (I 110) h (t_su T h - 9))) L))) (some (.inl none, am_hp g N sw lv I L))) (some (.inl none, am_hp g N sw lv I L)))) (cond (decide (b = 2)) (cond (t_up T h) (cond (decide (t_su T h ≤ 9)) (some (.inl none, am_hp g N sw lv I L)) (some (.inl none, am_hp g N sw lv (am_up I 110 (upd (I 110) h (t_su T h - 9))) L))) (some (.inl none, am_hp g N sw lv I L))) (some (.inl none, am_hp g N sw lv I L)))) := by
    rw [y_Rw_befall_0 _ _ a_109, show (.int 9 : Value) = .int (Int32.ofNat 9) from rfl, a1, am_bd_ok, am_tn, y_Rw_befall_11 _ _ a_109, y_Rw_befall_37 _ _ a_109, b0, b1, b2, st, i_b0, nb_inb (show h < 8 by omega) (by omega), nb_tn (show h < 100000 by omega), hs, y_Rw_befall_72 _ _ a_109, y_Rw_befall_72 _ _ a_109, y_Rw_befall_72 _ _ a_109, y_Rw_befall_72 _ _ a_109]
    cases t_up T h <;> rfl
  rw [e]
  match b, hb with
  | 0, _ => exact ⟨I1, rfl, a2, fun x p1 p2 p3 => a3 x p1 p2 p3⟩
  | 1, _ =>
    unfold t_bef
    cases t_up T h with
    | true => exact ⟨_, rfl, rC_w2 (r := 109) hr h 0, fun x _ _ p => up_ne p⟩
    | false => exact ⟨_, rfl, hr, fun x _ _ _ => rfl⟩
  | 2, _ =>
    unfold t_bef
    cases t_up T h with
    | false => exact ⟨_, rfl, hr, fun x _ _ _ => rfl⟩
    | true =>
      cases decide (t_su T h ≤ 9) with
      | true => exact ⟨_, rfl, hr, fun x _ _ _ => rfl⟩
      | false => exact ⟨_, rfl, rC_w1 (r := 109) hr h _, fun x _ p _ => up_ne p⟩
  | 3, _ => exact ⟨_, rfl, hr, fun x _ _ _ => rfl⟩
  | 4, _ => exact ⟨_, rfl, hr, fun x _ _ _ => rfl⟩
theorem C_draw {x : Int32} (hx : I 144 0 = x) {n : Nat} (h0 : 0 < n) (hn : n < 100) : am_R 138 1 0 [.ref 144, .int (Int32.ofNat n)] [] (am_hp g N sw lv I L) = some (.inl (some (.int (Int32.ofNat (yr_v (yr_s x) % n)))), am_hp g N sw lv (am_up I 144 (upd (I 144) 0 (yr_s x))) L) := by
  obtain ⟨v1, v2⟩ := yr_ve (yr_s x)
  rw [y_Dr_below_0 _, upd_same, hx, show x * 1103515245 + 12345 = yr_s x from rfl, yr_sh, v2, nb_mod (by omega) (by omega), show decide ((0 : Int32) < Int32.ofNat n) = decide (0 < n) from nb_dlt (a := 0) (by omega) (by omega), d_t h0, show decide (Int32.ofNat n = 0) = decide (n = 0) from nb_deq (b := 0) (by omega) (by omega), decide_eq_false (by omega : ¬ n = 0)]
  rfl
theorem M_draw {x : Int32} (hx : I 147 50 = x) {n : Nat} (h0 : 0 < n) (hn : n < 100) : am_R 261 1 0 [.ref 147, .int (Int32.ofNat n)] [] (am_hp g N sw lv I L) = some (.inl (some (.int (Int32.ofNat (yr_v (yr_s x) % n)))), am_hp g N sw lv (am_up I 147 (upd (I 147) 50 (yr_s x))) L) := by
  obtain ⟨v1, v2⟩ := yr_ve (yr_s x)
  rw [y_Mo_drawOf_0 _, upd_same, hx, show x * 1103515245 + 12345 = yr_s x from rfl, v2, nb_mod (by omega) (by omega), show decide (Int32.ofNat n = 0) = decide (n = 0) from nb_deq (b := 0) (by omega) (by omega), decide_eq_false (by omega : ¬ n = 0)]
  rfl
theorem yr_ok (ht : t_ok T) (hd : t_d T ≤ 1000) (x : Int32) : ∀ k, k ≤ 40 → t_ok (yr E k (x, T)).2 ∧ t_n (yr E k (x, T)).2 = t_n T ∧ t_d (yr E k (x, T)).2 = t_d T + Int32.ofNat k
  | 0, _ => ⟨ht, rfl, (Int32.add_zero _).symm⟩
  | k + 1, hk => by
    obtain ⟨i1, i2, i3⟩ := yr_ok ht hd x k (by omega)
    obtain ⟨-, k2⟩ := i_dk ht.2.2.1.1 (Int32.le_trans hd (by decide)) (show k ≤ 50 by omega)
    show t_ok (yr_1 E (yr E k (x, T))).2 ∧ t_n (yr_1 E (yr E k (x, T))).2 = t_n T ∧ t_d (yr_1 E (yr E k (x, T))).2 = t_d T + Int32.ofNat (k + 1)
    generalize yr E k (x, T) = s at *
    unfold yr_1
    by_cases h0 : t_n s.2 = 0
    · rw [d_t h0]
      obtain ⟨d1, d2⟩ := t_day_ok (E := E) (w := Int32.ofNat (yr_v (yr_s s.1) % 10)) i1 (by rw [i3]; exact k2)
      refine ⟨d1, d2.trans i2, ?_⟩
      show t_d (t_day E (Int32.ofNat (yr_v (yr_s s.1) % 10)) s.2) = _
      rw [t_day_d, i3, Int32.add_assoc, nb_s]
    · rw [d_f h0]
      obtain ⟨b1, b2, b3⟩ := t_bef_ok i1 (Nat.mod_lt (yr_v (yr_s (yr_s s.1))) (by omega : 0 < t_n s.2)) (yr_v (yr_s (yr_s (yr_s s.1))) % 5)
      obtain ⟨d1, d2⟩ := t_day_ok (E := E) (w := Int32.ofNat (yr_v (yr_s s.1) % 10)) b1 (by rw [b3, i3]; exact k2)
      refine ⟨d1, d2.trans (b2.trans i2), ?_⟩
      show t_d (t_day E (Int32.ofNat (yr_v (yr_s s.1) % 10)) _) = _
      rw [t_day_d, b3, i3, Int32.add_assoc, nb_s]
theorem C_yrL (h : cC E mb T sw I) (ht : t_ok T) (hd : t_d T ≤ 1000) (x x1 x3 : Int32) {n : Nat} (hn : n ≤ 40) : ∀ c k (I1 : Nat → Nat → Int32) (w5 w6 : Value), k + c = n → zf I I1 → rC 109 (yr E k (x, T)).2 I1 → I1 144 0 = (yr E k (x, T)).1 → ∃ I2, am_R 137 8 32 [.ref 75, .int x1, .int (Int32.ofNat n), .int x3, .int (Int32.ofNat k), w5, w6] [] (am_hp g N sw lv I1 L) = some (.inl (some (.int (yr_a x3 (yr E n (x, T)).2))), am_hp g N sw lv I2 L) ∧ zf I I2
  | 0, k, I1, w5, w6, hc, z, hr, hx => by
    have e : k = n := by omega
    subst e
    obtain ⟨i1, i2, i3⟩ := yr_ok (E := E) ht hd x k (by omega)
    obtain ⟨I2, b1, b2, -⟩ := C_pg (g := g) (N := N) (sw := sw) (lv := lv) (L := L) hr i1
    rw [y_Ca_years_32 _ _ _ _ _ _, nb_dle (by omega) (by omega), d_t (Nat.le_refl k), rC_allSg a_109 hr i1, am_bd_ok, am_tl, y_Ca_years_155 _ _ _ _ _ _ _, b1, am_bd_ok, am_tl, y_Ca_years_163 _ _ _ _ _ _ _, b_pc_c _ (t_pg_lt _), hr.2.2.1]
    unfold yr_a
    cases decide (x3 = 0) with
    | true => exact ⟨I1, rfl, z⟩
    | false =>
      cases decide (x3 = 1) with
      | true => exact ⟨I1, rfl, z⟩
      | false => exact ⟨I2, rfl, zf_tr z b2⟩
  | c + 1, k, I1, w5, w6, hc, z, hr, hx => by
    obtain ⟨i1, i2, i3⟩ := yr_ok (E := E) ht hd x k (by omega)
    obtain ⟨-, k2⟩ := i_dk ht.2.2.1.1 (Int32.le_trans hd (by decide)) (show k ≤ 50 by omega)
    have hn8 := i1.1
    have ih := fun I1 w5 w6 => C_yrL h ht hd x x1 x3 hn c (k + 1) I1 w5 w6 (by omega)
    rw [show yr E (k + 1) (x, T) = yr_1 E (yr E k (x, T)) from rfl] at ih
    rw [y_Ca_years_32 _ _ _ _ _ _, nb_dle (by omega) (by omega), d_f (by omega : ¬ n ≤ k), show (.int 10 : Value) = .int (Int32.ofNat 10) from rfl, C_draw hx (by decide) (by decide), am_bd_ok, am_tl, y_Ca_years_47 _ _ _ _ _ _ _, up_ne (show 109 ≠ 144 by decide), hr.1, show decide (Int32.ofNat (t_n (yr E k (x, T)).2) ≤ 0) = decide (t_n (yr E k (x, T)).2 ≤ 0) from nb_dle (b := 0) (by omega) (by omega)]
    generalize yr E k (x, T) = s at *
    have z1 : zf I (am_up I1 144 (upd (I1 144) 0 (yr_s s.1))) := zf_tr z (fun a q => up_ne (by omega))
    have r1 : rC 109 s.2 (am_up I1 144 (upd (I1 144) 0 (yr_s s.1))) := rC_fr hr (fun a _ _ => up_ne (by omega))
    have x1e : (am_up I1 144 (upd (I1 144) 0 (yr_s s.1))) 144 0 = yr_s s.1 := by rw [up_same, upd_same]
    generalize am_up I1 144 (upd (I1 144) 0 (yr_s s.1)) = J1 at *
    by_cases h0 : t_n s.2 ≤ 0
    · have h00 : t_n s.2 = 0 := by omega
      obtain ⟨J2, d1, d2, d3⟩ := rC_day (g := g) (N := N) (sw := sw) (lv := lv) (L := L) (w := Int32.ofNat (yr_v (yr_s s.1) % 10)) a_109 (a_isc sw) r1 i1 (cC_zf h z1).1
      unfold yr_1 at ih
      rw [d_t h00] at ih
      obtain ⟨J3, f1, f2⟩ := ih J2 (.int (Int32.ofNat (yr_v (yr_s s.1) % 10))) w6 (zf_tr z1 (fun a q => d3 a (by omega) (by omega) (by omega) (by omega) (by omega) (by cases sw <;> simp only [cond_true, cond_false] <;> omega))) d2 (by
        rw [d3 144 (by decide) (by decide) (by decide) (by decide) (by decide) (by cases sw <;> decide)]
        exact x1e)
      refine ⟨J3, ?_, f2⟩
      rw [d_t h0, y_Ca_years_92 _ _ _ _ _ _, d1, am_bd_ok, am_tn, y_Ca_years_105 _ _ _ _ _ _, nb_s]
      exact f1
    · have h00 : ¬ t_n s.2 = 0 := by omega
      have hm := Nat.mod_lt (yr_v (yr_s (yr_s s.1))) (by omega : 0 < t_n s.2)
      have hm5 := Nat.mod_lt (yr_v (yr_s (yr_s (yr_s s.1)))) (by decide : 0 < 5)
      rw [d_f h0, C_draw x1e (by omega) (by omega), am_bd_ok, am_tl, y_Ca_years_73 _ _ _ _ _ _ _]
      have z2 : zf I (am_up J1 144 (upd (J1 144) 0 (yr_s (yr_s s.1)))) := zf_tr z1 (fun a q => up_ne (by omega))
      have r2 : rC 109 s.2 (am_up J1 144 (upd (J1 144) 0 (yr_s (yr_s s.1)))) := rC_fr r1 (fun a _ _ => up_ne (by omega))
      have x2e : (am_up J1 144 (upd (J1 144) 0 (yr_s (yr_s s.1)))) 144 0 = yr_s (yr_s s.1) := by rw [up_same, upd_same]
      generalize am_up J1 144 (upd (J1 144) 0 (yr_s (yr_s s.1))) = J2 at *
      rw [show (.int 5 : Value) = .int (Int32.ofNat 5) from rfl, C_draw x2e (by decide) (by decide), am_bd_ok, am_tl, y_Ca_years_89 _ _ _ _ _ _ _ _]
      have z3 : zf I (am_up J2 144 (upd (J2 144) 0 (yr_s (yr_s (yr_s s.1))))) := zf_tr z2 (fun a q => up_ne (by omega))
      have r3 : rC 109 s.2 (am_up J2 144 (upd (J2 144) 0 (yr_s (yr_s (yr_s s.1))))) := rC_fr r2 (fun a _ _ => up_ne (by omega))
      have x3e : (am_up J2 144 (upd (J2 144) 0 (yr_s (yr_s (yr_s s.1))))) 144 0 = yr_s (yr_s (yr_s s.1)) := by rw [up_same, upd_same]
      generalize am_up J2 144 (upd (J2 144) 0 (yr_s (yr_s (yr_s s.1)))) = J3 at *
      obtain ⟨J4, b1, b2, b3⟩ := rC_bef (g := g) (N := N) (sw := sw) (lv := lv) (L := L) r3 i1 hm hm5
      obtain ⟨o1, o2, o3⟩ := t_bef_ok i1 hm (yr_v (yr_s (yr_s (yr_s s.1))) % 5)
      have z4 : zf I J4 := zf_tr z3 (fun a q => b3 a (by omega) (by omega) (by omega))
      obtain ⟨J5, d1, d2, d3⟩ := rC_day (g := g) (N := N) (sw := sw) (lv := lv) (L := L) (w := Int32.ofNat (yr_v (yr_s s.1) % 10)) a_109 (a_isc sw) b2 o1 (cC_zf h z4).1
      unfold yr_1 at ih
      rw [d_f h00] at ih
      obtain ⟨J6, f1, f2⟩ := ih J5 (.int (Int32.ofNat (yr_v (yr_s s.1) % 10))) (.int (Int32.ofNat (yr_v (yr_s (yr_s s.1)) % t_n s.2))) (zf_tr z4 (fun a q => d3 a (by omega) (by omega) (by omega) (by omega) (by omega) (by cases sw <;> simp only [cond_true, cond_false] <;> omega))) d2 (by
        rw [d3 144 (by decide) (by decide) (by decide) (by decide) (by decide) (by cases sw <;> decide), b3 144 (by decide) (by decide) (by decide)]
        exact x3e)
      refine ⟨J6, ?_, f2⟩
      rw [b1, am_bd_ok, am_tn, y_Ca_years_92 _ _ _ _ _ _, d1, am_bd_ok, am_tn, y_Ca_years_105 _ _ _ _ _ _, nb_s]
      exact f1
theorem C_years (h : cC E mb T sw I) (ht : t_ok T) (hd : t_d T ≤ 1000) (x1 x2 x3 : Int32) : oC g N sw lv L I (am_R 137 8 0 [.ref 75, .int x1, .int x2, .int x3, am_u, am_u, am_u] [] (am_hp g N sw lv I L)) (sp_years E T x1 x2 x3) := by
  obtain ⟨I1, a1, a2, a3, -, -, a4⟩ := C_cp h ht
  rw [y_Ca_years_0 _ _ _, a1, ← a4, g_I, g_I]
  unfold sp_years
  cases h3 : gI 0 2 x3 with
  | false => exact oC_t rfl
  | true =>
    cases h2 : gI 0 40 x2 with
    | false => exact oC_t rfl
    | true =>
      obtain ⟨d, hd2, rfl⟩ := gI_at (b := 40) (by decide) h2
      have z1 : zf I (am_up I1 144 (upd (I1 144) 0 x1)) := zf_tr a3 (fun a q => up_ne (by omega))
      obtain ⟨I2, b1, b2⟩ := C_yrL (g := g) (N := N) (lv := lv) (L := L) h ht hd x1 x1 x3 hd2 d 0 _ am_u am_u (by omega) z1 (rC_fr a2 (fun a _ _ => up_ne (by omega))) (by rw [up_same, upd_same]; rfl)
      simp only [cond_true]
      rw [nb_tn (show d < 100000 by omega)]
      exact oC_v b2 b1
end OPH
