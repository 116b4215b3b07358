/-! DAYS: heat, many days on both sides -/
theorem h_mod : ∀ m, m < 2001 → ∀ c, c < 9 → c ≠ 0 → v_Ma_floorMod (Int32.ofNat m) (Int32.ofNat c) = Int32.ofNat (m % c) ∧ Int32.ofNat m - Int32.ofNat m / Int32.ofNat c * Int32.ofNat c = Int32.ofNat (m % c) := by decide +kernel
/-- as many days as k, each with its own heat -/
def t_dn (E : e_E) : Nat → tr_T → tr_T
  | 0, T => T
  | k + 1, T => t_day E (e_on E (t_d (t_dn E k T))) (t_dn E k T)
theorem fd_keep {α β : Type} {p : α → β} {f : Nat → α → α} (h : ∀ k x, p (f k x) = p x) : ∀ (n : Nat) (a : α), p (fd n f a) = p a
  | 0, _ => rfl
  | n + 1, a => (h n _).trans (fd_keep h n a)
theorem t_m1_d {E : e_E} {w : Int32} (h : Nat) (T : tr_T) : t_d (t_m1 E w h T) = t_d T := by
  unfold t_m1
  cases t_up T h <;> rfl
theorem t_tp_d : ∀ (f : Nat) (w : Bool) (h : Nat) (T : tr_T), t_d (t_tp f w h T) = t_d T
  | 0, _, _, _ => rfl
  | f + 1, w, h, T => by
    unfold t_tp
    cases t_nx (t_off T h) w h with
    | none => rfl
    | some j =>
      show t_d (cond _ _ _) = _
      cases decide (v_Rw_within (t_le T j + 2 * sd w) (-9) 9 = 9 * sd w) with
      | true => exact t_tp_d f w j _
      | false => rfl
theorem t_f1_d (k : Nat) (T : tr_T) : t_d (t_f1 k T) = t_d T := by
  unfold t_f1
  cases (t_up T (t_hd T k) && decide (v_Ma_abs (t_le T (t_hd T k)) = 9)) with
  | true => exact t_tp_d _ _ _ _
  | false => rfl
theorem t_day_d (E : e_E) (w : Int32) (T : tr_T) : t_d (t_day E w T) = t_d T + 1 := by
  show t_d (fd (t_n T) t_f1 (t_sy E w (fd (t_n T) (t_m1 E w) T))) + 1 = _
  rw [fd_keep t_f1_d]
  show t_d (fd (t_n T) (t_m1 E w) T) + 1 = _
  rw [fd_keep t_m1_d]
theorem t_dd_ok {T : tr_T} (ht : t_ok T) (h : t_d T < 2000) : t_ok (t_dd T) := by
  obtain ⟨h1, h2, ⟨h3, h4⟩, h5, h6⟩ := ht
  refine ⟨h1, h2, ?_, h5, h6⟩
  show 0 ≤ t_d T + 1 ∧ t_d T + 1 ≤ 2000
  rw [Int32.le_iff_toInt_le] at h3
  rw [Int32.lt_iff_toInt_lt] at h
  have e0 : (0 : Int32).toInt = 0 := by decide
  have e2 : (2000 : Int32).toInt = 2000 := by decide
  have e1 : (1 : Int32).toInt = 1 := by decide
  have : (t_d T + 1).toInt = (t_d T).toInt + 1 := by
    rw [Int32.toInt_add, e1]
    refine Int.bmod_eq_of_le ?_ ?_ <;> omega
  rw [Int32.le_iff_toInt_le, Int32.le_iff_toInt_le, this]
  omega
theorem t_day_ok {E : e_E} {w : Int32} {T : tr_T} (ht : t_ok T) (h : t_d T < 2000) : t_ok (t_day E w T) ∧ t_n (t_day E w T) = t_n T := by
  obtain ⟨m1, m2⟩ := t_mm_ok (E := E) (w := w) ht (t_n T) (Nat.le_refl _)
  obtain ⟨s1, s2⟩ := t_sy_ok (E := E) (w := w) m1
  obtain ⟨f1, f2⟩ := t_ff_ok s1 (t_n T)
  refine ⟨t_dd_ok f1 ?_, f2.trans (s2.trans m2)⟩
  rw [fd_keep t_f1_d]
  show t_d (fd (t_n T) (t_m1 E w) T) < 2000
  rw [fd_keep t_m1_d]
  exact h
theorem i_dk {d : Int32} {k : Nat} (h0 : 0 ≤ d) (h1 : d ≤ 1100) (hk : k ≤ 50) : 0 ≤ d + Int32.ofNat k ∧ d + Int32.ofNat k < 2000 := by
  rw [Int32.le_iff_toInt_le] at h0 h1
  have e0 : (0 : Int32).toInt = 0 := by decide
  have e2 : (2000 : Int32).toInt = 2000 := by decide
  have e3 : (1100 : Int32).toInt = 1100 := by decide
  have : (d + Int32.ofNat k).toInt = d.toInt + k := by
    rw [Int32.toInt_add, nb_ti (by omega)]
    refine Int.bmod_eq_of_le ?_ ?_ <;> omega
  rw [Int32.le_iff_toInt_le, Int32.lt_iff_toInt_lt, this]
  omega
theorem t_dn_ok {E : e_E} {T : tr_T} (ht : t_ok T) (hd : t_d T ≤ 1100) : ∀ k, k ≤ 50 → t_ok (t_dn E k T) ∧ t_n (t_dn E k T) = t_n T ∧ t_d (t_dn E k T) = t_d T + Int32.ofNat k
  | 0, _ => ⟨ht, rfl, (Int32.add_zero _).symm⟩
  | k + 1, hk => by
    obtain ⟨h1, h2, h3⟩ := t_dn_ok (E := E) ht hd k (by omega)
    have hl := i_dk ht.2.2.1.1 hd (show k ≤ 50 by omega)
    obtain ⟨h4, h5⟩ := t_day_ok (E := E) (w := e_on E (t_d (t_dn E k T))) h1 (by rw [h3]; exact hl.2)
    refine ⟨h4, h5.trans h2, ?_⟩
    show t_d (t_day E _ (t_dn E k T)) = _
    rw [t_day_d, h3, Int32.add_assoc, nb_s]
section DAYS
variable {g N : Nat} {sw lv : Bool} {I : Nat → Nat → Int32} {L : Nat → Nat → Int64} {r rc : Nat} {T : tr_T} {E : e_E} {w : Int32}
theorem h_nat {d : Int32} (h0 : 0 ≤ d) (h1 : d ≤ 2000) : d.toNatClampNeg < 2001 ∧ Int32.ofNat d.toNatClampNeg = d := by
  refine ⟨?_, nb_of h0⟩
  rw [Int32.le_iff_toInt_le] at h1
  have e2 : (2000 : Int32).toInt = 2000 := by decide
  unfold Int32.toNatClampNeg
  omega
theorem qC_heat (hq : qC rc E I) {d : Int32} (h0 : 0 ≤ d) (h1 : d ≤ 2000) : g_Rc_heatOn I rc d = true ∧ v_Rc_heatOn I rc d = e_on E d := by
  obtain ⟨q1, q2, q3⟩ := hq.2.1
  obtain ⟨d1, d2⟩ := h_nat h0 h1
  unfold g_Rc_heatOn v_Rc_heatOn e_on
  rw [q1]
  by_cases hc : e_hc E = 0
  · rw [hc]
    exact ⟨rfl, rfl⟩
  · have hm := (h_mod _ d1 _ (show e_hc E < 9 by omega) hc).1
    rw [d2] at hm
    have hl : d.toNatClampNeg % e_hc E < e_hc E := Nat.mod_lt _ (by omega)
    have hn0 : ¬ Int32.ofNat (e_hc E) = 0 := fun q => hc ((nb_eq (by omega) (by decide)).mp q)
    have hg : g_Ma_floorMod d (Int32.ofNat (e_hc E)) = true := by
      unfold g_Ma_floorMod
      rw [decide_eq_false hn0]
      rfl
    rw [hm, hg, nb_inb (show d.toNatClampNeg % e_hc E < 8 by omega) (by omega), nb_tn (by omega), q3 _ hl]
    rw [d_f hn0, d_f hn0, d_f hc]
    exact ⟨rfl, rfl⟩
theorem qM_heat (hq : qM E I) (hr : rM T I) (ht : t_ok T) (hn : I 147 37 = -1) : hM (e_on E (t_d T)) I := by
  obtain ⟨q1, q2, q3⟩ := hq.2.1
  obtain ⟨d1, d2⟩ := h_nat ht.2.2.1.1 ht.2.2.1.2
  unfold hM g_Mo_heatOf v_Mo_heatOf e_on
  rw [hn, q1, hr.2.1]
  by_cases hc : e_hc E = 0
  · rw [hc]
    exact ⟨rfl, rfl⟩
  · have hm := (h_mod _ d1 _ (show e_hc E < 9 by omega) hc).2
    rw [d2] at hm
    have hl : (t_d T).toNatClampNeg % e_hc E < e_hc E := Nat.mod_lt _ (by omega)
    have hn0 : ¬ Int32.ofNat (e_hc E) = 0 := fun q => hc ((nb_eq (by omega) (by decide)).mp q)
    rw [hm, nb_inb (show (t_d T).toNatClampNeg % e_hc E < 16 by omega) (by omega), nb_tn (by omega), q3 _ hl]
    rw [d_t rfl, d_t rfl, decide_eq_false hn0, d_f hc]
    exact ⟨rfl, rfl⟩
theorem rC_daysL (ha : am_isr r) (hc : am_isc rc) (ht : t_ok T) (hd : t_d T ≤ 1100) {n : Nat} (hn : n ≤ 50) : ∀ c k (I : Nat → Nat → Int32), k + c = n → rC r (t_dn E k T) I → qC rc E I → ∃ I', am_R 16 6 2 [.ref r, .ref rc, .int (Int32.ofNat n), .int (Int32.ofNat k)] [] (am_hp g N sw lv I L) = some (.inl none, am_hp g N sw lv I' L) ∧ rC r (t_dn E n T) I' ∧ ∀ a, a ≠ r → a ≠ r + 1 → a ≠ r + 2 → a ≠ r + 7 → a ≠ r + 8 → a ≠ rc + 9 → I' a = I a
  | 0, k, I, hk, hr, hq => ⟨I, by
    rw [y_Rw_passDays_2 _ _ ha hc, nb_dle (by omega) (by omega), d_t (by omega : n ≤ k)], by rw [show n = k by omega]; exact hr, fun _ _ _ _ _ _ _ => rfl⟩
  | c + 1, k, I, hk, hr, hq => by
    have hap := am_apart ha hc
    obtain ⟨m1, m2, m3⟩ := t_dn_ok (E := E) ht hd k (by omega)
    obtain ⟨w1, w2⟩ := qC_heat hq m1.2.2.1.1 m1.2.2.1.2
    have e0 := y_Rw_passDays_2 (g := g) (N := N) (sw := sw) (lv := lv) (I := I) (L := L) (Int32.ofNat n) (Int32.ofNat k) ha hc
    obtain ⟨I1, a1, a2, a3⟩ := rC_day (g := g) (N := N) (sw := sw) (lv := lv) (L := L) (w := e_on E (t_d (t_dn E k T))) ha hc hr m1 hq
    rw [nb_dle (by omega) (by omega), d_f (by omega : ¬ n ≤ k), hr.2.1, w1, w2, cond_true, a1, am_bd_ok, am_tn, y_Rw_passDays_20 _ _ ha hc, nb_s] at e0
    obtain ⟨I2, b1, b2, b3⟩ := rC_daysL ha hc ht hd hn c (k + 1) I1 (by omega) a2 (qC_fr hq (fun a h1 h2 => a3 a (by omega) (by omega) (by omega) (by omega) (by omega) (by omega)))
    exact ⟨I2, e0.trans b1, b2, fun a h1 h2 h3 h4 h5 h6 => by rw [b3 a h1 h2 h3 h4 h5 h6, a3 a h1 h2 h3 h4 h5 h6]⟩
theorem rC_days (ha : am_isr r) (hc : am_isc rc) (hr : rC r T I) (ht : t_ok T) (hq : qC rc E I) (hd : t_d T ≤ 1100) {n : Nat} (hn : n ≤ 50) : ∃ I', am_R 16 6 0 [.ref r, .ref rc, .int (Int32.ofNat n), am_u] [] (am_hp g N sw lv I L) = some (.inl none, am_hp g N sw lv I' L) ∧ rC r (t_dn E n T) I' ∧ ∀ a, a ≠ r → a ≠ r + 1 → a ≠ r + 2 → a ≠ r + 7 → a ≠ r + 8 → a ≠ rc + 9 → I' a = I a := by
  obtain ⟨I', h1, h2, h3⟩ := rC_daysL (g := g) (N := N) (sw := sw) (lv := lv) (L := L) ha hc ht hd hn n 0 I (by omega) hr hq
  refine ⟨I', ?_, h2, h3⟩
  rw [y_Rw_passDays_0 _ ha hc]
  exact h1
theorem rM_daysL (ht : t_ok T) (hd : t_d T ≤ 1100) {n : Nat} (hn : n ≤ 50) : ∀ c k (I : Nat → Nat → Int32), k + c = n → rM (t_dn E k T) I → qM E I → I 147 37 = -1 → ∃ I', am_R 192 7 2 [.ref 147, .int (Int32.ofNat n), .int (Int32.ofNat k)] [] (am_hp g N sw lv I L) = some (.inl none, am_hp g N sw lv I' L) ∧ rM (t_dn E n T) I' ∧ fM I I'
  | 0, k, I, hk, hr, hq, h37 => ⟨I, by
    rw [y_Mo_goOn_2 _ _, nb_dle (by omega) (by omega), d_t (by omega : n ≤ k)], by rw [show n = k by omega]; exact hr, fM_rfl⟩
  | c + 1, k, I, hk, hr, hq, h37 => by
    obtain ⟨m1, m2, m3⟩ := t_dn_ok (E := E) ht hd k (by omega)
    have e0 := y_Mo_goOn_2 (g := g) (N := N) (sw := sw) (lv := lv) (I := I) (L := L) (Int32.ofNat n) (Int32.ofNat k)
    obtain ⟨I1, a1, a2, a3⟩ := rM_day (g := g) (N := N) (sw := sw) (lv := lv) (L := L) hr m1 hq (qM_heat hq hr m1 h37)
    rw [nb_dle (by omega) (by omega), d_f (by omega : ¬ n ≤ k), a1, am_bd_ok, am_tn, y_Mo_goOn_11 _ _, nb_s] at e0
    obtain ⟨I2, b1, b2, b3⟩ := rM_daysL ht hd hn c (k + 1) I1 (by omega) a2 (qM_fN hq a3) (by rw [a3.2 37 (by decide) (by decide)]; exact h37)
    exact ⟨I2, e0.trans b1, b2, fM_tr a3 b3⟩
theorem rM_days (hr : rM T I) (ht : t_ok T) (hq : qM E I) (h37 : I 147 37 = -1) (hd : t_d T ≤ 1100) {n : Nat} (hn : n ≤ 50) : ∃ I', am_R 192 7 0 [.ref 147, .int (Int32.ofNat n), am_u] [] (am_hp g N sw lv I L) = some (.inl none, am_hp g N sw lv I' L) ∧ rM (t_dn E n T) I' ∧ fM I I' := by
  obtain ⟨I', h1, h2, h3⟩ := rM_daysL (g := g) (N := N) (sw := sw) (lv := lv) (L := L) ht hd hn n 0 I (by omega) hr hq h37
  refine ⟨I', ?_, h2, h3⟩
  rw [y_Mo_goOn_0 _]
  exact h1
end DAYS
