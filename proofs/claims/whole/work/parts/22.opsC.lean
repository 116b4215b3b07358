/-! CALLS: last, decisive, toTurn -/
/-- who stands in the one stands in the other -/
def t_sub (T' T : tr_T) : Prop := ∀ j, t_up T' j = true → t_up T j = true
theorem b_off_sub {s h j : Nat} (q : (b_off s h).testBit j = true) : s.testBit j = true := by
  unfold b_off at q
  rw [Nat.testBit_and, Bool.and_eq_true] at q
  exact q.1
theorem t_sub_m1 {E : e_E} {w : Int32} (h : Nat) (T : tr_T) : t_sub (t_m1 E w h T) T := by
  intro j q
  unfold t_m1 at q
  cases hu : t_up T h with
  | false =>
    rw [hu] at q
    exact q
  | true =>
    rw [hu, cond_true] at q
    cases hm : decide (t_mv E w T h = 0) with
    | false =>
      rw [hm] at q
      exact q
    | true =>
      rw [hm] at q
      exact b_off_sub q
theorem t_sub_tp : ∀ (f : Nat) (w : Bool) (h : Nat) (T : tr_T), t_sub (t_tp f w h T) T
  | 0, _, _, _ => fun _ q => q
  | f + 1, w, h, T => by
    intro j q
    unfold t_tp at q
    cases hx : t_nx (t_off T h) w h with
    | none =>
      rw [hx] at q
      exact b_off_sub q
    | some i =>
      rw [hx] at q
      dsimp only at q
      cases hm : decide (v_Rw_within (t_le T i + 2 * sd w) (-9) 9 = 9 * sd w) with
      | true =>
        rw [hm, cond_true] at q
        exact b_off_sub (t_sub_tp f w i _ j q)
      | false =>
        rw [hm, cond_false] at q
        exact b_off_sub q
theorem t_sub_f1 (k : Nat) (T : tr_T) : t_sub (t_f1 k T) T := by
  intro j q
  unfold t_f1 at q
  cases hm : (t_up T (t_hd T k) && decide (v_Ma_abs (t_le T (t_hd T k)) = 9)) with
  | true =>
    rw [hm, cond_true] at q
    exact t_sub_tp _ _ _ _ j q
  | false =>
    rw [hm, cond_false] at q
    exact q
theorem t_sub_fd {f : Nat → tr_T → tr_T} (hf : ∀ k T, t_sub (f k T) T) : ∀ (n : Nat) (T : tr_T), t_sub (fd n f T) T
  | 0, _ => fun _ q => q
  | n + 1, T => fun j q => t_sub_fd hf n T j (hf n _ j q)
theorem t_sub_day (E : e_E) (w : Int32) (T : tr_T) : t_sub (t_day E w T) T := by
  intro j q
  have q1 : t_up (fd (t_n T) t_f1 (t_sy E w (fd (t_n T) (t_m1 E w) T))) j = true := q
  have q2 : t_up (fd (t_n T) (t_m1 E w) T) j = true := t_sub_fd t_sub_f1 (t_n T) (t_sy E w (fd (t_n T) (t_m1 E w) T)) j q1
  exact t_sub_fd t_sub_m1 _ _ j q2
theorem t_sub_dn (E : e_E) (T : tr_T) : ∀ c k, t_sub (t_dn E (k + c) T) (t_dn E k T)
  | 0, _ => fun _ q => q
  | c + 1, k => fun j q => t_sub_dn E T c k j (t_sub_day E _ _ j q)
theorem t_up_dn {E : e_E} {T : tr_T} {k m j : Nat} (hk : k ≤ m) (q : t_up (t_dn E m T) j = true) : t_up (t_dn E k T) j = true := by
  have := t_sub_dn E T (m - k) k j
  rw [show k + (m - k) = m by omega] at this
  exact this q
theorem fs_none {P : Nat → Bool} : ∀ {c k : Nat}, (∀ i, k ≤ i → i < k + c → P i = false) → fs P c k = none
  | 0, _, _ => rfl
  | c + 1, k, h => by
    unfold fs
    rw [h k (Nat.le_refl _) (by omega)]
    exact fs_none (fun i h1 h2 => h i (by omega) (by omega))
theorem fs_at {P : Nat → Bool} : ∀ {c k m : Nat}, k ≤ m → m < k + c → P m = true → (∀ i, k ≤ i → i < m → P i = false) → fs P c k = some m
  | 0, _, _, h1, h2, _, _ => by omega
  | c + 1, k, m, h1, h2, h3, h4 => by
    unfold fs
    by_cases e : k = m
    · rw [e, h3]
      rfl
    · rw [h4 k (Nat.le_refl _) (by omega)]
      exact fs_at (by omega) (by omega) h3 (fun i q1 q2 => h4 i (by omega) q2)
theorem fs_le {P : Nat → Bool} : ∀ {c k m : Nat}, k ≤ m → m < k + c → P m = true → ∃ j, j ≤ m ∧ fs P c k = some j
  | 0, _, _, h1, h2, _ => by omega
  | c + 1, k, m, h1, h2, h3 => by
    unfold fs
    cases hp : P k with
    | true => exact ⟨k, h1, rfl⟩
    | false =>
      by_cases e : k = m
      · rw [e, h3] at hp
        cases hp
      · exact fs_le (by omega) (by omega) h3
/-- when a head falls, as a number -/
def la_v (E : e_E) (T : tr_T) (h : Nat) : Nat := (t_fl E T h).getD 100000
def la_V (E : e_E) (T : tr_T) (h : Nat) : Int32 := cond (decide (oi (t_fl E T h) = (-1))) 100000 (oi (t_fl E T h))
def la_f (E : e_E) (T : tr_T) (h : Nat) (a : Int32 × Int32) : Int32 × Int32 := cond (t_up T h) (cond (decide (a.2 < la_V E T h)) (Int32.ofNat h, la_V E T h) a) a
def sp_last (E : e_E) (T : tr_T) : a_O := .inl (fd (t_n T) (la_f E T) (-1, -1)).1
theorem la_Vv (E : e_E) (T : tr_T) (h : Nat) : la_V E T h = Int32.ofNat (la_v E T h) ∧ la_v E T h ≤ 100000 := by
  unfold la_V la_v
  cases e : t_fl E T h with
  | none => exact ⟨rfl, Nat.le_refl _⟩
  | some j =>
    obtain ⟨-, h2, -⟩ := fs_some e
    refine ⟨?_, show j ≤ 100000 by omega⟩
    exact d_f (nb_n1 (by omega))
/-- the last days of all, as the class walks them -/
def la_c (E : e_E) (T : tr_T) : Nat → Nat → Nat → Nat
  | 0, k, l => cond (decide (t_s (t_dn E k T) = 0)) l (t_s (t_dn E k T))
  | c + 1, k, l => cond (decide (t_s (t_dn E k T) = 0)) l (la_c E T c (k + 1) (t_s (t_dn E k T)))
theorem la_c0 (E : e_E) (T : tr_T) {k l : Nat} (h : t_s (t_dn E k T) = 0) : ∀ c, la_c E T c k l = l
  | 0 => d_t h
  | _ + 1 => d_t h
theorem la_cs (E : e_E) (T : tr_T) : ∀ c k l, k + c = 40 → t_s (t_dn E k T) ≠ 0 → (la_c E T c k l = t_s (t_dn E 40 T) ∧ t_s (t_dn E 40 T) ≠ 0) ∨ ∃ j, k ≤ j ∧ j < 40 ∧ la_c E T c k l = t_s (t_dn E j T) ∧ t_s (t_dn E j T) ≠ 0 ∧ t_s (t_dn E (j + 1) T) = 0
  | 0, k, l, hc, hs => Or.inl (by
    obtain rfl : k = 40 := by omega
    exact ⟨d_f hs, hs⟩)
  | c + 1, k, l, hc, hs => by
    have e : la_c E T (c + 1) k l = la_c E T c (k + 1) (t_s (t_dn E k T)) := d_f hs
    rw [e]
    by_cases h1 : t_s (t_dn E (k + 1) T) = 0
    · exact Or.inr ⟨k, Nat.le_refl _, by omega, la_c0 E T h1 c, hs, h1⟩
    · rcases la_cs E T c (k + 1) (t_s (t_dn E k T)) (by omega) h1 with q | ⟨j, q1, q2⟩
      · exact Or.inl q
      · exact Or.inr ⟨j, by omega, q2⟩
theorem la_m (E : e_E) (T : tr_T) (hs : t_s T ≠ 0) : ∃ m, 1 ≤ m ∧ m ≤ 100000 ∧ la_c E T 40 0 (t_s T) ≠ 0 ∧ (∀ h, (la_c E T 40 0 (t_s T)).testBit h = true → la_v E T h = m ∧ t_up T h = true) ∧ ∀ h, t_up T h = true → (la_c E T 40 0 (t_s T)).testBit h = false → la_v E T h < m := by
  have hC : ∀ k h, k ≤ 40 → t_up (t_dn E k T) h = false → la_v E T h ≤ k := by
    intro k h hk hu
    obtain ⟨j, h1, h2⟩ := fs_le (P := fun n => !t_up (t_dn E n T) h) (c := 41) (k := 0) (m := k) (by omega) (by omega) (by rw [hu]; rfl)
    unfold la_v t_fl
    rw [h2]
    exact h1
  rcases la_cs E T 40 0 (t_s T) (by omega) hs with ⟨q1, q2⟩ | ⟨j, q1, q2, q3, q4, q5⟩
  · rw [q1]
    refine ⟨100000, by omega, Nat.le_refl _, q2, fun h hh => ⟨?_, t_up_dn (m := 40) (k := 0) (by omega) hh⟩, fun h h1 h2 => ?_⟩
    · unfold la_v t_fl
      rw [fs_none (fun i _ h2 => by rw [t_up_dn (E := E) (T := T) (k := i) (m := 40) (by omega) hh]; rfl)]
      rfl
    · have := hC 40 h (by omega) h2
      omega
  · rw [q3]
    refine ⟨j + 1, by omega, by omega, q4, fun h hh => ⟨?_, t_up_dn (m := j) (k := 0) (by omega) hh⟩, fun h h1 h2 => ?_⟩
    · unfold la_v t_fl
      rw [fs_at (m := j + 1) (by omega) (by omega) (by
        show (!(t_s (t_dn E (j + 1) T)).testBit h) = true
        rw [q5, Nat.zero_testBit]
        rfl) (fun i _ h2 => by rw [t_up_dn (E := E) (T := T) (k := i) (m := j) (by omega) hh]; rfl)]
      rfl
    · have := hC j h (by omega) h2
      omega
theorem la_fd {E : e_E} {T : tr_T} {S m h0 : Nat} (hm1 : 1 ≤ m) (hm2 : m ≤ 100000) (h1 : ∀ h, S.testBit h = true → la_v E T h = m ∧ t_up T h = true) (h2 : ∀ h, t_up T h = true → S.testBit h = false → la_v E T h < m) (h3 : S.testBit h0 = true) (h4 : ∀ j, j < h0 → S.testBit j = false) : ∀ n, (n ≤ h0 → (fd n (la_f E T) (-1, -1)).2.toInt < m) ∧ (h0 < n → fd n (la_f E T) (-1, -1) = (Int32.ofNat h0, Int32.ofNat m))
  | 0 => ⟨fun _ => by
      have : (-1 : Int32).toInt = -1 := by decide
      show (-1 : Int32).toInt < m
      omega, fun h => by omega⟩
  | n + 1 => by
    obtain ⟨i1, i2⟩ := la_fd hm1 hm2 h1 h2 h3 h4 n
    obtain ⟨v1, v2⟩ := la_Vv E T n
    have hV : (la_V E T n).toInt = la_v E T n := by
      rw [v1]
      exact Int32.toInt_ofNat_of_lt (by omega)
    have hM : (Int32.ofNat m).toInt = m := Int32.toInt_ofNat_of_lt (by omega)
    refine ⟨fun hn => ?_, fun hn => ?_⟩
    · have hS := h4 n (by omega)
      have i1' := i1 (by omega)
      have hla : fd (n + 1) (la_f E T) (-1, -1) = cond (t_up T n) (cond (decide ((fd n (la_f E T) (-1, -1)).2 < la_V E T n)) (Int32.ofNat n, la_V E T n) (fd n (la_f E T) (-1, -1))) (fd n (la_f E T) (-1, -1)) := rfl
      rw [hla]
      cases hu : t_up T n with
      | false => exact i1'
      | true =>
        rw [cond_true]
        cases decide ((fd n (la_f E T) (-1, -1)).2 < la_V E T n) with
        | false => exact i1'
        | true =>
          show (la_V E T n).toInt < m
          have := h2 n hu hS
          omega
    · show la_f E T n (fd n (la_f E T) (-1, -1)) = _
      by_cases e : n = h0
      · subst e
        obtain ⟨w1, w2⟩ := h1 n h3
        have hl : (fd n (la_f E T) (-1, -1)).2 < la_V E T n := by
          rw [Int32.lt_iff_toInt_lt, hV, w1]
          exact i1 (Nat.le_refl _)
        have hla : la_f E T n (fd n (la_f E T) (-1, -1)) = cond (t_up T n) (cond (decide ((fd n (la_f E T) (-1, -1)).2 < la_V E T n)) (Int32.ofNat n, la_V E T n) (fd n (la_f E T) (-1, -1))) (fd n (la_f E T) (-1, -1)) := rfl
        rw [hla, w2, cond_true, d_t hl, v1, w1]
      · rw [i2 (by omega)]
        unfold la_f
        cases hu : t_up T n with
        | false => rfl
        | true =>
          have hl : la_v E T n ≤ m := by
            cases hS : S.testBit n with
            | true => exact Nat.le_of_eq (h1 n hS).1
            | false => exact Nat.le_of_lt (h2 n hu hS)
          exact d_f (fun q => by
            rw [Int32.lt_iff_toInt_lt] at q
            have q1 : (Int32.ofNat m).toInt < (la_V E T n).toInt := q
            omega)
theorem la_n {E : e_E} {T : tr_T} (hs : ∀ h, t_up T h = false) : ∀ n, fd n (la_f E T) (-1, -1) = (-1, -1)
  | 0 => rfl
  | n + 1 => by
    show la_f E T n (fd n (la_f E T) (-1, -1)) = _
    rw [la_n hs n]
    unfold la_f
    rw [hs n]
    rfl
theorem b_tz : ∀ s, s < 256 → s ≠ 0 → ∃ h, h < 8 ∧ v_Ca_leastOf (Int32.ofNat s) = Int32.ofNat h ∧ s.testBit h = true ∧ ∀ j, j < h → s.testBit j = false := by decide +kernel
section OPC
variable {g N : Nat} {sw lv : Bool} {I : Nat → Nat → Int32} {L : Nat → Nat → Int64} {T : tr_T} {E : e_E} {mb : Nat}
theorem la_lt (ht : t_ok T) (hd : t_d T ≤ 1000) : ∀ c k l, k + c = 40 → l < 2 ^ t_n T → la_c E T c k l < 2 ^ t_n T
  | 0, k, l, hc, hl => by
    obtain ⟨m1, m2, m3⟩ := t_dn_ok (E := E) ht (Int32.le_trans hd (by decide)) k (by omega)
    unfold la_c
    have := m1.2.1
    rw [m2] at this
    cases decide (t_s (t_dn E k T) = 0) with
    | true => exact hl
    | false => exact this
  | c + 1, k, l, hc, hl => by
    obtain ⟨m1, m2, m3⟩ := t_dn_ok (E := E) ht (Int32.le_trans hd (by decide)) k (by omega)
    unfold la_c
    have := m1.2.1
    rw [m2] at this
    cases decide (t_s (t_dn E k T) = 0) with
    | true => exact hl
    | false => exact la_lt ht hd c (k + 1) _ (by omega) this
/-- the class's walk and the reference's choice are one -/
theorem la_eq (ht : t_ok T) (hd : t_d T ≤ 1000) : v_Ca_leastOf (Int32.ofNat (la_c E T 40 0 (t_s T))) = (fd (t_n T) (la_f E T) (-1, -1)).1 := by
  have hn := ht.1
  by_cases hs : t_s T = 0
  · rw [la_c0 E T (k := 0) hs 40, la_n (fun h => by show (t_s T).testBit h = false; rw [hs, Nat.zero_testBit]), hs]
    rfl
  · obtain ⟨m, a1, a2, a3, a4, a5⟩ := la_m E T hs
    have hl := la_lt (E := E) ht hd 40 0 (t_s T) (by omega) ht.2.1
    obtain ⟨h0, b1, b2, b3, b4⟩ := b_tz _ (b_256 hn hl) a3
    have hh : h0 < t_n T := by
      refine Nat.lt_of_not_le fun q => ?_
      rw [Nat.testBit_lt_two_pow (Nat.lt_of_lt_of_le hl (Nat.pow_le_pow_right (by decide) q))] at b3
      cases b3
    rw [(la_fd a1 a2 a4 a5 b3 b4 (t_n T)).2 hh, b2]
theorem C_lastL (h : cC E mb T sw I) (ht : t_ok T) (hd : t_d T ≤ 1000) : ∀ c k l (I1 : Nat → Nat → Int32), k + c = 40 → rC 109 (t_dn E k T) I1 → zf I I1 → oC g N sw lv L I (am_R 32 8 21 [.ref 75, .int (Int32.ofNat l), .int (Int32.ofNat k)] [] (am_hp g N sw lv I1 L)) (.inl (v_Ca_leastOf (Int32.ofNat (la_c E T c k l))))
  | 0, k, l, I1, hc, hr, z => by
    obtain ⟨m1, m2, m3⟩ := t_dn_ok (E := E) ht (Int32.le_trans hd (by decide)) k (by omega)
    have h8 := b_256 m1.1 m1.2.1
    rw [y_Ca_last_21 _ _, nb_ge40 (by omega), d_t (by omega : 40 ≤ k), hr.2.2.1, show decide (Int32.ofNat (t_s (t_dn E k T)) = 0) = decide (t_s (t_dn E k T) = 0) from nb_deq (b := 0) (by omega) (by omega)]
    unfold la_c
    cases decide (t_s (t_dn E k T) = 0) with
    | true => exact oC_v z rfl
    | false => exact oC_v z rfl
  | c + 1, k, l, I1, hc, hr, z => by
    obtain ⟨m1, m2, m3⟩ := t_dn_ok (E := E) ht (Int32.le_trans hd (by decide)) k (by omega)
    have h8 := b_256 m1.1 m1.2.1
    obtain ⟨I2, b1, b2, b3⟩ := C_more (g := g) (N := N) (lv := lv) (L := L) (cC_zf h z) hr m1 (t_dn_d ht hd (by omega)) (n := 1) (by decide)
    have ih := C_lastL h ht hd c (k + 1) (t_s (t_dn E k T)) I2 (by omega) b2 (zf_tr z b3)
    rw [y_Ca_last_21 _ _, nb_ge40 (by omega), d_f (by omega : ¬ 40 ≤ k), hr.2.2.1, show decide (Int32.ofNat (t_s (t_dn E k T)) = 0) = decide (t_s (t_dn E k T) = 0) from nb_deq (b := 0) (by omega) (by omega)]
    unfold la_c
    cases decide (t_s (t_dn E k T) = 0) with
    | true => exact oC_v z rfl
    | false =>
      rw [cond_false, cond_false, show (.int 1 : Value) = .int (Int32.ofNat 1) from rfl, b1, am_bd_ok, am_tn, y_Ca_last_57 _ _, nb_s]
      exact ih
theorem C_last (h : cC E mb T sw I) (ht : t_ok T) (hd : t_d T ≤ 1000) : oC g N sw lv L I (am_R 32 8 0 [.ref 75, am_u, am_u] [] (am_hp g N sw lv I L)) (sp_last E T) := by
  obtain ⟨I1, a1, a2, a3, -⟩ := C_cp h ht
  have hl := C_lastL (g := g) (N := N) (lv := lv) (L := L) h ht hd 40 0 (t_s T) I1 (by omega) a2 a3
  rw [la_eq ht hd] at hl
  rw [y_Ca_last_0, a1, upd_same, h.2.1.2.2.1]
  exact hl
theorem M_lastL (h : cM E mb T I) (ht : t_ok T) (hd : t_d T ≤ 1000) : ∀ c k (w4 w5 : Value) (I1 : Nat → Nat → Int32), k + c = t_n T → mR T I I1 → ∃ I2, am_R 220 8 11 [.ref 147, .int (fd k (la_f E T) (-1, -1)).1, .int (fd k (la_f E T) (-1, -1)).2, .int (Int32.ofNat k), w4, w5] [] (am_hp g N sw lv I1 L) = some (.inl (some (.int (fd (t_n T) (la_f E T) (-1, -1)).1)), am_hp g N sw lv I2 L) ∧ mR T I I2
  | 0, k, w4, w5, I1, hc, r => ⟨I1, by
    have hn := ht.1
    rw [y_Mo_last_11 _ _ _ _ _, r.1.1, nb_dle (by omega) (by omega), d_t (by omega : t_n T ≤ k), show k = t_n T by omega], r⟩
  | c + 1, k, w4, w5, I1, hc, r => by
    have hn := ht.1
    have hk : k < t_n T := by omega
    have hf : fd (k + 1) (la_f E T) (-1, -1) = la_f E T k (fd k (la_f E T) (-1, -1)) := rfl
    rw [y_Mo_last_11 _ _ _ _ _, r.1.1, nb_dle (by omega) (by omega), d_f (by omega : ¬ t_n T ≤ k), rM_stands r.1 ht hk]
    cases hu : t_up T k with
    | false =>
      obtain ⟨I2, e1, r2⟩ := M_lastL h ht hd c (k + 1) w4 w5 I1 (by omega) r
      refine ⟨I2, ?_, r2⟩
      rw [hf] at e1
      unfold la_f at e1
      rw [hu] at e1
      rw [cond_false, d_t rfl, nb_s]
      exact e1
    | true =>
      obtain ⟨I2, b1, r2⟩ := M_fallsOf (g := g) (N := N) (sw := sw) (lv := lv) (L := L) h ht hd hk r
      have hla : la_f E T k (fd k (la_f E T) (-1, -1)) = cond (decide ((fd k (la_f E T) (-1, -1)).2 < la_V E T k)) (Int32.ofNat k, la_V E T k) (fd k (la_f E T) (-1, -1)) := by
        show cond (t_up T k) _ _ = _
        rw [hu]
        rfl
      rw [cond_true, d_f (by decide : ¬ (1 : Int32) = 0), b1, am_bd_ok, am_tl, y_Mo_last_37 _ _ _ _ _ _, nb_s]
      cases hV : decide (oi (t_fl E T k) = (-1)) with
      | true =>
        have hVV : la_V E T k = 100000 := by
          unfold la_V
          rw [hV]
          rfl
        rw [hVV] at hla
        cases hl : decide ((fd k (la_f E T) (-1, -1)).2 < 100000) with
        | true =>
          rw [hl] at hla
          obtain ⟨I3, e1, r3⟩ := M_lastL h ht hd c (k + 1) (.int (oi (t_fl E T k))) (.int 100000) I2 (by omega) r2
          rw [hf, hla] at e1
          exact ⟨I3, e1, r3⟩
        | false =>
          rw [hl] at hla
          obtain ⟨I3, e1, r3⟩ := M_lastL h ht hd c (k + 1) (.int (oi (t_fl E T k))) (.int 100000) I2 (by omega) r2
          rw [hf, hla] at e1
          exact ⟨I3, e1, r3⟩
      | false =>
        have hVV : la_V E T k = oi (t_fl E T k) := by
          unfold la_V
          rw [hV]
          rfl
        rw [hVV] at hla
        cases hl : decide ((fd k (la_f E T) (-1, -1)).2 < oi (t_fl E T k)) with
        | true =>
          rw [hl] at hla
          obtain ⟨I3, e1, r3⟩ := M_lastL h ht hd c (k + 1) (.int (oi (t_fl E T k))) (.int (oi (t_fl E T k))) I2 (by omega) r2
          rw [hf, hla] at e1
          exact ⟨I3, e1, r3⟩
        | false =>
          rw [hl] at hla
          obtain ⟨I3, e1, r3⟩ := M_lastL h ht hd c (k + 1) (.int (oi (t_fl E T k))) (.int (oi (t_fl E T k))) I2 (by omega) r2
          rw [hf, hla] at e1
          exact ⟨I3, e1, r3⟩
theorem M_last (h : cM E mb T I) (ht : t_ok T) (hd : t_d T ≤ 1000) : oM g N sw lv L T I k1 (am_R 220 8 0 [.ref 147, am_u, am_u, am_u, am_u, am_u] [] (am_hp g N sw lv I L)) (sp_last E T) := by
  obtain ⟨I2, e1, r2⟩ := M_lastL (g := g) (N := N) (sw := sw) (lv := lv) (L := L) h ht hd (t_n T) 0 am_u am_u _ (by omega) (mR_0 h)
  rw [y_Mo_last_0]
  exact oM_r r2 e1
/-- who decides -/
def t_dc (T : tr_T) (q h : Nat) : Bool := t_up T h && !(t_ps (t_off T h) q == t_ps T q)
def sp_decisive (T : tr_T) (x1 : Int32) : a_O := cond (gH 6 x1) (.inl (Int32.ofNat (bs (t_n T) (t_dc T x1.toNatClampNeg)))) (.inr 0)
theorem C_decL (h : cC E mb T sw I) (ht : t_ok T) {q : Nat} (hq : q < 6) : ∀ c k s (I1 : Nat → Nat → Int32), k + c = t_n T → rC 109 (t_put T s (t_su T) (t_le T)) I1 → zf I I1 → oC g N sw lv L I (am_R 107 8 29 [.ref 75, .int (Int32.ofNat q), .int (cond (t_ps T q) 1 0), .int (Int32.ofNat (bs k (t_dc T q))), .int (Int32.ofNat k)] [] (am_hp g N sw lv I1 L)) (.inl (Int32.ofNat (bs (t_n T) (t_dc T q))))
  | 0, k, s, I1, hc, hr, z => by
    have hn := ht.1
    rw [y_Ca_decisive_29 _ _ _ _, (cC_zf h z).2.1.1, nb_dle (by omega) (by omega), d_t (by omega : t_n T ≤ k), show k = t_n T by omega]
    exact oC_v z rfl
  | c + 1, k, s, I1, hc, hr, z => by
    have hn := ht.1
    have hk : k < t_n T := by omega
    have h1 := (cC_zf h z).2.1
    have hr2 := rC_wS hr (b_off (t_s T) k)
    have z2 : zf I (am_up I1 109 (upd (I1 109) 2 (Int32.ofNat (b_off (t_s T) k)))) := zf_tr z (fun a qa => up_ne (by omega))
    have h2 := (cC_zf h z2).2.1
    have ih := C_decL h ht hq c (k + 1) (b_off (t_s T) k) _ (by omega) hr2 z2
    rw [y_Ca_decisive_29 _ _ _ _, h1.1, nb_dle (by omega) (by omega), d_f (by omega : ¬ t_n T ≤ k), h1.2.2.1, bt_off _ (b_256 hn ht.2.1) _ (by omega), rC_stands h2 ht hk]
    cases hu : t_up T k with
    | false =>
      rw [bs_f (P := t_dc T q) (show t_dc T q k = false by unfold t_dc; rw [hu]; rfl)] at ih
      rw [cond_false, d_t rfl, nb_s]
      exact ih
    | true =>
      have hp := rC_pass (g := g) (N := N) (sw := sw) (lv := lv) (L := L) (T := t_off T k) a_109 hr2 (t_off_ok ht k) (show q < 8 by omega)
      rw [cond_true, d_f (by decide : ¬ (1 : Int32) = 0), hp, am_bd_ok, am_tl, y_Ca_decisive_82 _ _ _ _ _, i_b2, nb_s]
      cases he : (t_ps (t_off T k) q == t_ps T q) with
      | true =>
        rw [bs_f (P := t_dc T q) (show t_dc T q k = false by unfold t_dc; rw [hu, he]; rfl)] at ih
        exact ih
      | false =>
        rw [bs_t (P := t_dc T q) (show t_dc T q k = true by unfold t_dc; rw [hu, he]; rfl)] at ih
        rw [cond_false, bt_on _ (bs_256 (by omega)) _ (by omega)]
        exact ih
theorem C_decisive (h : cC E mb T sw I) (ht : t_ok T) (hd : t_d T ≤ 1000) (x1 : Int32) : oC g N sw lv L I (am_R 107 8 0 [.ref 75, .int x1, am_u, am_u, am_u] [] (am_hp g N sw lv I L)) (sp_decisive T x1) := by
  rw [y_Ca_decisive_0 _, g_6]
  unfold sp_decisive
  cases h1 : gH 6 x1 with
  | false => exact oC_t rfl
  | true =>
    obtain ⟨q, hq, rfl⟩ := gH_at (by decide) h1
    obtain ⟨I1, a1, a2, a3, -⟩ := C_cp h ht
    simp only [cond_true]
    rw [nb_tn (show q < 100000 by omega), rC_pass a_99 h.2.1 ht (show q < 8 by omega), am_bd_ok, am_tl, y_Ca_decisive_12 _ _, a1]
    exact C_decL h ht hq (t_n T) 0 (t_s T) I1 (by omega) a2 a3
theorem M_decL (h : cM E mb T I) (ht : t_ok T) {q : Nat} (hq : q < 6) : ∀ c k (I1 : Nat → Nat → Int32), k + c = t_n T → mR T I I1 → ∃ I2, am_R 230 7 35 [.ref 147, .int (Int32.ofNat q), .int (cond (t_ps T q) 1 0), .int (Int32.ofNat (b_no (t_n T) (t_s T))), .int (Int32.ofNat (bs k (t_dc T q))), .int (Int32.ofNat k)] [] (am_hp g N sw lv I1 L) = some (.inl (some (.int (Int32.ofNat (bs (t_n T) (t_dc T q))))), am_hp g N sw lv I2 L) ∧ mR T I I2
  | 0, k, I1, hc, r => ⟨I1, by
    have hn := ht.1
    rw [y_Mo_decisive_35 _ _ _ _ _, r.1.1, nb_dle (by omega) (by omega), d_t (by omega : t_n T ≤ k), show k = t_n T by omega], r⟩
  | c + 1, k, I1, hc, r => by
    have hn := ht.1
    have hk : k < t_n T := by omega
    rw [y_Mo_decisive_35 _ _ _ _ _, r.1.1, nb_dle (by omega) (by omega), d_f (by omega : ¬ t_n T ≤ k), m_isof _ (b_no_lt _ (by omega) _ ht.2.1) _ (by omega), b_no_at _ (by omega) _ ht.2.1 _ hk, bt_on _ (b_no_lt _ (by omega) _ ht.2.1) _ (by omega), b_no_on _ (by omega) _ ht.2.1 _ hk]
    cases hu : (t_s T).testBit k with
    | false =>
      obtain ⟨I2, e1, r2⟩ := M_decL h ht hq c (k + 1) I1 (by omega) r
      refine ⟨I2, ?_, r2⟩
      rw [bs_f (P := t_dc T q) (show t_dc T q k = false by unfold t_dc; rw [show t_up T k = false from hu]; rfl)] at e1
      rw [nb_s]
      exact e1
    | true =>
      have hr2 := rM_wS r.1 (s := b_off (t_s T) k) (x := b_no (t_n T) (b_off (t_s T) k)) rfl
      have hr3 := rM_wS hr2 (s := t_s T) (x := b_no (t_n T) (t_s T)) rfl
      have hp := rM_pass (g := g) (N := N) (sw := sw) (lv := lv) (L := L) (T := t_off T k) hr2 (t_off_ok ht k) (show q < 8 by omega)
      have r3 : mR T I (am_up (am_up I1 147 (upd (I1 147) 34 (Int32.ofNat (b_no (t_n T) (b_off (t_s T) k))))) 147 (upd ((am_up I1 147 (upd (I1 147) 34 (Int32.ofNat (b_no (t_n T) (b_off (t_s T) k))))) 147) 34 (Int32.ofNat (b_no (t_n T) (t_s T))))) := by
        refine ⟨hr3, zM_tr r.2.1 ⟨fun a q1 _ => by rw [up_ne q1, up_ne q1], fun j _ _ q3 _ _ _ => by rw [up_same, upd_ne q3, up_same, upd_ne q3]⟩, ?_, ?_⟩
        · rw [up_same, upd_ne (by decide), up_same, upd_ne (by decide)]
          exact r.2.2.1
        · rw [up_same, upd_ne (by decide), up_same, upd_ne (by decide)]
          exact r.2.2.2
      obtain ⟨I2, e1, r2⟩ := M_decL h ht hq c (k + 1) _ (by omega) r3
      refine ⟨I2, ?_, r2⟩
      show am_bd _ _ _ = _
      rw [hp, am_bd_ok, am_tl, y_Mo_decisive_75 _ _ _ _ _ _ _, i_b2, nb_s]
      cases he : (t_ps (t_off T k) q == t_ps T q) with
      | true =>
        rw [bs_f (P := t_dc T q) (show t_dc T q k = false by unfold t_dc; rw [show t_up T k = true from hu, he]; rfl)] at e1
        rw [cond_true, Int32.or_zero]
        exact e1
      | false =>
        rw [bs_t (P := t_dc T q) (show t_dc T q k = true by unfold t_dc; rw [show t_up T k = true from hu, he]; rfl)] at e1
        rw [cond_false, bt_on _ (bs_256 (by omega)) _ (by omega)]
        exact e1
theorem M_decisive (h : cM E mb T I) (ht : t_ok T) (x1 : Int32) : oM g N sw lv L T I k1 (am_R 230 7 0 [.ref 147, .int x1, am_u, am_u, am_u, am_u] [] (am_hp g N sw lv I L)) (sp_decisive T x1) := by
  have h4 := cM_4 h 0
  obtain ⟨q1, q2⟩ := m_q x1
  rw [y_Mo_decisive_0 _, q1, q2]
  unfold sp_decisive
  cases h1 : gH 6 x1 with
  | false => exact oM_t (c := 0) h rfl
  | true =>
    obtain ⟨q, hq, rfl⟩ := gH_at (by decide) h1
    obtain ⟨I3, b1, r3⟩ := M_decL (g := g) (N := N) (sw := sw) (lv := lv) (L := L) h ht hq (t_n T) 0 _ (by omega) (mR_0 h)
    simp only [cond_true]
    rw [d_f (by decide : ¬ (1 : Int32) = 0), nb_tn (show q < 100000 by omega), rM_pass h4.2.1 ht (show q < 8 by omega), am_bd_ok, am_tl, y_Mo_decisive_23 _ _, h4.2.1.2.2.1]
    exact oM_r r3 b1
end OPC
