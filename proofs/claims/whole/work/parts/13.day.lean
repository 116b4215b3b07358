/-! A DAY, as numbers -/
/-- what a text tells: almond, the rule of melting, the rule of leaning (what each gives for the values of a head), how many heats, the heats -/
abbrev e_E : Type := (Nat → Int32) × Option ((Nat → Int32) → Int32) × Option ((Nat → Int32) → Int32) × Nat × (Nat → Int32)
abbrev e_al (E : e_E) : Nat → Int32 := E.1
abbrev e_me (E : e_E) : Option ((Nat → Int32) → Int32) := E.2.1
abbrev e_ln (E : e_E) : Option ((Nat → Int32) → Int32) := E.2.2.1
abbrev e_hc (E : e_E) : Nat := E.2.2.2.1
abbrev e_ht (E : e_E) : Nat → Int32 := E.2.2.2.2
def e_on (E : e_E) (d : Int32) : Int32 := cond (decide (e_hc E = 0)) 4 (e_ht E (d.toNatClampNeg % e_hc E))
def t_put (T : tr_T) (s : Nat) (su le : Nat → Int32) : tr_T := ((t_n T, t_d T, s), su, le, T.2.2.2)
def t_kn (E : e_E) (w : Int32) (T : tr_T) (h : Nat) (l r : Int32) : Nat → Int32
  | 0 => t_su T h
  | 1 => e_al E h
  | 2 => w
  | 3 => t_le T h
  | 4 => t_d T
  | 5 => l
  | 6 => r
  | _ => 0
def t_less (E : e_E) (w : Int32) (T : tr_T) (h : Nat) : Int32 := match e_me E with
  | none => w - e_al E h
  | some f => f (t_kn E w T h 0 0)
def t_mv (E : e_E) (w : Int32) (T : tr_T) (h : Nat) : Int32 := v_Ma_max 0 (t_su T h - v_Rw_within (t_less E w T h) 0 20)
def t_m1 (E : e_E) (w : Int32) (h : Nat) (T : tr_T) : tr_T := cond (t_up T h) (t_put T (cond (decide (t_mv E w T h = 0)) (b_off (t_s T) h) (t_s T)) (upd (t_su T) h (t_mv E w T h)) (t_le T)) T
def t_sn (T : tr_T) (w : Bool) (h : Nat) : Int32 := match t_nx T w h with
  | none => 0
  | some j => t_su T j
def t_sw (E : e_E) (w : Int32) (T : tr_T) (h : Nat) : Int32 := match e_ln E with
  | none => cond (decide (w < 5)) 0 (v_In_compare (t_sn T false h) (t_sn T true h))
  | some f => v_Rw_within (f (t_kn E w T h (t_sn T false h) (t_sn T true h))) (-3) 3
def t_sy (E : e_E) (w : Int32) (T : tr_T) : tr_T := t_put T (t_s T) (t_su T) (fun h => cond (decide (h < t_n T)) (v_Rw_within (t_le T h + cond (t_up T h) (t_sw E w T h) 0) (-9) 9) (t_le T h))
def t_off (T : tr_T) (h : Nat) : tr_T := t_put T (b_off (t_s T) h) (t_su T) (t_le T)
def t_kick (w : Bool) (T : tr_T) (j : Nat) : tr_T := t_put T (t_s T) (t_su T) (upd (t_le T) j (v_Rw_within (t_le T j + 2 * sd w) (-9) 9))
/-- a fall, and who falls by it -/
def t_tp : Nat → Bool → Nat → tr_T → tr_T
  | 0, _, _, T => T
  | f + 1, w, h, T => match t_nx (t_off T h) w h with
    | none => t_off T h
    | some j => cond (decide (v_Rw_within (t_le T j + 2 * sd w) (-9) 9 = 9 * sd w)) (t_tp f w j (t_kick w (t_off T h) j)) (t_kick w (t_off T h) j)
def t_f1 (k : Nat) (T : tr_T) : tr_T := cond (t_up T (t_hd T k) && decide (v_Ma_abs (t_le T (t_hd T k)) = 9)) (t_tp (t_n T) (!decide (t_le T (t_hd T k) ≤ 0)) (t_hd T k) T) T
def t_dd (T : tr_T) : tr_T := ((t_n T, t_d T + 1, t_s T), T.2)
/-- a day of heat w -/
def t_day (E : e_E) (w : Int32) (T : tr_T) : tr_T := t_dd (fd (t_n T) t_f1 (t_sy E w (fd (t_n T) (t_m1 E w) T)))
/-- the ranges -/
theorem i_max {a b : Int32} : (v_Ma_max a b).toInt = max a.toInt b.toInt := by
  unfold v_Ma_max
  by_cases h : a < b
  · rw [d_t h]
    rw [Int32.lt_iff_toInt_lt] at h
    omega
  · rw [d_f h]
    rw [Int32.lt_iff_toInt_lt] at h
    omega
theorem i_min {a b : Int32} : (v_Ma_min a b).toInt = min a.toInt b.toInt := by
  unfold v_Ma_min
  by_cases h : b < a
  · rw [d_t h]
    rw [Int32.lt_iff_toInt_lt] at h
    omega
  · rw [d_f h]
    rw [Int32.lt_iff_toInt_lt] at h
    omega
theorem i_wi {x a b : Int32} (h : a ≤ b) : a ≤ v_Rw_within x a b ∧ v_Rw_within x a b ≤ b := by
  unfold v_Rw_within
  rw [Int32.le_iff_toInt_le] at h
  rw [Int32.le_iff_toInt_le, Int32.le_iff_toInt_le, i_max, i_min]
  omega
theorem i_wid {x a b : Int32} (h1 : a ≤ x) (h2 : x ≤ b) : v_Rw_within x a b = x := by
  rw [Int32.le_iff_toInt_le] at h1 h2
  refine Int32.toInt_inj.mp ?_
  unfold v_Rw_within
  rw [i_max, i_min]
  omega
theorem i_sub {a b : Int32} (ha : 0 ≤ a) (hb : 0 ≤ b) : (a - b).toInt = a.toInt - b.toInt := by
  rw [Int32.le_iff_toInt_le] at ha hb
  have h0 : (0 : Int32).toInt = 0 := by decide
  have h1 := Int32.toInt_lt a
  have h2 := Int32.toInt_lt b
  rw [Int32.toInt_sub]
  refine Int.bmod_eq_of_le ?_ ?_ <;> omega
theorem t_mv_ok {E : e_E} {w : Int32} {T : tr_T} {h : Nat} (h1 : 0 ≤ t_su T h) (h2 : t_su T h ≤ 99) : 0 ≤ t_mv E w T h ∧ t_mv E w T h ≤ 99 := by
  have hw := i_wi (x := t_less E w T h) (a := 0) (b := 20) (by decide)
  have hs := i_sub h1 hw.1
  unfold t_mv
  rw [Int32.le_iff_toInt_le] at h1 h2 hw ⊢
  rw [Int32.le_iff_toInt_le] at ⊢
  rw [i_max, hs]
  have h0 : (0 : Int32).toInt = 0 := by decide
  have h99 : (99 : Int32).toInt = 99 := by decide
  rw [Int32.le_iff_toInt_le] at hw
  omega
theorem t_ok_put {T : tr_T} (ht : t_ok T) {s : Nat} {su le : Nat → Int32} (hs : s < 2 ^ t_n T) (hsu : ∀ h, h < t_n T → 0 ≤ su h ∧ su h ≤ 99) (hle : ∀ h, h < t_n T → (-9) ≤ le h ∧ le h ≤ 9) : t_ok (t_put T s su le) :=
  ⟨ht.1, hs, ht.2.2.1, fun h hh => ⟨hsu h hh, hle h hh, (ht.2.2.2.1 h hh).2.2⟩, ht.2.2.2.2⟩
theorem t_m1_ok {E : e_E} {w : Int32} {T : tr_T} (ht : t_ok T) {h : Nat} (hh : h < t_n T) : t_ok (t_m1 E w h T) ∧ t_n (t_m1 E w h T) = t_n T := by
  unfold t_m1
  cases t_up T h with
  | false => exact ⟨ht, rfl⟩
  | true =>
    refine ⟨t_ok_put ht ?_ (fun j hj => ?_) (fun j hj => (ht.2.2.2.1 j hj).2.1), rfl⟩
    · cases decide (t_mv E w T h = 0) with
      | true => exact b_off_lt ht.2.1
      | false => exact ht.2.1
    · have := (ht.2.2.2.1 j hj).1
      by_cases e : j = h
      · subst e
        rw [upd_same]
        exact t_mv_ok this.1 this.2
      · rw [upd_ne e]
        exact this
theorem t_mm_ok {E : e_E} {w : Int32} {T : tr_T} (ht : t_ok T) : ∀ k, k ≤ t_n T → t_ok (fd k (t_m1 E w) T) ∧ t_n (fd k (t_m1 E w) T) = t_n T
  | 0, _ => ⟨ht, rfl⟩
  | k + 1, hk => by
    obtain ⟨h1, h2⟩ := t_mm_ok (E := E) (w := w) ht k (by omega)
    obtain ⟨h3, h4⟩ := t_m1_ok (E := E) (w := w) h1 (show k < t_n (fd k (t_m1 E w) T) by omega)
    exact ⟨h3, h4.trans h2⟩
theorem t_sy_ok {E : e_E} {w : Int32} {T : tr_T} (ht : t_ok T) : t_ok (t_sy E w T) ∧ t_n (t_sy E w T) = t_n T := by
  refine ⟨t_ok_put ht ht.2.1 (fun j hj => (ht.2.2.2.1 j hj).1) (fun j hj => ?_), rfl⟩
  show _ ≤ cond (decide (j < t_n T)) _ _ ∧ cond (decide (j < t_n T)) _ _ ≤ _
  rw [d_t hj]
  exact i_wi (by decide)
theorem t_off_ok {T : tr_T} (ht : t_ok T) (h : Nat) : t_ok (t_off T h) := t_ok_put ht (b_off_lt ht.2.1) (fun j hj => (ht.2.2.2.1 j hj).1) (fun j hj => (ht.2.2.2.1 j hj).2.1)
theorem t_kick_ok {T : tr_T} (ht : t_ok T) (w : Bool) (j : Nat) : t_ok (t_kick w T j) := t_ok_put ht ht.2.1 (fun j hj => (ht.2.2.2.1 j hj).1) (fun i hi => by
  by_cases e : i = j
  · subst e
    rw [upd_same]
    exact i_wi (by decide)
  · rw [upd_ne e]
    exact (ht.2.2.2.1 i hi).2.1)
theorem t_tp_ok : ∀ (f : Nat) (w : Bool) (h : Nat) {T : tr_T}, t_ok T → t_ok (t_tp f w h T) ∧ t_n (t_tp f w h T) = t_n T
  | 0, _, _, _, ht => ⟨ht, rfl⟩
  | f + 1, w, h, T, ht => by
    unfold t_tp
    cases t_nx (t_off T h) w h with
    | none => exact ⟨t_off_ok ht h, rfl⟩
    | some j =>
      show t_ok (cond _ _ _) ∧ t_n (cond _ _ _) = _
      cases decide (v_Rw_within (t_le T j + 2 * sd w) (-9) 9 = 9 * sd w) with
      | true =>
        have := t_tp_ok f w j (t_kick_ok (t_off_ok ht h) w j)
        exact ⟨this.1, this.2⟩
      | false => exact ⟨t_kick_ok (t_off_ok ht h) w j, rfl⟩
theorem t_f1_ok {T : tr_T} (ht : t_ok T) (k : Nat) : t_ok (t_f1 k T) ∧ t_n (t_f1 k T) = t_n T := by
  unfold t_f1
  cases (t_up T (t_hd T k) && decide (v_Ma_abs (t_le T (t_hd T k)) = 9)) with
  | true => exact t_tp_ok _ _ _ ht
  | false => exact ⟨ht, rfl⟩
theorem t_ff_ok {T : tr_T} (ht : t_ok T) : ∀ k, t_ok (fd k t_f1 T) ∧ t_n (fd k t_f1 T) = t_n T
  | 0 => ⟨ht, rfl⟩
  | k + 1 => by
    obtain ⟨h1, h2⟩ := t_ff_ok ht k
    obtain ⟨h3, h4⟩ := t_f1_ok h1 k
    exact ⟨h3, h4.trans h2⟩
