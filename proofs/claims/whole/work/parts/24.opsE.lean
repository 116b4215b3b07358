/-! CALLS: brings, worst, agree, party, neighbour, middle, between -/
def gS (x : Int32) : Bool := decide (x = (-1)) || decide (x = 1)
theorem g_S {α : Type} {x : Int32} {p q : α} : cond (decide (x = (-1))) p (cond (decide (x = 1)) p q) = cond (gS x) p q := by
  unfold gS
  cases decide (x = (-1)) <;> cases decide (x = 1) <;> rfl
theorem m_S (x : Int32) : v_Mo_isSide x = cond (gS x) 1 0 := by
  unfold v_Mo_isSide gS
  cases decide (x = (-1)) <;> cases decide (x = 1) <;> rfl
theorem gS_at {x : Int32} (h : gS x = true) : ∃ b, x = sd b := by
  unfold gS at h
  rw [Bool.or_eq_true, decide_eq_true_iff, decide_eq_true_iff] at h
  rcases h with h | h
  · exact ⟨false, h⟩
  · exact ⟨true, h⟩
/-- which side a side is -/
def sdb (x : Int32) : Bool := decide (x = 1)
theorem sdb_sd : ∀ b, sdb (sd b) = b := by decide
/-- whether a push brings it down -/
def t_kd (T : tr_T) (b : Bool) (i : Nat) : Bool := !decide (((t_le T i) * sd b) + 2 < 9)
/-- who is brought down by a head's fall -/
def t_ch (T : tr_T) (b : Bool) : Nat → Nat → Nat
  | 0, _ => 0
  | f + 1, j => 2 ^ j ||| (match t_nx T b j with
    | none => 0
    | some i => cond (t_kd T b i) (t_ch T b f i) 0)
/-- how far it can go -/
def t_mu (T : tr_T) (b : Bool) (j : Nat) : Nat := cond b (t_n T - t_st T j) (t_st T j + 1)
theorem t_ch_f {T : tr_T} (ht : t_ok T) (b : Bool) : ∀ f f' j, j < t_n T → t_mu T b j ≤ f → t_mu T b j ≤ f' → t_ch T b f j = t_ch T b f' j
  | 0, _, j, hj, h1, _ => by
    have := (ht.2.2.2.1 j hj).2.2.2.2.1
    unfold t_mu at h1
    cases b
    · simp only [cond_false] at h1
      omega
    · simp only [cond_true] at h1
      omega
  | f + 1, 0, j, hj, _, h1 => by
    have := (ht.2.2.2.1 j hj).2.2.2.2.1
    unfold t_mu at h1
    cases b
    · simp only [cond_false] at h1
      omega
    · simp only [cond_true] at h1
      omega
  | f + 1, f' + 1, j, hj, h1, h2 => by
    unfold t_ch
    cases e : t_nx T b j with
    | none => rfl
    | some i =>
      have hm : t_mu T b i + 1 ≤ t_mu T b j := t_nx_st ht hj e
      have hi := (t_nx_lt ht hj e).1
      dsimp only
      rw [t_ch_f ht b f f' i hi (by omega) (by omega)]
theorem t_ch_up {T : tr_T} (ht : t_ok T) (b : Bool) : ∀ f j, j < t_n T → t_up T j = true → ∀ i, (t_ch T b f j).testBit i = true → i < t_n T ∧ t_up T i = true
  | 0, j, hj, hu, i, h => by
    unfold t_ch at h
    rw [Nat.zero_testBit] at h
    cases h
  | f + 1, j, hj, hu, i, h => by
    unfold t_ch at h
    rw [Nat.testBit_or, Bool.or_eq_true, Nat.testBit_two_pow, decide_eq_true_iff] at h
    rcases h with h | h
    · rw [← h]
      exact ⟨hj, hu⟩
    · cases e : t_nx T b j with
      | none =>
        rw [e] at h
        dsimp only at h
        rw [Nat.zero_testBit] at h
        cases h
      | some k =>
        rw [e] at h
        dsimp only at h
        obtain ⟨h1, h2⟩ := t_nx_lt ht hj e
        cases hk : t_kd T b k with
        | false =>
          rw [hk, cond_false, Nat.zero_testBit] at h
          cases h
        | true =>
          rw [hk] at h
          exact t_ch_up ht b f k h1 h2 i h
theorem t_ch_lt {T : tr_T} (ht : t_ok T) (b : Bool) {f j : Nat} (hj : j < t_n T) (hu : t_up T j = true) : t_ch T b f j < 2 ^ t_n T := by
  refine Nat.lt_pow_two_of_testBit _ fun i hi => ?_
  cases h : (t_ch T b f j).testBit i with
  | false => rfl
  | true =>
    have := (t_ch_up ht b f j hj hu i h).1
    omega
theorem fs_congr {P Q : Nat → Bool} : ∀ c k, (∀ i, k ≤ i → i < k + c → P i = Q i) → fs P c k = fs Q c k
  | 0, _, _ => rfl
  | c + 1, k, h => by
    unfold fs
    rw [h k (Nat.le_refl _) (by omega), fs_congr c (k + 1) (fun i h1 h2 => h i (by omega) (by omega))]
theorem ls_congr {P Q : Nat → Bool} : ∀ k, (∀ i, i < k → P i = Q i) → ls_ P k = ls_ Q k
  | 0, _ => rfl
  | k + 1, h => by
    unfold ls_
    rw [h k (Nat.lt_succ_self _), ls_congr k (fun i hi => h i (by omega))]
/-- seat k lies beyond j -/
def t_by (T : tr_T) (b : Bool) (j k : Nat) : Prop := cond b (t_st T j < k) (k < t_st T j)
/-- T1 is T as far as what lies beyond j goes -/
def t_sm (T1 T : tr_T) (b : Bool) (j : Nat) : Prop := t_n T1 = t_n T ∧ t_hd T1 = t_hd T ∧ t_st T1 = t_st T ∧ ∀ k, k < t_n T → t_by T b j k → t_up T1 (t_hd T k) = t_up T (t_hd T k) ∧ t_le T1 (t_hd T k) = t_le T (t_hd T k)
theorem t_nx_sm {T1 T : tr_T} (ht : t_ok T) {b : Bool} {j : Nat} (hj : j < t_n T) (h : t_sm T1 T b j) : t_nx T1 b j = t_nx T b j := by
  obtain ⟨h1, h2, h3, h4⟩ := h
  have hs := (ht.2.2.2.1 j hj).2.2.2.2.1
  unfold t_nx
  rw [h1, h2, h3]
  cases b with
  | true =>
    simp only [cond_true]
    rw [fs_congr (Q := fun k => t_up T (t_hd T k)) _ _ (fun i q1 q2 => (h4 i (by omega) (show t_st T j < i by omega)).1)]
  | false =>
    simp only [cond_false]
    rw [ls_congr (Q := fun k => t_up T (t_hd T k)) _ (fun i q1 => (h4 i (by omega) (show i < t_st T j by omega)).1)]
theorem t_kd_eq : ∀ m, m < 32 → ∀ b, decide (v_Rw_within ((Int32.ofNat m - 9) + 2 * sd b) (-9) 9 = 9 * sd b) = !decide (((Int32.ofNat m - 9) * sd b) + 2 < 9) := by decide +kernel
theorem t_kd_at {T : tr_T} (ht : t_ok T) (b : Bool) {i : Nat} (hi : i < t_n T) : decide (v_Rw_within (t_le T i + 2 * sd b) (-9) 9 = 9 * sd b) = t_kd T b i := by
  obtain ⟨-, ⟨l0, l1⟩, -⟩ := ht.2.2.2.1 i hi
  obtain ⟨k1, k2, k3⟩ := kp_le l0 l1
  have := t_kd_eq _ k1 b
  rw [k3] at this
  exact this
theorem t_sm_off {T1 T : tr_T} (ht : t_ok T) (h1 : t_ok T1) {b : Bool} {j : Nat} (hj : j < t_n T) (h : t_sm T1 T b j) : t_sm (t_off T1 j) T b j := by
  obtain ⟨a1, a2, a3, a4⟩ := h
  have hn := ht.1
  refine ⟨a1, a2, a3, fun k hk hb => ⟨?_, (a4 k hk hb).2⟩⟩
  have hh := ht.2.2.2.2 k hk
  show (b_off (t_s T1) j).testBit (t_hd T k) = _
  rw [b_off_at _ (b_256 h1.1 h1.2.1) _ (by omega) _ (by omega), decide_eq_false (show ¬ j = t_hd T k by
    intro e
    have : t_st T j = k := by rw [e]; exact hh.2
    unfold t_by at hb
    cases b
    · simp only [cond_false] at hb
      omega
    · simp only [cond_true] at hb
      omega)]
  show ((t_s T1).testBit (t_hd T k) && true) = _
  rw [Bool.and_true]
  exact (a4 k hk hb).1
theorem t_tp_ch {T : tr_T} (ht : t_ok T) (b : Bool) : ∀ f j (T1 : tr_T), j < t_n T → t_ok T1 → t_sm T1 T b j → ∀ i, i < 8 → (t_s (t_tp f b j T1)).testBit i = ((t_s T1).testBit i && !(t_ch T b f j).testBit i)
  | 0, j, T1, hj, h1, hs, i, hi => by
    unfold t_tp t_ch
    rw [Nat.zero_testBit]
    show _ = (_ && true)
    rw [Bool.and_true]
  | f + 1, j, T1, hj, h1, hs, i, hi => by
    have hn := ht.1
    have hso := t_sm_off ht h1 hj hs
    have hoff : (t_s (t_off T1 j)).testBit i = ((t_s T1).testBit i && !decide (j = i)) := b_off_at _ (b_256 h1.1 h1.2.1) _ (by omega) _ hi
    unfold t_tp t_ch
    rw [t_nx_sm ht hj hso, Nat.testBit_or, Nat.testBit_two_pow]
    cases e : t_nx T b j with
    | none =>
      dsimp only
      rw [hoff, Nat.zero_testBit, Bool.or_false]
    | some k =>
      obtain ⟨k1, k2⟩ := t_nx_lt ht hj e
      have hm : t_mu T b k + 1 ≤ t_mu T b j := t_nx_st ht hj e
      have hsk := (ht.2.2.2.1 k k1).2.2.2.2
      have hsj := (ht.2.2.2.1 j hj).2.2.2.2
      have hby : t_by T b j (t_st T k) := by
        unfold t_mu at hm
        unfold t_by
        cases b
        · simp only [cond_false] at hm ⊢
          omega
        · simp only [cond_true] at hm ⊢
          omega
      have hle : t_le T1 k = t_le T k := by
        have := (hs.2.2.2 (t_st T k) hsk.1 hby).2
        rw [hsk.2] at this
        exact this
      dsimp only
      rw [hle, t_kd_at ht b k1]
      cases hk : t_kd T b k with
      | false =>
        rw [cond_false, cond_false, Nat.zero_testBit, Bool.or_false]
        exact hoff
      | true =>
        rw [cond_true, cond_true]
        have h2 : t_ok (t_kick b (t_off T1 j) k) := t_kick_ok (t_off_ok h1 j) b k
        have hs2 : t_sm (t_kick b (t_off T1 j) k) T b k := by
          obtain ⟨a1, a2, a3, a4⟩ := hso
          refine ⟨a1, a2, a3, fun c hc hb => ?_⟩
          have hh := ht.2.2.2.2 c hc
          have hb2 : t_by T b j c := by
            unfold t_by at hb hby ⊢
            cases b
            · simp only [cond_false] at hb hby ⊢
              omega
            · simp only [cond_true] at hb hby ⊢
              omega
          refine ⟨(a4 c hc hb2).1, ?_⟩
          have hne : t_hd T c ≠ k := by
            intro q
            have : t_st T k = c := by rw [← q]; exact hh.2
            unfold t_by at hb
            cases b
            · simp only [cond_false] at hb
              omega
            · simp only [cond_true] at hb
              omega
          show upd (t_le T1) k _ (t_hd T c) = _
          rw [upd_ne hne]
          exact (hs.2.2.2 c hc hb2).2
        rw [t_tp_ch ht b f k _ k1 h2 hs2 i hi]
        show ((t_s (t_off T1 j)).testBit i && _) = _
        rw [hoff]
        cases (t_s T1).testBit i <;> cases decide (j = i) <;> cases (t_ch T b f k).testBit i <;> rfl
theorem t_sm_rfl {T : tr_T} {b : Bool} {j : Nat} : t_sm T T b j := ⟨rfl, rfl, rfl, fun _ _ _ => ⟨rfl, rfl⟩⟩
/-- who is brought down -/
def t_bd (T : tr_T) (b : Bool) (h : Nat) : Nat := cond (t_up T h) (t_ch T b (t_n T + 1) h) 0
theorem t_bd_lt {T : tr_T} (ht : t_ok T) (b : Bool) {h : Nat} (hh : h < t_n T) : t_bd T b h < 256 := by
  unfold t_bd
  cases hu : t_up T h with
  | false => exact Nat.zero_lt_succ 255
  | true => exact b_256 ht.1 (t_ch_lt ht b hh hu)
theorem t_bd_m {T : tr_T} (ht : t_ok T) (b : Bool) {h : Nat} (hh : h < t_n T) (hu : t_up T h = true) : Int32.ofNat (b_no (t_n T) (t_s (t_tp (t_n T) b h T))) &&& (Int32.ofNat (b_no (t_n T) (t_s T)) ^^^ (-1)) = Int32.ofNat (t_bd T b h) := by
  have hn := ht.1
  obtain ⟨o1, o2⟩ := t_tp_ok (t_n T) b h ht
  have hs' : t_s (t_tp (t_n T) b h T) < 2 ^ t_n T := by
    have := o1.2.1
    rw [o2] at this
    exact this
  have hl1 := b_no_lt _ (by omega) _ hs'
  have hl2 := b_no_lt _ (by omega) _ ht.2.1
  have hmu : t_mu T b h ≤ t_n T := by
    have := (ht.2.2.2.1 h hh).2.2.2.2.1
    unfold t_mu
    cases b
    · simp only [cond_false]
      omega
    · simp only [cond_true]
      omega
  rw [b_andn _ hl1 _ hl2]
  congr 1
  unfold t_bd
  rw [hu, cond_true, t_ch_f ht b (t_n T + 1) (t_n T) h hh (by omega) hmu]
  refine Nat.eq_of_testBit_eq fun i => ?_
  rw [Nat.testBit_and]
  by_cases hi : i < t_n T
  · rw [b_no_at _ (by omega) _ hs' _ hi, show (255 - b_no (t_n T) (t_s T)).testBit i = !((b_no (t_n T) (t_s T)).testBit i) from b_no_at 8 (by decide) _ hl2 i (by omega), b_no_at _ (by omega) _ ht.2.1 _ hi, t_tp_ch ht b (t_n T) h T hh ht t_sm_rfl i (by omega)]
    cases hc : (t_ch T b (t_n T) h).testBit i with
    | false => cases (t_s T).testBit i <;> rfl
    | true =>
      have := (t_ch_up ht b _ h hh hu i hc).2
      rw [show (t_s T).testBit i = true from this]
      rfl
  · have hlt : b_no (t_n T) (t_s (t_tp (t_n T) b h T)) < 2 ^ t_n T := by
      have : 0 < (2 : Nat) ^ t_n T := Nat.two_pow_pos _
      unfold b_no
      omega
    have hp : (2 : Nat) ^ t_n T ≤ 2 ^ i := Nat.pow_le_pow_right (by decide) (by omega)
    rw [Nat.testBit_lt_two_pow (Nat.lt_of_lt_of_le hlt hp), Nat.testBit_lt_two_pow (Nat.lt_of_lt_of_le (t_ch_lt ht b hh hu) hp)]
    rfl
section OPE
variable {g N : Nat} {sw lv : Bool} {I : Nat → Nat → Int32} {L : Nat → Nat → Int64} {T : tr_T} {E : e_E} {mb : Nat}
theorem rC_bdL (hr : rC 99 T I) (ht : t_ok T) (b : Bool) (x : Int32) : ∀ c k acc (o : Option Nat), k + c = t_n T → acc < 256 → (∀ i, o = some i → i < t_n T) → am_R 111 2 25 [.ref 99, .int x, .int (sd b), .int (Int32.ofNat acc), .int (oi o), .int (Int32.ofNat k)] [] (am_hp g N sw lv I L) = some (.inl (some (.int (Int32.ofNat (acc ||| (match o with
    | none => 0
    | some i => cond (t_kd T b i) (t_ch T b c i) 0))))), am_hp g N sw lv I L)
  | 0, k, acc, o, hc, ha, ho => by
    have hn := ht.1
    rw [y_Rw_broughtDown_25 _ _ _ _ _ a_99, hr.1, nb_dle (by omega) (by omega), d_t (by omega : t_n T ≤ k)]
    cases o with
    | none =>
      dsimp only
      rw [Nat.or_zero]
    | some i =>
      dsimp only
      unfold t_ch
      rw [Bool.cond_self, Nat.or_zero]
  | c + 1, k, acc, o, hc, ha, ho => by
    have hn := ht.1
    rw [y_Rw_broughtDown_25 _ _ _ _ _ a_99, hr.1, nb_dle (by omega) (by omega), d_f (by omega : ¬ t_n T ≤ k)]
    cases o with
    | none =>
      dsimp only
      rw [show oi none = -1 from rfl, d_t rfl, Nat.or_zero]
    | some i =>
      have hi := ho i rfl
      have ih := rC_bdL hr ht b x c (k + 1) (b_on acc i) (t_nx T b i) (by omega) (b_on_lt (n := 8) ha (by omega)) (fun j e => (t_nx_lt ht hi e).1)
      dsimp only
      rw [show oi (some i) = Int32.ofNat i from rfl, d_f (nb_n1 (by omega)), nb_inb (show i < 8 by omega) (by omega), nb_tn (by omega), (hr.2.2.2.1 i hi).2.1, cond_true]
      unfold t_ch
      cases hk : decide (((t_le T i) * sd b) + 2 < 9) with
      | true =>
        have : t_kd T b i = false := by
          unfold t_kd
          rw [hk]
          rfl
        rw [this, cond_false, Nat.or_zero]
        rfl
      | false =>
        have : t_kd T b i = true := by
          unfold t_kd
          rw [hk]
          rfl
        rw [this, cond_true, cond_false, rC_next a_99 hr ht b hi, am_bd_ok, am_tl, y_Rw_broughtDown_70 _ _ _ _ _ _ a_99, bt_on acc ha i (by omega), nb_s]
        refine ih.trans ?_
        unfold b_on
        rw [Nat.or_assoc]
theorem rC_bd (hr : rC 99 T I) (ht : t_ok T) (b : Bool) {h : Nat} (hh : h < t_n T) : am_R 111 2 0 [.ref 99, .int (Int32.ofNat h), .int (sd b), am_u, am_u, am_u] [] (am_hp g N sw lv I L) = some (.inl (some (.int (Int32.ofNat (t_bd T b h)))), am_hp g N sw lv I L) := by
  have hn := ht.1
  have hl := rC_bdL (g := g) (N := N) (sw := sw) (lv := lv) (L := L) hr ht b (Int32.ofNat h) (t_n T) 0 (2 ^ h) (t_nx T b h) (by omega) (b_2p (by omega)) (fun j e => (t_nx_lt ht hh e).1)
  rw [y_Rw_broughtDown_0 _ _ a_99, rC_stands hr ht hh, i_b0, rC_next a_99 hr ht b hh, am_bd_ok, am_tl, y_Rw_broughtDown_20 _ _ _ _ a_99, bt_shl h (by omega)]
  unfold t_bd
  cases t_up T h with
  | false => rfl
  | true => exact hl
theorem mR_fall {I1 : Nat → Nat → Int32} (h : cM E mb T I) (ht : t_ok T) (b : Bool) {k : Nat} (hk : k < t_n T) (r : mR T I I1) : ∃ I2, am_R 235 5 0 [.ref 147, .int (Int32.ofNat k), .int (sd b), am_u] [] (am_hp g N sw lv I1 L) = some (.inl (some (.int (Int32.ofNat (t_bd T b k)))), am_hp g N sw lv I2 L) ∧ mR T I I2 := by
  have hn := ht.1
  rw [y_Mo_broughtBy_0 _ _, rM_stands r.1 ht hk, i_b0]
  cases hu : t_up T k with
  | false =>
    refine ⟨I1, ?_, r⟩
    unfold t_bd
    rw [hu]
    rfl
  | true =>
    obtain ⟨I2, a1, s1, s2, s3, s4, s5⟩ := mS_pk (g := g) (N := N) (sw := sw) (lv := lv) (L := L) h ht r
    obtain ⟨I3, b1, b2, b3⟩ := rM_fall (g := g) (N := N) (sw := sw) (lv := lv) (L := L) s1 ht b hk
    have s' : mS T (t_tp (t_n T) b k T) I I3 := ⟨b2, pM_fr s2 (b3.1.1 171 (by decide) (by decide) (by decide) (by decide) (by decide) (by decide)), zM_tr s3 (zM_fM b3.1), by rw [b3.1.2 37 (by decide) (by decide)]; exact s4, by rw [b3.1.2 4 (by decide) (by decide)]; exact s5⟩
    obtain ⟨I4, c1, r4⟩ := mS_back (g := g) (N := N) (sw := sw) (lv := lv) (L := L) h ht s'
    refine ⟨I4, ?_, r4⟩
    show am_bd _ _ _ = _
    rw [a1, am_bd_ok, am_tn, y_Mo_broughtBy_19 _ _, b1, am_bd_ok, am_tn, y_Mo_broughtBy_25 _ _, c1, am_bd_ok, am_tn, y_Mo_broughtBy_39 _ _ _, b2.2.2.1, r4.1.2.2.1, (t_tp_ok (t_n T) b k ht).2, t_bd_m ht b hk hu]
def sp_brings (T : tr_T) (x1 x2 : Int32) : a_O := cond (gH (t_n T) x1) (cond (gS x2) (.inl (Int32.ofNat (t_bd T (sdb x2) x1.toNatClampNeg))) (.inr 1)) (.inr 0)
theorem C_brings (h : cC E mb T sw I) (ht : t_ok T) (x1 x2 : Int32) : oC g N sw lv L I (am_R 109 3 0 [.ref 75, .int x1, .int x2] [] (am_hp g N sw lv I L)) (sp_brings T x1 x2) := by
  have hn := ht.1
  rw [y_Ca_brings_0 _ _, h.2.1.1, g_S, g_H]
  unfold sp_brings
  cases h1 : gH (t_n T) x1 with
  | false => exact oC_t rfl
  | true =>
    cases h2 : gS x2 with
    | false => exact oC_t rfl
    | true =>
      obtain ⟨k, hk, rfl⟩ := gH_at hn h1
      obtain ⟨b, rfl⟩ := gS_at h2
      simp only [cond_true]
      rw [nb_tn (show k < 100000 by omega), sdb_sd, rC_bd h.2.1 ht b hk, am_bd_ok, am_tl, y_Ca_brings_18 _ _ _]
      exact oC_v zf_rfl rfl
theorem M_brings (h : cM E mb T I) (ht : t_ok T) (x1 x2 : Int32) : oM g N sw lv L T I k12 (am_R 233 6 0 [.ref 147, .int x1, .int x2] [] (am_hp g N sw lv I L)) (sp_brings T x1 x2) := by
  have hn := ht.1
  have h4 := cM_4 h 0
  obtain ⟨q1, q2⟩ := m_H h4.2.1 ht x1
  rw [y_Mo_brings_0 _ _, q1, q2, m_S]
  unfold sp_brings
  cases h1 : gH (t_n T) x1 with
  | false => exact oM_t (c := 0) h rfl
  | true =>
    cases h2 : gS x2 with
    | false => exact oM_t (c := 1) h rfl
    | true =>
      obtain ⟨k, hk, rfl⟩ := gH_at hn h1
      obtain ⟨b, rfl⟩ := gS_at h2
      obtain ⟨I2, b1, r2⟩ := mR_fall (g := g) (N := N) (sw := sw) (lv := lv) (L := L) h ht b hk (mR_0 h)
      simp only [cond_true]
      rw [d_f (by decide : ¬ (1 : Int32) = 0), d_f (by decide : ¬ (1 : Int32) = 0), nb_tn (show k < 100000 by omega), sdb_sd, b1, am_bd_ok, am_tl, y_Mo_brings_32 _ _ _]
      exact oM_r r2 rfl
/-- the worst -/
def t_wf (T : tr_T) (b : Bool) (h : Nat) (a : Int32 × Int32) : Int32 × Int32 := cond (decide (a.2 < Int32.ofNat (b_pc (t_bd T b h)))) (Int32.ofNat h, Int32.ofNat (b_pc (t_bd T b h))) a
def sp_worst (T : tr_T) (x1 x2 : Int32) : a_O := cond (gI 0 1 x2) (cond (gS x1) (.inl (cond (decide (x2 = 0)) (fd (t_n T) (t_wf T (sdb x1)) (-1, 0)).1 (fd (t_n T) (t_wf T (sdb x1)) (-1, 0)).2)) (.inr 1)) (.inr 0)
theorem C_woL (hr : rC 99 T I) (ht : t_ok T) (b : Bool) (x2 : Int32) : ∀ c k (w6 : Value), k + c = t_n T → am_R 119 3 17 [.ref 75, .int (sd b), .int x2, .int (fd k (t_wf T b) (-1, 0)).1, .int (fd k (t_wf T b) (-1, 0)).2, .int (Int32.ofNat k), w6] [] (am_hp g N sw lv I L) = some (.inl (some (.int (cond (decide (x2 = 0)) (fd (t_n T) (t_wf T b) (-1, 0)).1 (fd (t_n T) (t_wf T b) (-1, 0)).2))), am_hp g N sw lv I L)
  | 0, k, w6, hc => by
    have hn := ht.1
    rw [y_Ca_worst_17 _ _ _ _ _ _, hr.1, nb_dle (by omega) (by omega), d_t (by omega : t_n T ≤ k), show k = t_n T by omega]
    cases decide (x2 = 0) <;> rfl
  | c + 1, k, w6, hc => by
    have hn := ht.1
    have hk : k < t_n T := by omega
    have ih := fun w6 => C_woL hr ht b x2 c (k + 1) w6 (by omega)
    have hf : fd (k + 1) (t_wf T b) (-1, 0) = cond (decide ((fd k (t_wf T b) (-1, 0)).2 < Int32.ofNat (b_pc (t_bd T b k)))) (Int32.ofNat k, Int32.ofNat (b_pc (t_bd T b k))) (fd k (t_wf T b) (-1, 0)) := rfl
    rw [hf, i_dnlt] at ih
    rw [y_Ca_worst_17 _ _ _ _ _ _, hr.1, nb_dle (by omega) (by omega), d_f (by omega : ¬ t_n T ≤ k), rC_bd hr ht b hk, am_bd_ok, am_tl, y_Ca_worst_39 _ _ _ _ _ _ _, b_pc_c _ (t_bd_lt ht b hk), nb_s]
    cases hl : decide (Int32.ofNat (b_pc (t_bd T b k)) ≤ (fd k (t_wf T b) (-1, 0)).2) with
    | true =>
      rw [hl] at ih
      exact ih _
    | false =>
      rw [hl] at ih
      exact ih _
theorem C_worst (h : cC E mb T sw I) (ht : t_ok T) (x1 x2 : Int32) : oC g N sw lv L I (am_R 119 3 0 [.ref 75, .int x1, .int x2, am_u, am_u, am_u, am_u] [] (am_hp g N sw lv I L)) (sp_worst T x1 x2) := by
  rw [y_Ca_worst_0 _ _, g_S, g_I]
  unfold sp_worst
  cases h1 : gI 0 1 x2 with
  | false => exact oC_t rfl
  | true =>
    cases h2 : gS x1 with
    | false => exact oC_t rfl
    | true =>
      obtain ⟨b, rfl⟩ := gS_at h2
      simp only [cond_true]
      rw [sdb_sd]
      exact oC_v zf_rfl (C_woL h.2.1 ht b x2 (t_n T) 0 am_u (by omega))
theorem M_woL (h : cM E mb T I) (ht : t_ok T) (b : Bool) (x2 : Int32) : ∀ c k (w6 : Value) (I1 : Nat → Nat → Int32), k + c = t_n T → mR T I I1 → ∃ I2, am_R 236 6 42 [.ref 147, .int (sd b), .int x2, .int (fd k (t_wf T b) (-1, 0)).1, .int (fd k (t_wf T b) (-1, 0)).2, .int (Int32.ofNat k), w6] [] (am_hp g N sw lv I1 L) = some (.inl (some (.int (cond (decide (x2 = 0)) (fd (t_n T) (t_wf T b) (-1, 0)).1 (fd (t_n T) (t_wf T b) (-1, 0)).2))), am_hp g N sw lv I2 L) ∧ mR T I I2
  | 0, k, w6, I1, hc, r => ⟨I1, by
    have hn := ht.1
    rw [y_Mo_worst_42 _ _ _ _ _ _, r.1.1, nb_dle (by omega) (by omega), d_t (by omega : t_n T ≤ k), show k = t_n T by omega]
    cases decide (x2 = 0) <;> rfl, r⟩
  | c + 1, k, w6, I1, hc, r => by
    have hn := ht.1
    have hk : k < t_n T := by omega
    obtain ⟨I2, b1, r2⟩ := mR_fall (g := g) (N := N) (sw := sw) (lv := lv) (L := L) h ht b hk r
    have hf : fd (k + 1) (t_wf T b) (-1, 0) = cond (decide ((fd k (t_wf T b) (-1, 0)).2 < Int32.ofNat (b_pc (t_bd T b k)))) (Int32.ofNat k, Int32.ofNat (b_pc (t_bd T b k))) (fd k (t_wf T b) (-1, 0)) := rfl
    obtain ⟨I3, c1, r3⟩ := M_woL h ht b x2 c (k + 1) (.int (Int32.ofNat (b_pc (t_bd T b k)))) I2 (by omega) r2
    rw [hf] at c1
    refine ⟨I3, ?_, r3⟩
    rw [y_Mo_worst_42 _ _ _ _ _ _, r.1.1, nb_dle (by omega) (by omega), d_f (by omega : ¬ t_n T ≤ k), b1, am_bd_ok, am_tl, y_Mo_worst_60 _ _ _ _ _ _ _, m_bits (t_bd_lt ht b hk), am_bd_ok, am_tl, y_Mo_worst_63 _ _ _ _ _ _ _, nb_s]
    cases hl : decide ((fd k (t_wf T b) (-1, 0)).2 < Int32.ofNat (b_pc (t_bd T b k))) with
    | true =>
      rw [hl] at c1
      exact c1
    | false =>
      rw [hl] at c1
      exact c1
theorem M_worst (h : cM E mb T I) (ht : t_ok T) (x1 x2 : Int32) : oM g N sw lv L T I k12 (am_R 236 6 0 [.ref 147, .int x1, .int x2, am_u, am_u, am_u, am_u] [] (am_hp g N sw lv I L)) (sp_worst T x1 x2) := by
  rw [y_Mo_worst_0 _ _, m_S, m_inL (a := 0) (b := 1) (by decide) (by decide)]
  unfold sp_worst
  cases h1 : gI 0 1 x2 with
  | false => exact oM_t (c := 0) h rfl
  | true =>
    cases h2 : gS x1 with
    | false => exact oM_t (c := 1) h rfl
    | true =>
      obtain ⟨b, rfl⟩ := gS_at h2
      obtain ⟨I2, b1, r2⟩ := M_woL (g := g) (N := N) (sw := sw) (lv := lv) (L := L) h ht b x2 (t_n T) 0 am_u _ (by omega) (mR_0 h)
      simp only [cond_true]
      rw [sdb_sd]
      exact oM_r r2 b1
/-- on how many two agree -/
def t_lk (T : tr_T) (a b : Nat) : Int32 := 6 - Int32.ofNat (b_pc (t_op T a ^^^ t_op T b))
theorem t_opx {T : tr_T} (ht : t_ok T) {a b : Nat} (ha : a < t_n T) (hb : b < t_n T) : t_op T a ^^^ t_op T b < 256 := by
  have := t_op_lt ht ha
  have := t_op_lt ht hb
  exact Nat.xor_lt_two_pow (n := 8) (by omega) (by omega)
theorem C_like (hr : rC 99 T I) (ht : t_ok T) {a b : Nat} (ha : a < t_n T) (hb : b < t_n T) : g_Ca_likeOpinions I (Int32.ofNat a) (Int32.ofNat b) = true ∧ v_Ca_likeOpinions I (Int32.ofNat a) (Int32.ofNat b) = t_lk T a b := by
  obtain ⟨a1, a2⟩ := rC_op hr ht ha
  obtain ⟨b1, b2⟩ := rC_op hr ht hb
  have h1 := t_op_lt ht ha
  have h2 := t_op_lt ht hb
  unfold g_Ca_likeOpinions v_Ca_likeOpinions t_lk
  rw [a1, a2, b1, b2, bt_xor _ (by omega) _ (by omega), b_pc_c _ (t_opx ht ha hb)]
  exact ⟨rfl, rfl⟩
theorem M_like (hr : rM T I) (ht : t_ok T) {a b : Nat} (ha : a < t_n T) (hb : b < t_n T) : am_R 238 2 0 [.ref 147, .int (Int32.ofNat a), .int (Int32.ofNat b)] [] (am_hp g N sw lv I L) = some (.inl (some (.int (t_lk T a b))), am_hp g N sw lv I L) := by
  obtain ⟨a1, a2⟩ := rM_op hr ht ha
  obtain ⟨b1, b2⟩ := rM_op hr ht hb
  have h1 := t_op_lt ht ha
  have h2 := t_op_lt ht hb
  rw [y_Mo_agreeOf_0 _ _, a1, a2, b1, b2, bt_xor _ (by omega) _ (by omega), m_bits (t_opx ht ha hb), am_bd_ok, am_tl, y_Mo_agreeOf_16 _ _ _ _]
  rfl
def sp_agree (T : tr_T) (x1 x2 : Int32) : a_O := cond (gH (t_n T) x1) (cond (gH (t_n T) x2) (.inl (t_lk T x1.toNatClampNeg x2.toNatClampNeg)) (.inr 0)) (.inr 0)
theorem C_agree (h : cC E mb T sw I) (ht : t_ok T) (x1 x2 : Int32) : oC g N sw lv L I (am_R 112 3 0 [.ref 75, .int x1, .int x2] [] (am_hp g N sw lv I L)) (sp_agree T x1 x2) := by
  have hn := ht.1
  rw [y_Ca_agree_0 _ _, h.2.1.1, g_H, g_H]
  unfold sp_agree
  cases h1 : gH (t_n T) x1 with
  | false => exact oC_t rfl
  | true =>
    cases h2 : gH (t_n T) x2 with
    | false => exact oC_t rfl
    | true =>
      obtain ⟨k, hk, rfl⟩ := gH_at hn h1
      obtain ⟨j, hj, rfl⟩ := gH_at hn h2
      obtain ⟨l1, l2⟩ := C_like h.2.1 ht hk hj
      simp only [cond_true]
      rw [nb_tn (show k < 100000 by omega), nb_tn (show j < 100000 by omega), l1, l2]
      exact oC_v zf_rfl rfl
theorem M_agree (h : cM E mb T I) (ht : t_ok T) (x1 x2 : Int32) : oM g N sw lv L T I k1 (am_R 237 3 0 [.ref 147, .int x1, .int x2] [] (am_hp g N sw lv I L)) (sp_agree T x1 x2) := by
  have hn := ht.1
  have h4 := cM_4 h 0
  obtain ⟨q1, q2⟩ := m_H h4.2.1 ht x1
  obtain ⟨q3, q4⟩ := m_H h4.2.1 ht x2
  rw [y_Mo_agree_0 _ _, q1, q2, q3, q4]
  unfold sp_agree
  cases h1 : gH (t_n T) x1 with
  | false => exact oM_t (c := 0) h rfl
  | true =>
    cases h2 : gH (t_n T) x2 with
    | false => exact oM_t (c := 0) h rfl
    | true =>
      obtain ⟨k, hk, rfl⟩ := gH_at hn h1
      obtain ⟨j, hj, rfl⟩ := gH_at hn h2
      simp only [cond_true]
      rw [d_f (by decide : ¬ (1 : Int32) = 0), d_f (by decide : ¬ (1 : Int32) = 0), nb_tn (show k < 100000 by omega), nb_tn (show j < 100000 by omega), M_like h4.2.1 ht hk hj, am_bd_ok, am_tl, y_Mo_agree_27 _ _ _]
      exact oM_v h rfl
def t_py (T : tr_T) (h : Nat) (m : Int32) (k : Nat) : Bool := !decide (t_lk T h k < m)
def sp_party (T : tr_T) (x1 x2 : Int32) : a_O := cond (gH (t_n T) x1) (cond (gI 0 6 x2) (.inl (Int32.ofNat (bs (t_n T) (t_py T x1.toNatClampNeg x2)))) (.inr 1)) (.inr 0)
theorem C_paL (hr : rC 99 T I) (ht : t_ok T) {h : Nat} (hh : h < t_n T) (m : Int32) : ∀ c k, k + c = t_n T → am_R 114 3 30 [.ref 75, .int (Int32.ofNat h), .int m, .int (Int32.ofNat (bs k (t_py T h m))), .int (Int32.ofNat k)] [] (am_hp g N sw lv I L) = some (.inl (some (.int (Int32.ofNat (bs (t_n T) (t_py T h m))))), am_hp g N sw lv I L)
  | 0, k, hc => by
    have hn := ht.1
    rw [y_Ca_party_30 _ _ _ _, hr.1, nb_dle (by omega) (by omega), d_t (by omega : t_n T ≤ k), show k = t_n T by omega]
  | c + 1, k, hc => by
    have hn := ht.1
    have ih := C_paL hr ht hh m c (k + 1) (by omega)
    obtain ⟨l1, l2⟩ := C_like hr ht hh (show k < t_n T by omega)
    rw [y_Ca_party_30 _ _ _ _, hr.1, nb_dle (by omega) (by omega), d_f (by omega : ¬ t_n T ≤ k), l1, l2, nb_s, bt_on _ (bs_256 (by omega)) _ (by omega)]
    cases hl : decide (t_lk T h k < m) with
    | true =>
      rw [bs_f (P := t_py T h m) (show t_py T h m k = false by unfold t_py; rw [hl]; rfl)] at ih
      exact ih
    | false =>
      rw [bs_t (P := t_py T h m) (show t_py T h m k = true by unfold t_py; rw [hl]; rfl)] at ih
      exact ih
theorem C_party (h : cC E mb T sw I) (ht : t_ok T) (x1 x2 : Int32) : oC g N sw lv L I (am_R 114 3 0 [.ref 75, .int x1, .int x2, am_u, am_u] [] (am_hp g N sw lv I L)) (sp_party T x1 x2) := by
  have hn := ht.1
  rw [y_Ca_party_0 _ _, h.2.1.1, g_H, g_I]
  unfold sp_party
  cases h1 : gH (t_n T) x1 with
  | false => exact oC_t rfl
  | true =>
    cases h2 : gI 0 6 x2 with
    | false => exact oC_t rfl
    | true =>
      obtain ⟨k, hk, rfl⟩ := gH_at hn h1
      simp only [cond_true]
      rw [nb_tn (show k < 100000 by omega)]
      exact oC_v zf_rfl (C_paL h.2.1 ht hk x2 (t_n T) 0 (by omega))
theorem M_paL (hr : rM T I) (ht : t_ok T) {h : Nat} (hh : h < t_n T) (m : Int32) : ∀ c k, k + c = t_n T → am_R 239 3 42 [.ref 147, .int (Int32.ofNat h), .int m, .int (Int32.ofNat (bs k (t_py T h m))), .int (Int32.ofNat k)] [] (am_hp g N sw lv I L) = some (.inl (some (.int (Int32.ofNat (bs (t_n T) (t_py T h m))))), am_hp g N sw lv I L)
  | 0, k, hc => by
    have hn := ht.1
    rw [y_Mo_party_42 _ _ _ _, hr.1, nb_dle (by omega) (by omega), d_t (by omega : t_n T ≤ k), show k = t_n T by omega]
  | c + 1, k, hc => by
    have hn := ht.1
    have ih := M_paL hr ht hh m c (k + 1) (by omega)
    rw [y_Mo_party_42 _ _ _ _, hr.1, nb_dle (by omega) (by omega), d_f (by omega : ¬ t_n T ≤ k), M_like hr ht hh (show k < t_n T by omega), am_bd_ok, am_tl, y_Mo_party_61 _ _ _ _ _ _, nb_s, bt_on _ (bs_256 (by omega)) _ (by omega), Int32.or_zero]
    cases hl : decide (t_lk T h k < m) with
    | true =>
      rw [bs_f (P := t_py T h m) (show t_py T h m k = false by unfold t_py; rw [hl]; rfl)] at ih
      exact ih
    | false =>
      rw [bs_t (P := t_py T h m) (show t_py T h m k = true by unfold t_py; rw [hl]; rfl)] at ih
      exact ih
theorem M_party (h : cM E mb T I) (ht : t_ok T) (x1 x2 : Int32) : oM g N sw lv L T I k12 (am_R 239 3 0 [.ref 147, .int x1, .int x2, am_u, am_u] [] (am_hp g N sw lv I L)) (sp_party T x1 x2) := by
  have hn := ht.1
  have h4 := cM_4 h 0
  obtain ⟨q1, q2⟩ := m_H h4.2.1 ht x1
  rw [y_Mo_party_0 _ _, q1, q2, m_inL (a := 0) (b := 6) (by decide) (by decide)]
  unfold sp_party
  cases h1 : gH (t_n T) x1 with
  | false => exact oM_t (c := 0) h rfl
  | true =>
    cases h2 : gI 0 6 x2 with
    | false => exact oM_t (c := 1) h rfl
    | true =>
      obtain ⟨k, hk, rfl⟩ := gH_at hn h1
      simp only [cond_true]
      rw [d_f (by decide : ¬ (1 : Int32) = 0), d_f (by decide : ¬ (1 : Int32) = 0), nb_tn (show k < 100000 by omega)]
      exact oM_v h (M_paL h4.2.1 ht hk x2 (t_n T) 0 (by omega))
def sp_neighbour (T : tr_T) (x1 x2 : Int32) : a_O := cond (gH (t_n T) x1) (cond (gS x2) (.inl (oi (t_nx T (sdb x2) x1.toNatClampNeg))) (.inr 1)) (.inr 0)
theorem C_neighbour (h : cC E mb T sw I) (ht : t_ok T) (x1 x2 : Int32) : oC g N sw lv L I (am_R 123 2 0 [.ref 75, .int x1, .int x2] [] (am_hp g N sw lv I L)) (sp_neighbour T x1 x2) := by
  have hn := ht.1
  rw [y_Ca_neighbour_0 _ _, h.2.1.1, g_S, g_H]
  unfold sp_neighbour
  cases h1 : gH (t_n T) x1 with
  | false => exact oC_t rfl
  | true =>
    cases h2 : gS x2 with
    | false => exact oC_t rfl
    | true =>
      obtain ⟨k, hk, rfl⟩ := gH_at hn h1
      obtain ⟨b, rfl⟩ := gS_at h2
      simp only [cond_true]
      rw [nb_tn (show k < 100000 by omega), sdb_sd, rC_next a_99 h.2.1 ht b hk, am_bd_ok, am_tl, y_Ca_neighbour_18 _ _ _]
      exact oC_v zf_rfl rfl
theorem M_neighbour (h : cM E mb T I) (ht : t_ok T) (x1 x2 : Int32) : oM g N sw lv L T I k12 (am_R 245 4 0 [.ref 147, .int x1, .int x2] [] (am_hp g N sw lv I L)) (sp_neighbour T x1 x2) := by
  have hn := ht.1
  have h4 := cM_4 h 0
  obtain ⟨q1, q2⟩ := m_H h4.2.1 ht x1
  rw [y_Mo_neighbour_0 _ _, q1, q2, m_S]
  unfold sp_neighbour
  cases h1 : gH (t_n T) x1 with
  | false => exact oM_t (c := 0) h rfl
  | true =>
    cases h2 : gS x2 with
    | false => exact oM_t (c := 1) h rfl
    | true =>
      obtain ⟨k, hk, rfl⟩ := gH_at hn h1
      obtain ⟨b, rfl⟩ := gS_at h2
      simp only [cond_true]
      rw [d_f (by decide : ¬ (1 : Int32) = 0), d_f (by decide : ¬ (1 : Int32) = 0), nb_tn (show k < 100000 by omega), sdb_sd, rM_next h4.2.1 ht b hk, am_bd_ok, am_tl, y_Mo_neighbour_32 _ _ _]
      exact oM_v h rfl
/-- the middle one: k from seat j on, x still ahead -/
def t_mi (T : tr_T) : Nat → Nat → Int32 → Int32
  | 0, _, _ => -1
  | c + 1, k, x => cond (t_up T (t_hd T k)) (cond (decide (x = 0)) (Int32.ofNat (t_hd T k)) (t_mi T c (k + 1) (x + (-1)))) (t_mi T c (k + 1) x)
def sp_middle (T : tr_T) : a_O := .inl (t_mi T (t_n T) 0 ((Int32.ofNat (b_pc (t_s T)) - 1) / 2))
theorem C_miL (hr : rC 99 T I) (ht : t_ok T) : ∀ c k x, k + c = t_n T → am_R 47 2 17 [.ref 75, .int x, .int (Int32.ofNat k)] [] (am_hp g N sw lv I L) = some (.inl (some (.int (t_mi T c k x))), am_hp g N sw lv I L)
  | 0, k, x, hc => by
    have hn := ht.1
    rw [y_Ca_middle_17 _ _, hr.1, nb_dle (by omega) (by omega), d_t (by omega : t_n T ≤ k)]
    rfl
  | c + 1, k, x, hc => by
    have hn := ht.1
    have hk : k < t_n T := by omega
    rw [y_Ca_middle_17 _ _, hr.1, nb_dle (by omega) (by omega), d_f (by omega : ¬ t_n T ≤ k), nb_inb (show k < 8 by omega) (by omega), nb_tn (by omega), hr.2.2.2.2 k hk, rC_stands hr ht (ht.2.2.2.2 k hk).1, i_b0, nb_s]
    unfold t_mi
    cases t_up T (t_hd T k) with
    | false => exact C_miL hr ht c (k + 1) x (by omega)
    | true =>
      show cond (decide (x = 0)) _ _ = _
      cases decide (x = 0) with
      | true => rfl
      | false => exact C_miL hr ht c (k + 1) _ (by omega)
theorem C_middle (h : cC E mb T sw I) (ht : t_ok T) : oC g N sw lv L I (am_R 47 2 0 [.ref 75, am_u, am_u] [] (am_hp g N sw lv I L)) (sp_middle T) := by
  have hn := ht.1
  rw [y_Ca_middle_0, h.2.1.2.2.1, b_pc_c _ (b_256 hn ht.2.1)]
  exact oC_v zf_rfl (C_miL h.2.1 ht (t_n T) 0 _ (by omega))
theorem M_miL (hr : rM T I) (ht : t_ok T) : ∀ c k x, k + c = t_n T → am_R 244 3 19 [.ref 147, .int x, .int (Int32.ofNat k)] [] (am_hp g N sw lv I L) = some (.inl (some (.int (t_mi T c k x))), am_hp g N sw lv I L)
  | 0, k, x, hc => by
    have hn := ht.1
    rw [y_Mo_middle_19 _ _, hr.1, nb_dle (by omega) (by omega), d_t (by omega : t_n T ≤ k)]
    rfl
  | c + 1, k, x, hc => by
    have hn := ht.1
    have hk : k < t_n T := by omega
    rw [y_Mo_middle_19 _ _, hr.1, nb_dle (by omega) (by omega), d_f (by omega : ¬ t_n T ≤ k), nb_inb (show k < 8 by omega) (by omega), nb_tn (by omega), hr.2.2.2.2 k hk, rM_stands hr ht (ht.2.2.2.2 k hk).1, i_b0, nb_s]
    unfold t_mi
    cases t_up T (t_hd T k) with
    | false => exact M_miL hr ht c (k + 1) x (by omega)
    | true =>
      show cond (decide (x = 0)) _ _ = _
      cases decide (x = 0) with
      | true => rfl
      | false => exact M_miL hr ht c (k + 1) _ (by omega)
theorem M_middle (h : cM E mb T I) (ht : t_ok T) : oM g N sw lv L T I k1 (am_R 244 3 0 [.ref 147, am_u, am_u] [] (am_hp g N sw lv I L)) (sp_middle T) := by
  have hn := ht.1
  have h4 := cM_4 h 0
  rw [y_Mo_middle_0, rM_standing h4.2.1 ht, m_bits (b_256 hn ht.2.1), am_bd_ok, am_tl, y_Mo_middle_12 _]
  exact oM_v h (M_miL h4.2.1 ht (t_n T) 0 _ (by omega))
/-- how many stand from seat k on, c seats -/
def t_bw (T : tr_T) (k c : Nat) : Nat := ct c (fun i => t_up T (t_hd T (k + i)))
def sp_between (T : tr_T) (x1 x2 : Int32) : a_O := cond (gH (t_n T) x1) (cond (gH (t_n T) x2) (.inl (Int32.ofNat (t_bw T (min (t_st T x1.toNatClampNeg) (t_st T x2.toNatClampNeg) + 1) (max (t_st T x1.toNatClampNeg) (t_st T x2.toNatClampNeg) - (min (t_st T x1.toNatClampNeg) (t_st T x2.toNatClampNeg) + 1))))) (.inr 0)) (.inr 0)
theorem nb_min {a b : Nat} (ha : a < 100) (hb : b < 100) : v_Ma_min (Int32.ofNat a) (Int32.ofNat b) = Int32.ofNat (min a b) := by
  refine Int32.toInt_inj.mp ?_
  rw [i_min, nb_ti (by omega), nb_ti (by omega), nb_ti (by omega)]
  omega
theorem nb_max {a b : Nat} (ha : a < 100) (hb : b < 100) : v_Ma_max (Int32.ofNat a) (Int32.ofNat b) = Int32.ofNat (max a b) := by
  refine Int32.toInt_inj.mp ?_
  rw [i_max, nb_ti (by omega), nb_ti (by omega), nb_ti (by omega)]
  omega
theorem C_bwL (hr : rC 99 T I) (ht : t_ok T) (x1 x2 x3 : Int32) {l m : Nat} (hl : l < 100) (hmn : m ≤ t_n T) : ∀ c k, k + c = m - l → am_R 124 2 63 [.ref 75, .int x1, .int x2, .int x3, .int (Int32.ofNat m), .int (Int32.ofNat (t_bw T l k)), .int (Int32.ofNat (l + k))] [] (am_hp g N sw lv I L) = some (.inl (some (.int (Int32.ofNat (t_bw T l (m - l))))), am_hp g N sw lv I L)
  | 0, k, hc => by
    have hn := ht.1
    rw [y_Ca_between_63 _ _ _ _ _ _, nb_dle (by omega) (by omega), d_t (by omega : m ≤ l + k), show k = m - l by omega]
  | c + 1, k, hc => by
    have hn := ht.1
    have ih := C_bwL hr ht x1 x2 x3 hl hmn c (k + 1) (by omega)
    rw [y_Ca_between_63 _ _ _ _ _ _, nb_dle (by omega) (by omega), d_f (by omega : ¬ m ≤ l + k), nb_inb (show l + k < 8 by omega) (by omega), nb_tn (by omega), hr.2.2.2.2 (l + k) (by omega), rC_stands hr ht (ht.2.2.2.2 (l + k) (by omega)).1, i_b0, nb_s, nb_s]
    have hf : t_bw T l (k + 1) = t_bw T l k + cond (t_up T (t_hd T (l + k))) 1 0 := rfl
    rw [hf] at ih
    cases hu : t_up T (t_hd T (l + k)) with
    | false =>
      rw [hu] at ih
      exact ih
    | true =>
      rw [hu] at ih
      exact ih
theorem C_between (h : cC E mb T sw I) (ht : t_ok T) (x1 x2 : Int32) : oC g N sw lv L I (am_R 124 2 0 [.ref 75, .int x1, .int x2, am_u, am_u, am_u, am_u] [] (am_hp g N sw lv I L)) (sp_between T x1 x2) := by
  have hn := ht.1
  rw [y_Ca_between_0 _ _, h.2.1.1, g_H, g_H]
  unfold sp_between
  cases h1 : gH (t_n T) x1 with
  | false => exact oC_t rfl
  | true =>
    cases h2 : gH (t_n T) x2 with
    | false => exact oC_t rfl
    | true =>
      obtain ⟨k, hk, rfl⟩ := gH_at hn h1
      obtain ⟨j, hj, rfl⟩ := gH_at hn h2
      have sk := (ht.2.2.2.1 k hk).2.2.2.2.1
      have sj := (ht.2.2.2.1 j hj).2.2.2.2.1
      simp only [cond_true]
      rw [nb_inb (show k < 8 by omega) (by omega), nb_inb (show j < 8 by omega) (by omega), nb_tn (show k < 100000 by omega), nb_tn (show j < 100000 by omega), (h.2.1.2.2.2.1 k hk).2.2.2.2, (h.2.1.2.2.2.1 j hj).2.2.2.2, nb_min (by omega) (by omega), nb_max (by omega) (by omega), nb_s]
      exact oC_v zf_rfl (C_bwL h.2.1 ht _ _ _ (l := min (t_st T k) (t_st T j) + 1) (m := max (t_st T k) (t_st T j)) (by omega) (by omega) (max (t_st T k) (t_st T j) - (min (t_st T k) (t_st T j) + 1)) 0 (by omega))
theorem M_bwL (hr : rM T I) (ht : t_ok T) {a b : Nat} (ha : a < t_n T) (hb : b < t_n T) {l : Nat} (hl : l < 100) : ∀ c k, k + c = max (t_st T a) (t_st T b) - l → am_R 248 3 46 [.ref 147, .int (Int32.ofNat a), .int (Int32.ofNat b), .int (Int32.ofNat (t_bw T l k)), .int (Int32.ofNat (l + k))] [] (am_hp g N sw lv I L) = some (.inl (some (.int (Int32.ofNat (t_bw T l (max (t_st T a) (t_st T b) - l))))), am_hp g N sw lv I L)
  | 0, k, hc => by
    have hn := ht.1
    have sk := (ht.2.2.2.1 a ha).2.2.2.2.1
    have sj := (ht.2.2.2.1 b hb).2.2.2.2.1
    rw [y_Mo_between_46 _ _ _ _, rM_seat hr ht ha, am_bd_ok, am_tl, y_Mo_between_53 _ _ _ _ _ _, rM_seat hr ht hb, am_bd_ok, am_tl, y_Mo_between_58 _ _ _ _ _ _ _, nb_max (by omega) (by omega), nb_dle (by omega) (by omega), d_t (by omega : max (t_st T a) (t_st T b) ≤ l + k), show k = max (t_st T a) (t_st T b) - l by omega]
  | c + 1, k, hc => by
    have hn := ht.1
    have sk := (ht.2.2.2.1 a ha).2.2.2.2.1
    have sj := (ht.2.2.2.1 b hb).2.2.2.2.1
    have ih := M_bwL hr ht ha hb hl c (k + 1) (by omega)
    rw [y_Mo_between_46 _ _ _ _, rM_seat hr ht ha, am_bd_ok, am_tl, y_Mo_between_53 _ _ _ _ _ _, rM_seat hr ht hb, am_bd_ok, am_tl, y_Mo_between_58 _ _ _ _ _ _ _, nb_max (by omega) (by omega), nb_dle (by omega) (by omega), d_f (by omega : ¬ max (t_st T a) (t_st T b) ≤ l + k), nb_inb (show l + k < 8 by omega) (by omega), nb_tn (by omega), hr.2.2.2.2 (l + k) (by omega), rM_stands hr ht (ht.2.2.2.2 (l + k) (by omega)).1, i_b0, nb_s, nb_s, Int32.add_zero]
    have hf : t_bw T l (k + 1) = t_bw T l k + cond (t_up T (t_hd T (l + k))) 1 0 := rfl
    rw [hf] at ih
    cases hu : t_up T (t_hd T (l + k)) with
    | false =>
      rw [hu] at ih
      exact ih
    | true =>
      rw [hu] at ih
      exact ih
theorem M_between (h : cM E mb T I) (ht : t_ok T) (x1 x2 : Int32) : oM g N sw lv L T I k1 (am_R 248 3 0 [.ref 147, .int x1, .int x2, am_u, am_u] [] (am_hp g N sw lv I L)) (sp_between T x1 x2) := by
  have hn := ht.1
  have h4 := cM_4 h 0
  obtain ⟨q1, q2⟩ := m_H h4.2.1 ht x1
  obtain ⟨q3, q4⟩ := m_H h4.2.1 ht x2
  rw [y_Mo_between_0 _ _, q1, q2, q3, q4]
  unfold sp_between
  cases h1 : gH (t_n T) x1 with
  | false => exact oM_t (c := 0) h rfl
  | true =>
    cases h2 : gH (t_n T) x2 with
    | false => exact oM_t (c := 0) h rfl
    | true =>
      obtain ⟨k, hk, rfl⟩ := gH_at hn h1
      obtain ⟨j, hj, rfl⟩ := gH_at hn h2
      have sk := (ht.2.2.2.1 k hk).2.2.2.2.1
      have sj := (ht.2.2.2.1 j hj).2.2.2.2.1
      simp only [cond_true]
      rw [d_f (by decide : ¬ (1 : Int32) = 0), d_f (by decide : ¬ (1 : Int32) = 0), nb_tn (show k < 100000 by omega), nb_tn (show j < 100000 by omega), rM_seat h4.2.1 ht hk, am_bd_ok, am_tl, y_Mo_between_34 _ _ _ _, rM_seat h4.2.1 ht hj, am_bd_ok, am_tl, y_Mo_between_39 _ _ _ _ _, nb_min (by omega) (by omega), nb_s]
      exact oM_v h (M_bwL h4.2.1 ht hk hj (l := min (t_st T k) (t_st T j) + 1) (by omega) (max (t_st T k) (t_st T j) - (min (t_st T k) (t_st T j) + 1)) 0 (by omega))
end OPE
