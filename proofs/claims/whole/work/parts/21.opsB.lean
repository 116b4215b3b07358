/-! CALLS: melted, count, head, seat, falls, tips, votes -/
theorem gI_ne {a b x : Int32} (h : gI a b x = false) {y : Int32} (hy : gI a b y = true) : ¬ x = y := fun q => by
  rw [q, hy] at h
  cases h
theorem t_dn_d {E : e_E} {T : tr_T} (ht : t_ok T) (hd : t_d T ≤ 1000) {k : Nat} (hk : k ≤ 50) : t_d (t_dn E k T) ≤ 1100 := by
  rw [(t_dn_ok ht (Int32.le_trans hd (by decide)) k hk).2.2]
  have h0 := ht.2.2.1.1
  rw [Int32.le_iff_toInt_le] at hd h0 ⊢
  have e3 : (1000 : Int32).toInt = 1000 := by decide
  have e4 : (1100 : Int32).toInt = 1100 := by decide
  have e0 : (0 : Int32).toInt = 0 := by decide
  have : (t_d T + Int32.ofNat k).toInt = (t_d T).toInt + k := by
    rw [Int32.toInt_add, nb_ti (by omega)]
    refine Int.bmod_eq_of_le ?_ ?_ <;> omega
  omega
theorem nb_ge40 {k : Nat} (hk : k < 100000) : decide ((40 : Int32) ≤ Int32.ofNat k) = decide (40 ≤ k) := nb_dle (a := 40) (by decide) hk
theorem nb_gt40 {k : Nat} (hk : k < 100000) : decide ((40 : Int32) < Int32.ofNat k) = decide (40 < k) := nb_dlt (a := 40) (by decide) hk
theorem nb_ge6 {k : Nat} (hk : k < 100000) : decide ((6 : Int32) ≤ Int32.ofNat k) = decide (6 ≤ k) := nb_dle (a := 6) (by decide) hk
theorem i_addsub {a b : Int32} : a + b - a = b := by rw [Int32.add_comm, Int32.add_sub_cancel]
theorem i_b2 : ∀ a b : Bool, decide ((cond a 1 0 : Int32) = cond b 1 0) = (a == b) := by decide
theorem i_b0 : ∀ a : Bool, decide ((cond a 1 0 : Int32) = 0) = !a := by decide
section OPB
variable {g N : Nat} {sw lv : Bool} {I : Nat → Nat → Int32} {L : Nat → Nat → Int64} {T : tr_T} {E : e_E} {mb : Nat}
/-- the reference tries: the row put by is T, the row is T1 -/
def mS (T T1 : tr_T) (I I1 : Nat → Nat → Int32) : Prop := rM T1 I1 ∧ pM 171 0 T I1 ∧ zM I I1 ∧ I1 147 37 = -1 ∧ I1 147 4 = 0
/-- the reference is back -/
def mR (T : tr_T) (I I1 : Nat → Nat → Int32) : Prop := rM T I1 ∧ zM I I1 ∧ I1 147 37 = -1 ∧ I1 147 4 = 0
theorem mR_0 (h : cM E mb T I) : mR T I (am_up I 147 (upd (I 147) 4 0)) := by
  have h1 := cM_4 h 0
  exact ⟨h1.2.1, zM_4 0, h1.2.2.1, by rw [up_same, upd_same]⟩
theorem cM_mR {I1 : Nat → Nat → Int32} (h : cM E mb T I) (r : mR T I I1) : cM E mb T I1 := cM_z h r.2.1 r.1 rfl r.2.2.1
theorem mR_tr {I1 I2 : Nat → Nat → Int32} (a : mR T I I1) (b : mR T I1 I2) : mR T I I2 := ⟨b.1, zM_tr a.2.1 b.2.1, b.2.2⟩
theorem oM_r {I1 : Nat → Nat → Int32} {k : Nat → Nat} {v : Int32} {x : Option am_Res} (r : mR T I I1) (e : x = some (.inl (some (.int v)), am_hp g N sw lv I1 L)) : oM g N sw lv L T I k x (.inl v) := ⟨v, _, e, r.1, r.2.1, r.2.2.1, rfl, r.2.2.2⟩
theorem mS_pk {I1 : Nat → Nat → Int32} (h : cM E mb T I) (ht : t_ok T) (r : mR T I I1) : ∃ I2, am_R 191 1 0 [.ref 147, .ref 171, .int 0, am_u, am_u] [] (am_hp g N sw lv I1 L) = some (.inl none, am_hp g N sw lv I2 L) ∧ mS T T I I2 := by
  obtain ⟨I0, a1, a2, a3, a4⟩ := M_pk (g := g) (N := N) (sw := sw) (lv := lv) (L := L) (cM_mR h r) ht
  refine ⟨I0, a1, a3.2.1, a2, zM_tr r.2.1 ⟨fun a q1 q2 => a4 a (by omega), fun j _ _ _ _ _ _ => by rw [a4 147 (by decide)]⟩, a3.2.2.1, ?_⟩
  rw [a4 147 (by decide)]
  exact r.2.2.2
theorem mS_day {T1 : tr_T} {I1 : Nat → Nat → Int32} (h : cM E mb T I) (s : mS T T1 I I1) (h1 : t_ok T1) : ∃ I2, am_R 193 6 0 [.ref 147, am_u, am_u] [] (am_hp g N sw lv I1 L) = some (.inl none, am_hp g N sw lv I2 L) ∧ mS T (t_day E (e_on E (t_d T1)) T1) I I2 := by
  obtain ⟨s1, s2, s3, s4, s5⟩ := s
  obtain ⟨I2, d1, d2, d3⟩ := rM_day (g := g) (N := N) (sw := sw) (lv := lv) (L := L) s1 h1 (cM_q h s3) (qM_heat (cM_q h s3) s1 h1 s4)
  refine ⟨I2, d1, d2, pM_fr s2 (d3.1 171 (by decide) (by decide) (by decide) (by decide) (by decide) (by decide)), zM_tr s3 (zM_fM d3), ?_, ?_⟩
  · rw [d3.2 37 (by decide) (by decide)]
    exact s4
  · rw [d3.2 4 (by decide) (by decide)]
    exact s5
theorem mS_days {T1 : tr_T} {I1 : Nat → Nat → Int32} (h : cM E mb T I) (s : mS T T1 I I1) (h1 : t_ok T1) (hd : t_d T1 ≤ 1100) {n : Nat} (hn : n ≤ 50) : ∃ I2, am_R 192 7 0 [.ref 147, .int (Int32.ofNat n), am_u] [] (am_hp g N sw lv I1 L) = some (.inl none, am_hp g N sw lv I2 L) ∧ mS T (t_dn E n T1) I I2 := by
  obtain ⟨s1, s2, s3, s4, s5⟩ := s
  obtain ⟨I2, d1, d2, d3⟩ := rM_days (g := g) (N := N) (sw := sw) (lv := lv) (L := L) s1 h1 (cM_q h s3) s4 hd hn
  refine ⟨I2, d1, d2, pM_fr s2 (d3.1 171 (by decide) (by decide) (by decide) (by decide) (by decide) (by decide)), zM_tr s3 (zM_fM d3), ?_, ?_⟩
  · rw [d3.2 37 (by decide) (by decide)]
    exact s4
  · rw [d3.2 4 (by decide) (by decide)]
    exact s5
theorem mS_back {T1 : tr_T} {I1 : Nat → Nat → Int32} (h : cM E mb T I) (ht : t_ok T) (s : mS T T1 I I1) : ∃ I2, am_R 214 1 0 [.ref 147, .ref 171, .int 0, am_u, am_u] [] (am_hp g N sw lv I1 L) = some (.inl none, am_hp g N sw lv I2 L) ∧ mR T I I2 := by
  obtain ⟨s1, s2, s3, s4, s5⟩ := s
  obtain ⟨I2, c1, c2, c3, c4, c5⟩ := M_back (g := g) (N := N) (sw := sw) (lv := lv) (L := L) (T' := T) h ht s2 s3 s4 s5
  exact ⟨I2, c1, c2, c3, c4, c5⟩
theorem rM_allSgL (hr : rM T I) (ht : t_ok T) : ∀ c k, k + c = t_n T → am_R 184 1 4 [.ref 147, .int (fd k (fun h a => cond ((2 ^ t_n T - 1).testBit h) (a + t_su T h) a) 0), .int (Int32.ofNat k)] [] (am_hp g N sw lv I L) = some (.inl (some (.int (t_sg T (2 ^ t_n T - 1)))), am_hp g N sw lv I L)
  | 0, k, hc => by
    have hn := ht.1
    rw [y_Mo_allSugar_4 _ _, hr.1, nb_dle (by omega) (by omega), d_t (by omega : t_n T ≤ k), show k = t_n T by omega]
    rfl
  | c + 1, k, hc => by
    have hn := ht.1
    have ih := rM_allSgL hr ht c (k + 1) (by omega)
    rw [fd, Nat.testBit_two_pow_sub_one, decide_eq_true (show k < t_n T by omega), cond_true] at ih
    rw [y_Mo_allSugar_4 _ _, hr.1, nb_dle (by omega) (by omega), d_f (by omega : ¬ t_n T ≤ k), c_t (nb_inb (by omega) (by omega)), nb_tn (by omega), (hr.2.2.2.1 k (by omega)).1, nb_s]
    exact ih
theorem rM_allSg (hr : rM T I) (ht : t_ok T) : am_R 184 1 0 [.ref 147, am_u, am_u] [] (am_hp g N sw lv I L) = some (.inl (some (.int (t_sg T (2 ^ t_n T - 1)))), am_hp g N sw lv I L) := by
  rw [y_Mo_allSugar_0]
  exact rM_allSgL hr ht (t_n T) 0 (by omega)
theorem M_melted (h : cM E mb T I) (ht : t_ok T) (hd : t_d T ≤ 1000) (x1 : Int32) : oM g N sw lv L T I k1 (am_R 223 8 0 [.ref 147, .int x1, am_u, am_u] [] (am_hp g N sw lv I L)) (sp_melted E T x1) := by
  rw [y_Mo_melted_0 _, m_inL (a := 0) (b := 40) (by decide) (by decide)]
  unfold sp_melted
  cases h2 : gI 0 40 x1 with
  | false => exact oM_t (c := 1) h rfl
  | true =>
    obtain ⟨d, hd2, rfl⟩ := gI_at (b := 40) (by decide) h2
    obtain ⟨I0, a1, s0⟩ := mS_pk (g := g) (N := N) (sw := sw) (lv := lv) (L := L) h ht (mR_0 h)
    obtain ⟨I1, b1, s1⟩ := mS_days (g := g) (N := N) (sw := sw) (lv := lv) (L := L) h s0 ht (Int32.le_trans hd (by decide)) (show d ≤ 50 by omega)
    obtain ⟨m1, m2, m3⟩ := t_dn_ok (E := E) ht (Int32.le_trans hd (by decide)) d (by omega)
    obtain ⟨I2, c1, r2⟩ := mS_back (g := g) (N := N) (sw := sw) (lv := lv) (L := L) h ht s1
    simp only [cond_true]
    rw [d_f (by decide : ¬ (1 : Int32) = 0), nb_tn (show d < 100000 by omega), a1, am_bd_ok, am_tn, y_Mo_melted_32 _, rM_allSg s0.1 ht, am_bd_ok, am_tl, y_Mo_melted_36 _ _, b1, am_bd_ok, am_tn, y_Mo_melted_42 _ _, rM_allSg s1.1 m1, am_bd_ok, am_tl, y_Mo_melted_47 _ _ _ _, c1, am_bd_ok, am_tn, y_Mo_melted_58 _ _ _, m2]
    exact oM_r r2 rfl
def sp_count (E : e_E) (T : tr_T) (ac se ta : Int32) (rf : Nat → Int32) (x : Int32) : a_O := cond (gI 0 11 x) (.inl (cond (decide (x = 0)) (Int32.ofNat (t_n T)) (cond (decide (x = 1)) (t_d T) (cond (decide (x = 2)) (e_on E (t_d T)) (cond (decide (x = 3)) (Int32.ofNat (t_s T)) (cond (decide (x = 4)) (Int32.ofNat (t_pg T)) (cond (decide (x = 5)) (t_sg T (2 ^ t_n T - 1)) (cond (decide (x = 6)) ac (cond (decide (x = 7)) se (cond (decide (x = 8)) ta (rf (x - 9).toNatClampNeg))))))))))) (.inr 0)
theorem x_9 : (Int32.ofNat 9 - 9).toNatClampNeg = 0 := by decide
theorem x_10 : (Int32.ofNat 10 - 9).toNatClampNeg = 1 := by decide
theorem x_11 : (Int32.ofNat 11 - 9).toNatClampNeg = 2 := by decide
theorem C_count (h : cC E mb T sw I) (ht : t_ok T) {ac se ta : Int32} {rf : Nat → Int32} (ha : I 119 1 = ac) (hs : I 121 3 = se) (hp : I 77 1 = ta) (hf : ∀ k, k < 3 → I 125 k = rf k) (x : Int32) : oC g N sw lv L I (am_R 84 5 0 [.ref 75, .int x] [] (am_hp g N sw lv I L)) (sp_count E T ac se ta rf x) := by
  rw [y_Ca_count_0 _, g_I]
  unfold sp_count
  cases h1 : gI 0 11 x with
  | false => exact oC_t rfl
  | true =>
    obtain ⟨k, hk, rfl⟩ := gI_at (b := 11) (by decide) h1
    obtain ⟨w1, w2⟩ := qC_heat h.1 ht.2.2.1.1 ht.2.2.1.2
    obtain ⟨I2, b1, b2⟩ := C_pgn (g := g) (N := N) (sw := sw) (lv := lv) (L := L) h.2.1 ht
    simp only [cond_true]
    rw [h.2.1.1, h.2.1.2.1, h.2.1.2.2.1, w1, w2, b1, rC_allSg a_99 h.2.1 ht, ha, hs, hp, am_bd_ok, am_bd_ok, am_tl, am_tl, y_Ca_count_102 _ _, y_Ca_count_110 _ _]
    match k, hk with
    | 0, _ => exact oC_v zf_rfl rfl
    | 1, _ => exact oC_v zf_rfl rfl
    | 2, _ => exact oC_v zf_rfl rfl
    | 3, _ => exact oC_v zf_rfl rfl
    | 4, _ => exact oC_v b2 rfl
    | 5, _ => exact oC_v zf_rfl rfl
    | 6, _ => exact oC_v zf_rfl rfl
    | 7, _ => exact oC_v zf_rfl rfl
    | 8, _ => exact oC_v zf_rfl rfl
    | 9, _ =>
      rw [x_9, hf 0 (by decide)]
      exact oC_v zf_rfl rfl
    | 10, _ =>
      rw [x_10, hf 1 (by decide)]
      exact oC_v zf_rfl rfl
    | 11, _ =>
      rw [x_11, hf 2 (by decide)]
      exact oC_v zf_rfl rfl
theorem M_count (h : cM E mb T I) (ht : t_ok T) {ac se ta : Int32} {rf : Nat → Int32} (ha : I 147 35 = ac) (hs : I 147 36 = se) (hp : I 147 16 = ta) (hf : ∀ k, k < 3 → I 160 k = rf k) (x : Int32) : oM g N sw lv L T I k1 (am_R 170 8 0 [.ref 147, .int x] [] (am_hp g N sw lv I L)) (sp_count E T ac se ta rf x) := by
  rw [y_Mo_count_0 _]
  unfold sp_count
  cases h1 : gI 0 11 x with
  | false =>
    rw [d_f (gI_ne h1 (y := 0) (by decide)), d_f (gI_ne h1 (y := 1) (by decide)), d_f (gI_ne h1 (y := 2) (by decide)), d_f (gI_ne h1 (y := 3) (by decide)), d_f (gI_ne h1 (y := 4) (by decide)), d_f (gI_ne h1 (y := 5) (by decide)), d_f (gI_ne h1 (y := 6) (by decide)), d_f (gI_ne h1 (y := 7) (by decide)), d_f (gI_ne h1 (y := 8) (by decide)), d_f (gI_ne h1 (y := 9) (by decide)), d_f (gI_ne h1 (y := 10) (by decide)), d_f (gI_ne h1 (y := 11) (by decide))]
    exact oM_t (c := 0) h rfl
  | true =>
    obtain ⟨k, hk, rfl⟩ := gI_at (b := 11) (by decide) h1
    have h4 := cM_4 h 0
    obtain ⟨w1, w2⟩ := qM_heat h4.1 h4.2.1 ht h4.2.2.1
    have e33 : (upd (I 147) 4 0) 33 = t_d T := (upd_ne (by decide)).trans h.2.1.2.1
    have e35 : (upd (I 147) 4 0) 35 = ac := (upd_ne (by decide)).trans ha
    have e36 : (upd (I 147) 4 0) 36 = se := (upd_ne (by decide)).trans hs
    have e16 : (upd (I 147) 4 0) 16 = ta := (upd_ne (by decide)).trans hp
    simp only [cond_true]
    rw [h.2.1.1, e33, e35, e36, e16, w1, w2, rM_standing h4.2.1 ht, rM_pg h4.2.1 ht, rM_allSg h4.2.1 ht, am_bd_ok, am_bd_ok, am_tl, am_tl, y_Mo_count_94 _ _, y_Mo_count_99 _ _]
    match k, hk with
    | 0, _ => exact oM_v h rfl
    | 1, _ => exact oM_v h rfl
    | 2, _ => exact oM_v h rfl
    | 3, _ => exact oM_v h rfl
    | 4, _ => exact oM_v h rfl
    | 5, _ => exact oM_v h rfl
    | 6, _ => exact oM_v h rfl
    | 7, _ => exact oM_v h rfl
    | 8, _ => exact oM_v h rfl
    | 9, _ =>
      rw [x_9, hf 0 (by decide)]
      exact oM_v h rfl
    | 10, _ =>
      rw [x_10, hf 1 (by decide)]
      exact oM_v h rfl
    | 11, _ =>
      rw [x_11, hf 2 (by decide)]
      exact oM_v h rfl
def tv_head (E : e_E) (mb : Nat) (T : tr_T) (k : Nat) (x : Int32) : Int32 := cond (decide (x = 0)) (t_su T k) (cond (decide (x = 1)) (e_al E k) (cond (decide (x = 2)) (t_le T k) (cond (decide (x = 3)) (Int32.ofNat (t_st T k)) (cond (decide (x = 4)) (cond (t_up T k) 1 0) (cond (decide (x = 5)) (cond (mb.testBit k) 1 0) (Int32.ofNat (t_op T k)))))))
def sp_head (E : e_E) (mb : Nat) (T : tr_T) (x1 x2 : Int32) : a_O := cond (gH (t_n T) x1) (cond (gI 0 6 x2) (.inl (tv_head E mb T x1.toNatClampNeg x2)) (.inr 0)) (.inr 0)
theorem C_head (h : cC E mb T sw I) (ht : t_ok T) (x1 x2 : Int32) : oC g N sw lv L I (am_R 88 2 0 [.ref 75, .int x1, .int x2] [] (am_hp g N sw lv I L)) (sp_head E mb T x1 x2) := by
  have hn := ht.1
  rw [y_Ca_head_0 _ _, h.2.1.1, g_H, g_I]
  unfold sp_head
  cases h1 : gH (t_n T) x1 with
  | false => exact oC_t rfl
  | true =>
    cases h3 : gI 0 6 x2 with
    | false => exact oC_t rfl
    | true =>
      obtain ⟨k, hk, rfl⟩ := gH_at hn h1
      obtain ⟨j, hj, rfl⟩ := gI_at (b := 6) (by decide) h3
      have hf := h.2.1.2.2.2.1 k hk
      obtain ⟨o1, o2⟩ := rC_op h.2.1 ht hk
      simp only [cond_true]
      rw [nb_inb (show k < 8 by omega) (by omega), nb_tn (show k < 100000 by omega), hf.1, h.1.1 k (by omega), hf.2.1, hf.2.2.2.2, rC_stands h.2.1 ht hk, h.2.2.1, bt_v mb h.2.2.2 k (by omega), o1, o2]
      unfold tv_head
      match j, hj with
      | 0, _ => exact oC_v zf_rfl rfl
      | 1, _ => exact oC_v zf_rfl rfl
      | 2, _ => exact oC_v zf_rfl rfl
      | 3, _ => exact oC_v zf_rfl rfl
      | 4, _ =>
        cases t_up T k
        · exact oC_v zf_rfl rfl
        · exact oC_v zf_rfl rfl
      | 5, _ => exact oC_v zf_rfl rfl
      | 6, _ => exact oC_v zf_rfl rfl
theorem M_head (h : cM E mb T I) (ht : t_ok T) (x1 x2 : Int32) : oM g N sw lv L T I k1 (am_R 185 3 0 [.ref 147, .int x1, .int x2] [] (am_hp g N sw lv I L)) (sp_head E mb T x1 x2) := by
  have hn := ht.1
  have h4 := cM_4 h 0
  obtain ⟨q1, q2⟩ := m_H h4.2.1 ht x1
  rw [y_Mo_head_0 _ _, q1, q2]
  unfold sp_head
  cases h1 : gH (t_n T) x1 with
  | false => exact oM_t (c := 0) h rfl
  | true =>
    simp only [cond_true]
    rw [d_f (by decide : ¬ (1 : Int32) = 0)]
    cases h3 : gI 0 6 x2 with
    | false =>
      rw [d_f (gI_ne h3 (y := 0) (by decide)), d_f (gI_ne h3 (y := 1) (by decide)), d_f (gI_ne h3 (y := 2) (by decide)), d_f (gI_ne h3 (y := 3) (by decide)), d_f (gI_ne h3 (y := 4) (by decide)), d_f (gI_ne h3 (y := 5) (by decide)), d_f (gI_ne h3 (y := 6) (by decide))]
      exact oM_t (c := 0) h rfl
    | true =>
      obtain ⟨k, hk, rfl⟩ := gH_at hn h1
      obtain ⟨j, hj, rfl⟩ := gI_at (b := 6) (by decide) h3
      have hf := h.2.1.2.2.2.1 k hk
      obtain ⟨o1, o2⟩ := rM_op h4.2.1 ht hk
      simp only [cond_true]
      rw [nb_inb (show k < 8 by omega) (by omega), nb_inb (show k < 16 by omega) (by omega), nb_tn (show k < 100000 by omega), hf.1, h.1.1 k (by omega) (by rw [h.2.1.1]; exact (nb_lt (by omega) (by omega)).mpr hk), hf.2.1, rM_seat h4.2.1 ht hk, rM_stands h4.2.1 ht hk, h.2.2.2 k hk, o1, o2, am_bd_ok, am_tl, y_Mo_head_90 _ _ _]
      unfold tv_head
      match j, hj with
      | 0, _ => exact oM_v h rfl
      | 1, _ => exact oM_v h rfl
      | 2, _ => exact oM_v h rfl
      | 3, _ => exact oM_v h rfl
      | 4, _ =>
        cases t_up T k
        · exact oM_v h rfl
        · exact oM_v h rfl
      | 5, _ => exact oM_v h rfl
      | 6, _ => exact oM_v h rfl
def sp_seat (T : tr_T) (x1 : Int32) : a_O := cond (gH (t_n T) x1) (.inl (Int32.ofNat (t_hd T x1.toNatClampNeg))) (.inr 0)
theorem C_seat (h : cC E mb T sw I) (ht : t_ok T) (x1 : Int32) : oC g N sw lv L I (am_R 90 1 0 [.ref 75, .int x1] [] (am_hp g N sw lv I L)) (sp_seat T x1) := by
  have hn := ht.1
  rw [y_Ca_seat_0 _, h.2.1.1, g_H]
  unfold sp_seat
  cases h1 : gH (t_n T) x1 with
  | false => exact oC_t rfl
  | true =>
    obtain ⟨k, hk, rfl⟩ := gH_at hn h1
    simp only [cond_true]
    rw [nb_inb (show k < 8 by omega) (by omega), nb_tn (show k < 100000 by omega), h.2.1.2.2.2.2 k hk]
    exact oC_v zf_rfl rfl
theorem M_seat (h : cM E mb T I) (ht : t_ok T) (x1 : Int32) : oM g N sw lv L T I k1 (am_R 187 3 0 [.ref 147, .int x1] [] (am_hp g N sw lv I L)) (sp_seat T x1) := by
  have hn := ht.1
  have h4 := cM_4 h 0
  obtain ⟨q1, q2⟩ := m_H h4.2.1 ht x1
  rw [y_Mo_seat_0 _, q1, q2]
  unfold sp_seat
  cases h1 : gH (t_n T) x1 with
  | false => exact oM_t (c := 0) h rfl
  | true =>
    obtain ⟨k, hk, rfl⟩ := gH_at hn h1
    simp only [cond_true]
    rw [d_f (by decide : ¬ (1 : Int32) = 0), nb_inb (show k < 8 by omega) (by omega), nb_tn (show k < 100000 by omega), h.2.1.2.2.2.2 k hk]
    exact oM_v h rfl
/-- when a head falls -/
def t_fl (E : e_E) (T : tr_T) (k : Nat) : Option Nat := fs (fun n => !t_up (t_dn E n T) k) 41 0
def sp_falls (E : e_E) (T : tr_T) (x1 : Int32) : a_O := cond (gH (t_n T) x1) (.inl (oi (t_fl E T x1.toNatClampNeg))) (.inr 0)
theorem C_fallsL (h : cC E mb T sw I) (ht : t_ok T) (hd : t_d T ≤ 1000) {k : Nat} (hk : k < t_n T) : ∀ c n (I1 : Nat → Nat → Int32), n + c = 40 → rC 109 (t_dn E n T) I1 → zf I I1 → oC g N sw lv L I (am_R 101 8 18 [.ref 75, .int (Int32.ofNat k), .int (Int32.ofNat n)] [] (am_hp g N sw lv I1 L)) (.inl (oi (fs (fun n => !t_up (t_dn E n T) k) (c + 1) n)))
  | 0, n, I1, hc, hr, z => by
    obtain ⟨m1, m2, m3⟩ := t_dn_ok (E := E) ht (Int32.le_trans hd (by decide)) n (by omega)
    rw [y_Ca_falls_18 _ _, nb_ge40 (by omega), d_t (by omega : 40 ≤ n), rC_stands hr m1 (by omega), hr.2.1, (cC_zf h z).2.1.2.1, m3, i_addsub]
    unfold fs
    cases t_up (t_dn E n T) k with
    | true => exact oC_v z rfl
    | false => exact oC_v z rfl
  | c + 1, n, I1, hc, hr, z => by
    obtain ⟨m1, m2, m3⟩ := t_dn_ok (E := E) ht (Int32.le_trans hd (by decide)) n (by omega)
    obtain ⟨I2, b1, b2, b3⟩ := C_more (g := g) (N := N) (lv := lv) (L := L) (cC_zf h z) hr m1 (t_dn_d ht hd (by omega)) (n := 1) (by decide)
    have ih := C_fallsL h ht hd hk c (n + 1) I2 (by omega) b2 (zf_tr z b3)
    rw [y_Ca_falls_18 _ _, nb_ge40 (by omega), d_f (by omega : ¬ 40 ≤ n), rC_stands hr m1 (by omega), hr.2.1, (cC_zf h z).2.1.2.1, m3, i_addsub]
    unfold fs
    cases hu : t_up (t_dn E n T) k with
    | false => exact oC_v z rfl
    | true =>
      rw [cond_true, d_f (by decide : ¬ (1 : Int32) = 0), show (.int 1 : Value) = .int (Int32.ofNat 1) from rfl, b1, am_bd_ok, am_tn, y_Ca_falls_47 _ _, nb_s]
      exact ih
theorem C_falls (h : cC E mb T sw I) (ht : t_ok T) (hd : t_d T ≤ 1000) (x1 : Int32) : oC g N sw lv L I (am_R 101 8 0 [.ref 75, .int x1, am_u] [] (am_hp g N sw lv I L)) (sp_falls E T x1) := by
  have hn := ht.1
  obtain ⟨I1, a1, a2, a3, -⟩ := C_cp h ht
  rw [y_Ca_falls_0 _, a1, h.2.1.1, g_H]
  unfold sp_falls
  cases h1 : gH (t_n T) x1 with
  | false => exact oC_t rfl
  | true =>
    obtain ⟨k, hk, rfl⟩ := gH_at hn h1
    simp only [cond_true]
    rw [nb_tn (show k < 100000 by omega), show (.int 0 : Value) = .int (Int32.ofNat 0) from rfl]
    exact C_fallsL h ht hd hk 40 0 I1 (by omega) a2 a3
theorem M_fallsL (h : cM E mb T I) (ht : t_ok T) (hd : t_d T ≤ 1000) {k : Nat} (hk : k < t_n T) : ∀ c n (I1 : Nat → Nat → Int32), n + c = 41 → mS T (t_dn E n T) I I1 → ∃ I2, am_R 218 7 13 [.ref 147, .int (Int32.ofNat k), .int (-1), .int (Int32.ofNat n)] [] (am_hp g N sw lv I1 L) = some (.inl (some (.int (oi (fs (fun n => !t_up (t_dn E n T) k) c n)))), am_hp g N sw lv I2 L) ∧ mR T I I2
  | 0, n, I1, hc, s => by
    obtain ⟨I2, c1, r2⟩ := mS_back (g := g) (N := N) (sw := sw) (lv := lv) (L := L) h ht s
    refine ⟨I2, ?_, r2⟩
    rw [y_Mo_fallsOf_13 _ _ _, nb_gt40 (by omega), d_t (by omega : 40 < n), c1, am_bd_ok, am_tn, y_Mo_fallsOf_53 _ _ _]
    rfl
  | c + 1, n, I1, hc, s => by
    obtain ⟨m1, m2, m3⟩ := t_dn_ok (E := E) ht (Int32.le_trans hd (by decide)) n (by omega)
    obtain ⟨I2, b1, s2⟩ := mS_day (g := g) (N := N) (sw := sw) (lv := lv) (L := L) h s m1
    rw [y_Mo_fallsOf_13 _ _ _, nb_gt40 (by omega), d_f (by omega : ¬ 40 < n), d_t rfl, rM_stands s.1 m1 (by omega), b1]
    unfold fs
    cases hu : t_up (t_dn E n T) k with
    | false =>
      obtain ⟨I3, c1, r3⟩ := mS_back (g := g) (N := N) (sw := sw) (lv := lv) (L := L) h ht s2
      refine ⟨I3, ?_, r3⟩
      rw [cond_false, d_t rfl, am_bd_ok, am_tn, y_Mo_fallsOf_38 _ _ _, y_Mo_fallsOf_13 _ _ _, d_f (nb_n1 (by omega)), Bool.cond_self, c1, am_bd_ok, am_tn, y_Mo_fallsOf_53 _ _ _]
      rfl
    | true =>
      obtain ⟨I3, e1, r3⟩ := M_fallsL h ht hd hk c (n + 1) I2 (by omega) s2
      refine ⟨I3, ?_, r3⟩
      rw [cond_true, d_f (by decide : ¬ (1 : Int32) = 0), am_bd_ok, am_tn, y_Mo_fallsOf_38 _ _ _, nb_s]
      exact e1
theorem M_fallsOf {I1 : Nat → Nat → Int32} (h : cM E mb T I) (ht : t_ok T) (hd : t_d T ≤ 1000) {k : Nat} (hk : k < t_n T) (r : mR T I I1) : ∃ I2, am_R 218 7 0 [.ref 147, .int (Int32.ofNat k), am_u, am_u] [] (am_hp g N sw lv I1 L) = some (.inl (some (.int (oi (t_fl E T k)))), am_hp g N sw lv I2 L) ∧ mR T I I2 := by
  obtain ⟨I2, a1, s2⟩ := mS_pk (g := g) (N := N) (sw := sw) (lv := lv) (L := L) h ht r
  obtain ⟨I3, b1, r3⟩ := M_fallsL (g := g) (N := N) (sw := sw) (lv := lv) (L := L) h ht hd hk 41 0 I2 (by omega) s2
  refine ⟨I3, ?_, r3⟩
  rw [y_Mo_fallsOf_0 _, a1, am_bd_ok, am_tn, y_Mo_fallsOf_9 _]
  exact b1
theorem M_falls (h : cM E mb T I) (ht : t_ok T) (hd : t_d T ≤ 1000) (x1 : Int32) : oM g N sw lv L T I k1 (am_R 217 8 0 [.ref 147, .int x1] [] (am_hp g N sw lv I L)) (sp_falls E T x1) := by
  have hn := ht.1
  have h4 := cM_4 h 0
  obtain ⟨q1, q2⟩ := m_H h4.2.1 ht x1
  rw [y_Mo_falls_0 _, q1, q2]
  unfold sp_falls
  cases h1 : gH (t_n T) x1 with
  | false => exact oM_t (c := 0) h rfl
  | true =>
    obtain ⟨k, hk, rfl⟩ := gH_at hn h1
    obtain ⟨I3, b1, r3⟩ := M_fallsOf (g := g) (N := N) (sw := sw) (lv := lv) (L := L) h ht hd hk (mR_0 h)
    simp only [cond_true]
    rw [d_f (by decide : ¬ (1 : Int32) = 0), nb_tn (show k < 100000 by omega), b1, am_bd_ok, am_tl, y_Mo_falls_18 _ _]
    exact oM_r r3 rfl
/-- when a question's lot turns -/
def t_ti (E : e_E) (T : tr_T) (q : Nat) : Option Nat := fs (fun n => !(t_ps (t_dn E n T) q == t_ps T q)) 40 1
def sp_tips (E : e_E) (T : tr_T) (x1 : Int32) : a_O := cond (gH 6 x1) (.inl (oi (t_ti E T x1.toNatClampNeg))) (.inr 0)
theorem C_tipsL (h : cC E mb T sw I) (ht : t_ok T) (hd : t_d T ≤ 1000) {q : Nat} (hq : q < 6) : ∀ c n (I1 : Nat → Nat → Int32), n + 1 + c = 41 → rC 109 (t_dn E n T) I1 → zf I I1 → oC g N sw lv L I (am_R 103 8 26 [.ref 75, .int (Int32.ofNat q), .int (cond (t_ps T q) 1 0), .int (Int32.ofNat (n + 1))] [] (am_hp g N sw lv I1 L)) (.inl (oi (fs (fun n => !(t_ps (t_dn E n T) q == t_ps T q)) c (n + 1))))
  | 0, n, I1, hc, hr, z => by
    rw [y_Ca_tips_26 _ _ _, nb_gt40 (by omega), d_t (by omega : 40 < n + 1)]
    exact oC_v z rfl
  | c + 1, n, I1, hc, hr, z => by
    obtain ⟨m1, m2, m3⟩ := t_dn_ok (E := E) ht (Int32.le_trans hd (by decide)) n (by omega)
    obtain ⟨n1, n2, n3⟩ := t_dn_ok (E := E) ht (Int32.le_trans hd (by decide)) (n + 1) (by omega)
    obtain ⟨I2, b1, b2, b3⟩ := C_more (g := g) (N := N) (lv := lv) (L := L) (cC_zf h z) hr m1 (t_dn_d ht hd (by omega)) (n := 1) (by decide)
    have ih := C_tipsL h ht hd hq c (n + 1) I2 (by omega) b2 (zf_tr z b3)
    have hp := rC_pass (g := g) (N := N) (sw := sw) (lv := lv) (L := L) (T := t_dn E (n + 1) T) a_109 b2 n1 (show q < 8 by omega)
    rw [y_Ca_tips_26 _ _ _, nb_gt40 (by omega), d_f (by omega : ¬ 40 < n + 1), show (.int 1 : Value) = .int (Int32.ofNat 1) from rfl, b1, am_bd_ok, am_tn, y_Ca_tips_44 _ _ _, hp, am_bd_ok, am_tl, y_Ca_tips_52 _ _ _ _, i_b2, nb_s]
    unfold fs
    cases hu : (t_ps (t_dn E (n + 1) T) q == t_ps T q) with
    | true => exact ih
    | false => exact oC_v (zf_tr z b3) rfl
theorem C_tips (h : cC E mb T sw I) (ht : t_ok T) (hd : t_d T ≤ 1000) (x1 : Int32) : oC g N sw lv L I (am_R 103 8 0 [.ref 75, .int x1, am_u, am_u] [] (am_hp g N sw lv I L)) (sp_tips E T x1) := by
  rw [y_Ca_tips_0 _, g_6]
  unfold sp_tips
  cases h1 : gH 6 x1 with
  | false => exact oC_t rfl
  | true =>
    obtain ⟨q, hq, rfl⟩ := gH_at (by decide) h1
    obtain ⟨I1, a1, a2, a3, -⟩ := C_cp h ht
    simp only [cond_true]
    rw [nb_tn (show q < 100000 by omega), rC_pass a_99 h.2.1 ht (show q < 8 by omega), am_bd_ok, am_tl, y_Ca_tips_12 _ _, a1]
    exact C_tipsL h ht hd hq 40 0 I1 (by omega) a2 a3
theorem M_tipsL (h : cM E mb T I) (ht : t_ok T) (hd : t_d T ≤ 1000) {q : Nat} (hq : q < 6) : ∀ c n (I1 : Nat → Nat → Int32), n + 1 + c = 41 → mS T (t_dn E n T) I I1 → ∃ I2, am_R 221 7 38 [.ref 147, .int (Int32.ofNat q), .int (cond (t_ps T q) 1 0), .int (-1), .int (Int32.ofNat (n + 1))] [] (am_hp g N sw lv I1 L) = some (.inl (some (.int (oi (fs (fun n => !(t_ps (t_dn E n T) q == t_ps T q)) c (n + 1))))), am_hp g N sw lv I2 L) ∧ mR T I I2
  | 0, n, I1, hc, s => by
    obtain ⟨I2, c1, r2⟩ := mS_back (g := g) (N := N) (sw := sw) (lv := lv) (L := L) h ht s
    refine ⟨I2, ?_, r2⟩
    rw [y_Mo_tips_38 _ _ _ _, nb_gt40 (by omega), d_t (by omega : 40 < n + 1), c1, am_bd_ok, am_tn, y_Mo_tips_81 _ _ _ _]
    rfl
  | c + 1, n, I1, hc, s => by
    obtain ⟨m1, m2, m3⟩ := t_dn_ok (E := E) ht (Int32.le_trans hd (by decide)) n (by omega)
    obtain ⟨n1, n2, n3⟩ := t_dn_ok (E := E) ht (Int32.le_trans hd (by decide)) (n + 1) (by omega)
    obtain ⟨I2, b1, s2⟩ := mS_day (g := g) (N := N) (sw := sw) (lv := lv) (L := L) h s m1
    have hp := rM_pass (g := g) (N := N) (sw := sw) (lv := lv) (L := L) (T := t_dn E (n + 1) T) s2.1 n1 (show q < 8 by omega)
    rw [y_Mo_tips_38 _ _ _ _, nb_gt40 (by omega), d_f (by omega : ¬ 40 < n + 1), d_t rfl, b1, am_bd_ok, am_tn, y_Mo_tips_54 _ _ _ _, hp, am_bd_ok, am_tl, y_Mo_tips_59 _ _ _ _ _, i_b2]
    unfold fs
    cases hu : (t_ps (t_dn E (n + 1) T) q == t_ps T q) with
    | true =>
      obtain ⟨I3, e1, r3⟩ := M_tipsL h ht hd hq c (n + 1) I2 (by omega) s2
      refine ⟨I3, ?_, r3⟩
      rw [nb_s]
      exact e1
    | false =>
      obtain ⟨I3, c1, r3⟩ := mS_back (g := g) (N := N) (sw := sw) (lv := lv) (L := L) h ht s2
      refine ⟨I3, ?_, r3⟩
      rw [cond_false, y_Mo_tips_38 _ _ _ _, d_f (nb_n1 (by omega)), Bool.cond_self, c1, am_bd_ok, am_tn, y_Mo_tips_81 _ _ _ _]
      rfl
theorem M_tips (h : cM E mb T I) (ht : t_ok T) (hd : t_d T ≤ 1000) (x1 : Int32) : oM g N sw lv L T I k1 (am_R 221 7 0 [.ref 147, .int x1, am_u, am_u, am_u] [] (am_hp g N sw lv I L)) (sp_tips E T x1) := by
  have h4 := cM_4 h 0
  obtain ⟨q1, q2⟩ := m_q x1
  rw [y_Mo_tips_0 _, q1, q2]
  unfold sp_tips
  cases h1 : gH 6 x1 with
  | false => exact oM_t (c := 0) h rfl
  | true =>
    obtain ⟨q, hq, rfl⟩ := gH_at (by decide) h1
    obtain ⟨I0, a1, s0⟩ := mS_pk (g := g) (N := N) (sw := sw) (lv := lv) (L := L) h ht (mR_0 h)
    obtain ⟨I3, b1, r3⟩ := M_tipsL (g := g) (N := N) (sw := sw) (lv := lv) (L := L) h ht hd hq 40 0 I0 (by omega) s0
    simp only [cond_true]
    rw [d_f (by decide : ¬ (1 : Int32) = 0), nb_tn (show q < 100000 by omega), rM_pass h4.2.1 ht (show q < 8 by omega), am_bd_ok, am_tl, y_Mo_tips_23 _ _, a1, am_bd_ok, am_tn, y_Mo_tips_33 _ _]
    exact oM_r r3 b1
def sp_votes (T : tr_T) (x1 x2 : Int32) : a_O := cond (gH 6 x1) (cond (gI 0 1 x2) (.inl (cond (decide (x2 = 0)) (Int32.ofNat (t_for T x1.toNatClampNeg)) (Int32.ofNat (t_s T) &&& (Int32.ofNat (t_for T x1.toNatClampNeg) ^^^ (-1))))) (.inr 0)) (.inr 0)
theorem C_votes (h : cC E mb T sw I) (ht : t_ok T) (x1 x2 : Int32) : oC g N sw lv L I (am_R 106 5 0 [.ref 75, .int x1, .int x2, am_u] [] (am_hp g N sw lv I L)) (sp_votes T x1 x2) := by
  rw [y_Ca_votes_0 _ _, g_6, g_I]
  unfold sp_votes
  cases h1 : gH 6 x1 with
  | false => exact oC_t rfl
  | true =>
    cases h3 : gI 0 1 x2 with
    | false => exact oC_t rfl
    | true =>
      obtain ⟨q, hq, rfl⟩ := gH_at (by decide) h1
      simp only [cond_true]
      rw [nb_tn (show q < 100000 by omega), rC_votF a_99 h.2.1 ht (show q < 8 by omega), am_bd_ok, am_tl, y_Ca_votes_17 _ _ _, h.2.1.2.2.1]
      cases decide (x2 = 0) with
      | true => exact oC_v zf_rfl rfl
      | false => exact oC_v zf_rfl rfl
theorem M_votes (h : cM E mb T I) (ht : t_ok T) (x1 x2 : Int32) : oM g N sw lv L T I k1 (am_R 226 6 0 [.ref 147, .int x1, .int x2] [] (am_hp g N sw lv I L)) (sp_votes T x1 x2) := by
  have h4 := cM_4 h 0
  obtain ⟨q1, q2⟩ := m_q x1
  rw [y_Mo_votes_0 _ _, q1, q2, m_inL (a := 0) (b := 1) (by decide) (by decide)]
  unfold sp_votes
  cases h1 : gH 6 x1 with
  | false => exact oM_t (c := 0) h rfl
  | true =>
    cases h3 : gI 0 1 x2 with
    | false => exact oM_t (c := 0) h rfl
    | true =>
      obtain ⟨q, hq, rfl⟩ := gH_at (by decide) h1
      simp only [cond_true]
      rw [d_f (by decide : ¬ (1 : Int32) = 0), d_f (by decide : ¬ (1 : Int32) = 0), nb_tn (show q < 100000 by omega), rM_for h4.2.1 ht (show q < 8 by omega), am_bd_ok, am_bd_ok, am_tl, am_tl, y_Mo_votes_37 _ _ _, y_Mo_votes_49 _ _ _ _, rM_standing h4.2.1 ht]
      cases decide (x2 = 0) with
      | true => exact oM_v h rfl
      | false => exact oM_v h rfl
end OPB
