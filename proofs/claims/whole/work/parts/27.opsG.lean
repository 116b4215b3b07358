/-! CALLS: toCast, better -/
theorem t_pg_lt (T : tr_T) : t_pg T < 256 := bs_256 (n := 6) (by decide)
section OPG
variable {g N : Nat} {sw lv : Bool} {I : Nat → Nat → Int32} {L : Nat → Nat → Int64} {T : tr_T} {E : e_E} {mb : Nat}
def tc_T (T : tr_T) (h m : Nat) : tr_T := t_put T (t_s T) (upd (t_su T) h (v_Ma_min 99 (t_su T h + Int32.ofNat m))) (t_le T)
def tc_P (E : e_E) (T : tr_T) (h d m : Nat) : Bool := t_up (t_dn E d (tc_T T h m)) h
def sp_toCast (E : e_E) (T : tr_T) (x1 x2 : Int32) : a_O := cond (gH (t_n T) x1) (cond (gI 0 40 x2) (.inl (oi (fs (tc_P E T x1.toNatClampNeg x2.toNatClampNeg) 51 0))) (.inr 1)) (.inr 0)
theorem tc_m : ∀ s, s < 100 → v_Ma_min 50 (99 - Int32.ofNat s) = Int32.ofNat (min 50 (99 - s)) := by decide +kernel
theorem tc_a {s m : Nat} (hs : s < 100) (hm : m < 100) : v_Ma_min 99 (Int32.ofNat s + Int32.ofNat m) = Int32.ofNat (min 99 (s + m)) := by
  rw [nb_add]
  unfold v_Ma_min
  by_cases h : s + m < 99
  · rw [show decide (Int32.ofNat (s + m) < 99) = decide (s + m < 99) from nb_dlt (b := 99) (by omega) (by omega), d_t h, Nat.min_eq_right (by omega)]
  · rw [show decide (Int32.ofNat (s + m) < 99) = decide (s + m < 99) from nb_dlt (b := 99) (by omega) (by omega), d_f h, Nat.min_eq_left (by omega)]
    rfl
theorem su_nat (ht : t_ok T) {h : Nat} (hh : h < t_n T) : ∃ s, s < 100 ∧ t_su T h = Int32.ofNat s := by
  obtain ⟨⟨s1, s2⟩, -⟩ := ht.2.2.2.1 h hh
  refine ⟨(t_su T h).toNatClampNeg, ?_, (nb_of s1).symm⟩
  rw [Int32.le_iff_toInt_le] at s2
  have e9 : (99 : Int32).toInt = 99 := by decide
  unfold Int32.toNatClampNeg
  omega
theorem tc_ok (ht : t_ok T) {h m : Nat} (hh : h < t_n T) (hm : m < 100) : t_ok (tc_T T h m) := by
  obtain ⟨s, hs, e⟩ := su_nat ht hh
  refine t_ok_put ht ht.2.1 (fun j hj => ?_) (fun j hj => (ht.2.2.2.1 j hj).2.1)
  by_cases q : j = h
  · rw [q, upd_same, e, tc_a hs hm]
    have : min 99 (s + m) < 100000 := by omega
    exact ⟨(nb_le (a := 0) (by omega) this).mpr (by omega), (nb_le (b := 99) this (by omega)).mpr (by omega)⟩
  · rw [upd_ne q]
    exact (ht.2.2.2.1 j hj).1
theorem tc_up {h d m : Nat} (q : tc_P E T h d m = true) : t_up T h = true := by
  have := t_up_dn (E := E) (T := tc_T T h m) (k := 0) (m := d) (j := h) (by omega) q
  exact this
theorem C_tcL (h : cC E mb T sw I) (ht : t_ok T) (hd : t_d T ≤ 1000) {k d : Nat} (hk : k < t_n T) (hd2 : d ≤ 40) : ∀ c m (I1 : Nat → Nat → Int32), m + c = 51 → zf I I1 → (∀ i, i < m → tc_P E T k d i = false) → ∃ I2, am_R 120 8 31 [.ref 75, .int (Int32.ofNat k), .int (Int32.ofNat d), .int (v_Ma_min 50 (99 - t_su T k)), .int (Int32.ofNat m)] [] (am_hp g N sw lv I1 L) = some (.inl (some (.int (oi (fs (tc_P E T k d) c m)))), am_hp g N sw lv I2 L) ∧ zf I I2
  | 0, m, I1, hc, z, hf => by
    obtain ⟨s, hs, es⟩ := su_nat ht hk
    refine ⟨I1, ?_, z⟩
    rw [y_Ca_toCast_31 _ _ _ _, es, tc_m s hs, nb_dlt (by omega) (by omega), d_t (by omega : min 50 (99 - s) < m)]
    rfl
  | c + 1, m, I1, hc, z, hf => by
    have hn := ht.1
    have hd1 : t_d T ≤ 1100 := Int32.le_trans hd (by decide)
    obtain ⟨s, hs, es⟩ := su_nat ht hk
    have h1 := cC_zf h z
    have hst := rC_stands h1.2.1 ht hk
    by_cases hM : min 50 (99 - s) < m
    · have hN : fs (tc_P E T k d) (c + 1) m = none := fs_none fun i q1 q2 => by
        have eT : tc_T T k i = tc_T T k (99 - s) := by
          unfold tc_T
          rw [es, tc_a hs (by omega), tc_a hs (by omega), Nat.min_eq_left (by omega), Nat.min_eq_left (by omega)]
        have := hf (99 - s) (by omega)
        unfold tc_P at this ⊢
        rw [eT]
        exact this
      refine ⟨I1, ?_, z⟩
      rw [y_Ca_toCast_31 _ _ _ _, es, tc_m s hs, nb_dlt (by omega) (by omega), d_t hM, hN]
      rfl
    · cases hu : t_up T k with
      | false =>
        have hN : fs (tc_P E T k d) (c + 1) m = none := fs_none fun i _ _ => by
          cases q : tc_P E T k d i with
          | false => rfl
          | true =>
            rw [tc_up q] at hu
            cases hu
        refine ⟨I1, ?_, z⟩
        rw [y_Ca_toCast_31 _ _ _ _, hst, hu, es, tc_m s hs, nb_dlt (by omega) (by omega), d_f hM, hN]
        rfl
      | true =>
        obtain ⟨I2, a1, a2, a3, a4, -⟩ := C_cp h1 ht
        have eT : tc_T T k m = t_put T (t_s T) (upd (t_su T) k (I2 110 k + Int32.ofNat m)) (t_le T) := by
          unfold tc_T
          rw [show I2 110 k = t_su T k from (a2.2.2.2.1 k hk).1, es, tc_a hs (by omega), nb_add, Nat.min_eq_right (by omega)]
        have w1 : rC 109 (tc_T T k m) (am_up I2 110 (upd (I2 110) k (I2 110 k + Int32.ofNat m))) := by
          rw [eT]
          exact rC_w1 (r := 109) a2 k _
        have z2 : zf I (am_up I2 110 (upd (I2 110) k (I2 110 k + Int32.ofNat m))) := zf_tr (zf_tr z a3) (fun a q => up_ne (by omega))
        have k0 := tc_ok ht hk (show m < 100 by omega)
        obtain ⟨I3, b1, b2, b3⟩ := C_more (g := g) (N := N) (lv := lv) (L := L) (cC_zf h z2) w1 k0 hd1 (n := d) (by omega)
        obtain ⟨m1, m2, m3⟩ := t_dn_ok (E := E) k0 hd1 d (by omega)
        have hk2 : k < t_n (t_dn E d (tc_T T k m)) := by
          rw [m2]
          exact hk
        have hs2 := rC_stands b2 m1 hk2
        have e53 : am_R 120 8 31 [.ref 75, .int (Int32.ofNat k), .int (Int32.ofNat d), .int (v_Ma_min 50 (99 - t_su T k)), .int (Int32.ofNat m)] [] (am_hp g N sw lv I1 L) = cond (tc_P E T k d m) (some (.inl (some (.int (Int32.ofNat m))), am_hp g N sw lv I3 L)) (am_R 120 8 31 [.ref 75, .int (Int32.ofNat k), .int (Int32.ofNat d), .int (v_Ma_min 50 (99 - t_su T k)), .int (Int32.ofNat (m + 1))] [] (am_hp g N sw lv I3 L)) := by
          rw [y_Ca_toCast_31 _ _ _ _, a1, ← a4, hst, hu, show decide (v_Ma_min 50 (99 - t_su T k) < Int32.ofNat m) = false from by rw [es, tc_m s hs, nb_dlt (by omega) (by omega), decide_eq_false hM], nb_inb (show k < 8 by omega) (by omega), nb_tn (show k < 100000 by omega), b1, am_bd_ok, am_tn, y_Ca_toCast_85 _ _ _ _, hs2, i_b0, nb_s]
          unfold tc_P
          cases t_up (t_dn E d (tc_T T k m)) k <;> rfl
        cases hP : tc_P E T k d m with
        | true =>
          refine ⟨I3, ?_, zf_tr z2 b3⟩
          rw [e53, hP]
          unfold fs
          rw [hP]
          rfl
        | false =>
          obtain ⟨I4, c1, c2⟩ := C_tcL h ht hd hk hd2 c (m + 1) I3 (by omega) (zf_tr z2 b3) (fun i hi => by
            by_cases q : i = m
            · rw [q]
              exact hP
            · exact hf i (by omega))
          refine ⟨I4, ?_, c2⟩
          have ef : fs (tc_P E T k d) (c + 1) m = fs (tc_P E T k d) c (m + 1) := by
            show cond (tc_P E T k d m) (some m) (fs (tc_P E T k d) c (m + 1)) = _
            rw [hP]
            rfl
          rw [e53, hP, cond_false, c1, ef]
theorem C_toCast (h : cC E mb T sw I) (ht : t_ok T) (hd : t_d T ≤ 1000) (x1 x2 : Int32) : oC g N sw lv L I (am_R 120 8 0 [.ref 75, .int x1, .int x2, am_u, am_u] [] (am_hp g N sw lv I L)) (sp_toCast E T x1 x2) := by
  have hn := ht.1
  rw [y_Ca_toCast_0 _ _, h.2.1.1, g_I, g_H]
  unfold sp_toCast
  cases h1 : gH (t_n T) x1 with
  | false => exact oC_t rfl
  | true =>
    cases h2 : gI 0 40 x2 with
    | false => exact oC_t rfl
    | true =>
      obtain ⟨k, hk, rfl⟩ := gH_at hn h1
      obtain ⟨d, hd2, rfl⟩ := gI_at (b := 40) (by decide) h2
      obtain ⟨I2, a1, a2⟩ := C_tcL (g := g) (N := N) (lv := lv) (L := L) h ht hd hk hd2 51 0 I (by omega) zf_rfl (fun i hi => by omega)
      simp only [cond_true]
      rw [nb_inb (show k < 8 by omega) (by omega), nb_tn (by omega), nb_tn (by omega), (show I 100 k = t_su T k from (h.2.1.2.2.2.1 k hk).1)]
      exact oC_v a2 a1
/-- the reference is back, its row still put by -/
theorem mS_bk {T1 : tr_T} {I1 : Nat → Nat → Int32} (h : cM E mb T I) (ht : t_ok T) (s : mS T T1 I I1) : ∃ I2, am_R 214 1 0 [.ref 147, .ref 171, .int 0, am_u, am_u] [] (am_hp g N sw lv I1 L) = some (.inl none, am_hp g N sw lv I2 L) ∧ mS T T I I2 := by
  obtain ⟨s1, s2, s3, s4, s5⟩ := s
  have h0 : I1 151 0 = Int32.ofNat (t_n T) := by rw [s3.1 151 (by decide) (by decide)]; exact h.2.1.1
  obtain ⟨I', a1, a2, a3, a4⟩ := M_un (g := g) (N := N) (sw := sw) (lv := lv) (L := L) ht h0 s2
  refine ⟨I', a1, a2, pM_fr s2 (a3 171 (by decide) (by decide) (by decide) (by decide) (by decide) (by decide)), zM_tr s3 ⟨fun a q1 q2 => a3 a q1 (by omega) (by omega) (by omega) (by omega) (by omega), fun j q1 q2 q3 q4 q5 q6 => a4 j q2 q3⟩, by rw [a4 37 (by decide) (by decide)]; exact s4, by rw [a4 4 (by decide) (by decide)]; exact s5⟩
theorem mS_mR {I1 : Nat → Nat → Int32} (s : mS T T I I1) : mR T I I1 := ⟨s.1, s.2.2.1, s.2.2.2.1, s.2.2.2.2⟩
theorem M_tcL (h : cM E mb T I) (ht : t_ok T) (hd : t_d T ≤ 1000) {k d : Nat} (hk : k < t_n T) (hd2 : d ≤ 40) : ∀ c m (I1 : Nat → Nat → Int32), m + c = 51 → mS T T I I1 → ∃ I2, am_R 225 8 51 [.ref 147, .int (Int32.ofNat k), .int (Int32.ofNat d), .int (-1), .int (Int32.ofNat m)] [] (am_hp g N sw lv I1 L) = some (.inl (some (.int (oi (fs (tc_P E T k d) c m)))), am_hp g N sw lv I2 L) ∧ mR T I I2
  | 0, m, I1, hc, s => by
    refine ⟨I1, ?_, mS_mR s⟩
    rw [y_Mo_toCast_51 _ _ _ _, show decide ((50 : Int32) < Int32.ofNat m) = decide (50 < m) from nb_dlt (a := 50) (by omega) (by omega), d_t (by omega : 50 < m)]
    rfl
  | c + 1, m, I1, hc, s => by
    have hn := ht.1
    have hd1 : t_d T ≤ 1100 := Int32.le_trans hd (by decide)
    have k0 := tc_ok ht hk (show m < 100 by omega)
    obtain ⟨s1, s2, s3, s4, s5⟩ := s
    have w1 : mS T (tc_T T k m) I (am_up I1 162 (upd (I1 162) k (v_Ma_min 99 (I1 162 k + Int32.ofNat m)))) := by
      refine ⟨?_, pM_fr s2 (up_ne (by decide)), zM_tr s3 ⟨fun a q1 q2 => up_ne (by omega), fun j _ _ _ _ _ _ => by rw [up_ne (by decide)]⟩, by rw [up_ne (by decide)]; exact s4, by rw [up_ne (by decide)]; exact s5⟩
      rw [(s1.2.2.2.1 k hk).1]
      exact rM_w1 s1 k _
    obtain ⟨I2, b1, t2⟩ := mS_days (g := g) (N := N) (sw := sw) (lv := lv) (L := L) h w1 k0 hd1 (n := d) (by omega)
    obtain ⟨m1, m2, m3⟩ := t_dn_ok (E := E) k0 hd1 d (by omega)
    have hk2 : k < t_n (t_dn E d (tc_T T k m)) := by
      rw [m2]
      exact hk
    obtain ⟨I3, c1, t3⟩ := mS_bk (g := g) (N := N) (sw := sw) (lv := lv) (L := L) h ht t2
    have e51 : am_R 225 8 51 [.ref 147, .int (Int32.ofNat k), .int (Int32.ofNat d), .int (-1), .int (Int32.ofNat m)] [] (am_hp g N sw lv I1 L) = am_R 225 8 51 [.ref 147, .int (Int32.ofNat k), .int (Int32.ofNat d), .int (cond (tc_P E T k d m) (Int32.ofNat m) (-1)), .int (Int32.ofNat (m + 1))] [] (am_hp g N sw lv I3 L) := by
      rw [y_Mo_toCast_51 _ _ _ _, show decide ((50 : Int32) < Int32.ofNat m) = decide (50 < m) from nb_dlt (a := 50) (by omega) (by omega), d_f (by omega : ¬ 50 < m), d_t rfl, nb_inb (show k < 8 by omega) (by omega), nb_tn (show k < 100000 by omega), cond_true, cond_true, b1, am_bd_ok, am_tn, y_Mo_toCast_88 _ _ _ _, rM_stands t2.1 m1 hk2, i_b0, c1, am_bd_ok, am_bd_ok, am_tn, y_Mo_toCast_108 _ _ _ _, y_Mo_toCast_108 _ _ _ _, nb_s]
      unfold tc_P
      cases t_up (t_dn E d (tc_T T k m)) k <;> rfl
    cases hP : tc_P E T k d m with
    | true =>
      refine ⟨I3, ?_, mS_mR t3⟩
      rw [e51, hP, cond_true, y_Mo_toCast_51 _ _ _ _, d_f (nb_n1 (by omega))]
      unfold fs
      rw [hP]
      cases decide ((50 : Int32) < Int32.ofNat (m + 1)) <;> rfl
    | false =>
      obtain ⟨I4, f1, f2⟩ := M_tcL h ht hd hk hd2 c (m + 1) I3 (by omega) t3
      refine ⟨I4, ?_, f2⟩
      have ef : fs (tc_P E T k d) (c + 1) m = fs (tc_P E T k d) c (m + 1) := by
        show cond (tc_P E T k d m) (some m) (fs (tc_P E T k d) c (m + 1)) = _
        rw [hP]
        rfl
      rw [e51, hP, cond_false, f1, ef]
theorem M_toCast (h : cM E mb T I) (ht : t_ok T) (hd : t_d T ≤ 1000) (x1 x2 : Int32) : oM g N sw lv L T I k12 (am_R 225 8 0 [.ref 147, .int x1, .int x2, am_u, am_u] [] (am_hp g N sw lv I L)) (sp_toCast E T x1 x2) := by
  have hn := ht.1
  obtain ⟨q1, q2⟩ := m_H (cM_4 h 0).2.1 ht x1
  rw [y_Mo_toCast_0 _ _, q1, q2, m_inL (a := 0) (b := 40) (by decide) (by decide)]
  unfold sp_toCast
  cases h1 : gH (t_n T) x1 with
  | false => exact oM_t (c := 0) h rfl
  | true =>
    cases h2 : gI 0 40 x2 with
    | false => exact oM_t (c := 1) h rfl
    | true =>
      obtain ⟨k, hk, rfl⟩ := gH_at hn h1
      obtain ⟨d, hd2, rfl⟩ := gI_at (b := 40) (by decide) h2
      obtain ⟨I0, a1, s0⟩ := mS_pk (g := g) (N := N) (sw := sw) (lv := lv) (L := L) h ht (mR_0 h)
      obtain ⟨I2, b1, b2⟩ := M_tcL (g := g) (N := N) (sw := sw) (lv := lv) (L := L) h ht hd hk hd2 51 0 I0 (by omega) s0
      simp only [cond_true]
      rw [d_f (by decide : ¬ (1 : Int32) = 0), d_f (by decide : ¬ (1 : Int32) = 0), nb_tn (show k < 100000 by omega), nb_tn (show d < 100000 by omega), a1, am_bd_ok, am_tn, y_Mo_toCast_46 _ _]
      exact oM_r b2 b1
/-! seats exchanged -/
def un (f : Nat → Nat) (a x : Nat) : Nat → Nat := fun j => if j = a then x else f j
theorem un_same {f : Nat → Nat} {a x : Nat} : un f a x a = x := if_pos rfl
theorem un_ne {f : Nat → Nat} {a x j : Nat} (h : j ≠ a) : un f a x j = f j := if_neg h
def t_swp (T : tr_T) (a b : Nat) : tr_T := (T.1, T.2.1, T.2.2.1, T.2.2.2.1, T.2.2.2.2.1, un (un (t_hd T) (t_st T a) b) (t_st T b) a, un (un (t_st T) a (t_st T b)) b (t_st T a))
theorem t_st_inj (ht : t_ok T) {a b : Nat} (ha : a < t_n T) (hb : b < t_n T) (h : a ≠ b) : t_st T a ≠ t_st T b := fun q => h (by
  have h1 := (ht.2.2.2.1 a ha).2.2.2.2.2
  have h2 := (ht.2.2.2.1 b hb).2.2.2.2.2
  rw [q] at h1
  exact h1.symm.trans h2)
theorem t_swp_hd (T : tr_T) (a b : Nat) : t_hd (t_swp T a b) = un (un (t_hd T) (t_st T a) b) (t_st T b) a := rfl
theorem t_swp_st (T : tr_T) (a b : Nat) : t_st (t_swp T a b) = un (un (t_st T) a (t_st T b)) b (t_st T a) := rfl
theorem t_swp_ok (ht : t_ok T) {a b : Nat} (ha : a < t_n T) (hb : b < t_n T) (h : a ≠ b) : t_ok (t_swp T a b) := by
  have hi := t_st_inj ht ha hb h
  have sa := (ht.2.2.2.1 a ha).2.2.2.2
  have sb := (ht.2.2.2.1 b hb).2.2.2.2
  refine ⟨ht.1, ht.2.1, ht.2.2.1, fun j hj => ?_, fun k hk => ?_⟩
  · have hj2 : j < t_n T := hj
    have sj := ht.2.2.2.1 j hj2
    refine ⟨sj.1, sj.2.1, sj.2.2.1, sj.2.2.2.1, ?_⟩
    rw [t_swp_hd, t_swp_st]
    show un (un (t_st T) a (t_st T b)) b (t_st T a) j < t_n T ∧ _
    by_cases e1 : j = b
    · rw [e1, un_same, un_ne hi, un_same]
      exact ⟨sa.1, rfl⟩
    · rw [un_ne e1]
      by_cases e2 : j = a
      · rw [e2, un_same, un_same]
        exact ⟨sb.1, rfl⟩
      · rw [un_ne e2, un_ne (t_st_inj ht hj2 hb e1), un_ne (t_st_inj ht hj2 ha e2)]
        exact sj.2.2.2.2
  · have hk2 : k < t_n T := hk
    have sk := ht.2.2.2.2 k hk2
    rw [t_swp_hd, t_swp_st]
    show un (un (t_hd T) (t_st T a) b) (t_st T b) a k < t_n T ∧ _
    by_cases e1 : k = t_st T b
    · rw [e1, un_same, un_ne h, un_same]
      exact ⟨ha, rfl⟩
    · rw [un_ne e1]
      by_cases e2 : k = t_st T a
      · rw [e2, un_same, un_same]
        exact ⟨hb, rfl⟩
      · rw [un_ne e2, un_ne (fun q => e1 (by rw [← q]; exact sk.2.symm)), un_ne (fun q => e2 (by rw [← q]; exact sk.2.symm))]
        exact sk
theorem t_swp2 (ht : t_ok T) {a b : Nat} (ha : a < t_n T) (hb : b < t_n T) (h : a ≠ b) : t_swp (t_swp T a b) a b = T := by
  have hi := t_st_inj ht ha hb h
  have sa := (ht.2.2.2.1 a ha).2.2.2.2
  have sb := (ht.2.2.2.1 b hb).2.2.2.2
  have e1 : un (un (un (un (t_hd T) (t_st T a) b) (t_st T b) a) (t_st T b) b) (t_st T a) a = t_hd T := by
    funext k
    by_cases q1 : k = t_st T a
    · rw [q1, un_same]
      exact sa.2.symm
    · rw [un_ne q1]
      by_cases q2 : k = t_st T b
      · rw [q2, un_same]
        exact sb.2.symm
      · rw [un_ne q2, un_ne q2, un_ne q1]
  have e2 : un (un (un (un (t_st T) a (t_st T b)) b (t_st T a)) a (t_st T a)) b (t_st T b) = t_st T := by
    funext k
    by_cases q1 : k = b
    · rw [q1, un_same]
    · rw [un_ne q1]
      by_cases q2 : k = a
      · rw [q2, un_same]
      · rw [un_ne q2, un_ne q1, un_ne q2]
  have a1 : t_st (t_swp T a b) a = t_st T b := by
    rw [t_swp_st, un_ne h, un_same]
  have a2 : t_st (t_swp T a b) b = t_st T a := by
    rw [t_swp_st, un_same]
  unfold t_swp at a1 a2 ⊢
  show (T.1, T.2.1, T.2.2.1, T.2.2.2.1, T.2.2.2.2.1, un (un (un (un (t_hd T) (t_st T a) b) (t_st T b) a) (un (un (t_st T) a (t_st T b)) b (t_st T a) a) b) (un (un (t_st T) a (t_st T b)) b (t_st T a) b) a, un (un (un (un (t_st T) a (t_st T b)) b (t_st T a)) a (un (un (t_st T) a (t_st T b)) b (t_st T a) b)) b (un (un (t_st T) a (t_st T b)) b (t_st T a) a)) = T
  rw [show un (un (t_st T) a (t_st T b)) b (t_st T a) a = t_st T b from a1, show un (un (t_st T) a (t_st T b)) b (t_st T a) b = t_st T a from a2, e1, e2]
theorem rC_swap {r : Nat} (hr' : am_isr r) (hr : rC r T I) (ht : t_ok T) {a b : Nat} (ha : a < t_n T) (hb : b < t_n T) (h : a ≠ b) : ∃ I', am_R 41 1 0 [.ref r, .int (Int32.ofNat a), .int (Int32.ofNat b), am_u] [] (am_hp g N sw lv I L) = some (.inl none, am_hp g N sw lv I' L) ∧ rC r (t_swp T a b) I' ∧ ∀ x, x ≠ r + 5 → x ≠ r + 6 → I' x = I x := by
  have hn := ht.1
  have hi := t_st_inj ht ha hb h
  have sa := (ht.2.2.2.1 a ha).2.2.2.2.1
  have sb := (ht.2.2.2.1 b hb).2.2.2.2.1
  obtain ⟨h0, h1, h2, h3, h4⟩ := hr
  have ia := (h3 a ha).2.2.2.2
  have ib := (h3 b hb).2.2.2.2
  have q1 : upd (upd (I (r + 5)) a (I (r + 5) b)) b (I (r + 5) a) a = Int32.ofNat (t_st T b) := by rw [upd_ne h, upd_same]; exact ib
  have q2 : upd (upd (I (r + 5)) a (I (r + 5) b)) b (I (r + 5) a) b = Int32.ofNat (t_st T a) := by rw [upd_same]; exact ia
  refine ⟨am_up (am_up (am_up (am_up I (r + 5) (upd (I (r + 5)) a (I (r + 5) b))) (r + 5) (upd (upd (I (r + 5)) a (I (r + 5) b)) b (I (r + 5) a))) (r + 6) (upd (I (r + 6)) (t_st T b) (Int32.ofNat a))) (r + 6) (upd (upd (I (r + 6)) (t_st T b) (Int32.ofNat a)) (t_st T a) (Int32.ofNat b)), ?_, ?_, ?_⟩
  · rw [y_Rw_swapSeats_0 _ _ hr', nb_tn (show a < 100000 by omega), nb_tn (show b < 100000 by omega), q1, q2, nb_inb (show a < 8 by omega) (by omega), nb_inb (show b < 8 by omega) (by omega), nb_inb (show t_st T a < 8 by omega) (by omega), nb_inb (show t_st T b < 8 by omega) (by omega), nb_tn (show t_st T a < 100000 by omega), nb_tn (show t_st T b < 100000 by omega)]
    rfl
  · refine ⟨?_, ?_, ?_, fun j hj => ?_, fun k hk => ?_⟩
    · rw [up_ne (by omega), up_ne (by omega), up_ne (by omega), up_ne (by omega)]
      exact h0
    · rw [up_ne (by omega), up_ne (by omega), up_ne (by omega), up_ne (by omega)]
      exact h1
    · rw [up_ne (by omega), up_ne (by omega), up_ne (by omega), up_ne (by omega)]
      exact h2
    · have hj2 : j < t_n T := hj
      have sj := h3 j hj2
      have u : ∀ x, x ≠ r + 5 → x ≠ r + 6 → am_up (am_up (am_up (am_up I (r + 5) (upd (I (r + 5)) a (I (r + 5) b))) (r + 5) (upd (upd (I (r + 5)) a (I (r + 5) b)) b (I (r + 5) a))) (r + 6) (upd (I (r + 6)) (t_st T b) (Int32.ofNat a))) (r + 6) (upd (upd (I (r + 6)) (t_st T b) (Int32.ofNat a)) (t_st T a) (Int32.ofNat b)) x = I x := fun x p1 p2 => by
        rw [up_ne p2, up_ne p2, up_ne p1, up_ne p1]
      rw [u (r + 1) (by omega) (by omega), u (r + 2) (by omega) (by omega), u (r + 3) (by omega) (by omega), u (r + 4) (by omega) (by omega)]
      refine ⟨sj.1, sj.2.1, sj.2.2.1, sj.2.2.2.1, ?_⟩
      rw [up_ne (by omega), up_ne (by omega), up_same, t_swp_st]
      by_cases e1 : j = b
      · rw [e1, upd_same, un_same]
        exact ia
      · rw [upd_ne e1, un_ne e1]
        by_cases e2 : j = a
        · rw [e2, upd_same, un_same]
          exact ib
        · rw [upd_ne e2, un_ne e2]
          exact sj.2.2.2.2
    · have hk2 : k < t_n T := hk
      rw [up_same, t_swp_hd]
      by_cases e1 : k = t_st T a
      · rw [e1, upd_same, un_ne hi, un_same]
      · rw [upd_ne e1]
        by_cases e2 : k = t_st T b
        · rw [e2, upd_same, un_same]
        · rw [upd_ne e2, un_ne e2, un_ne e1]
          exact h4 k hk2
  · intro x p1 p2
    rw [up_ne p2, up_ne p2, up_ne p1, up_ne p1]
theorem rM_swap (hr : rM T I) (ht : t_ok T) {a b : Nat} (ha : a < t_n T) (hb : b < t_n T) (h : a ≠ b) : ∃ I', am_R 212 2 0 [.ref 147, .int (Int32.ofNat a), .int (Int32.ofNat b), am_u, am_u] [] (am_hp g N sw lv I L) = some (.inl none, am_hp g N sw lv I' L) ∧ rM (t_swp T a b) I' ∧ ∀ x, x ≠ 164 → I' x = I x := by
  have hn := ht.1
  have sa := (ht.2.2.2.1 a ha).2.2.2.2.1
  have sb := (ht.2.2.2.1 b hb).2.2.2.2.1
  refine ⟨am_up (am_up I 164 (upd (I 164) (t_st T a) (Int32.ofNat b))) 164 (upd (upd (I 164) (t_st T a) (Int32.ofNat b)) (t_st T b) (Int32.ofNat a)), ?_, ?_, ?_⟩
  · rw [y_Mo_swap_0 _ _, rM_seat hr ht ha, am_bd_ok, am_tl, y_Mo_swap_5 _ _ _, rM_seat hr ht hb, am_bd_ok, am_tl, y_Mo_swap_11 _ _ _ _, nb_inb (show t_st T a < 8 by omega) (by omega), nb_inb (show t_st T b < 8 by omega) (by omega), nb_tn (show t_st T a < 100000 by omega), nb_tn (show t_st T b < 100000 by omega)]
    rfl
  · obtain ⟨h0, h1, h2, h3, h4⟩ := hr
    refine ⟨h0, h1, h2, h3, fun k hk => ?_⟩
    have hk2 : k < t_n T := hk
    rw [up_same, t_swp_hd]
    by_cases e2 : k = t_st T b
    · rw [e2, upd_same, un_same]
    · rw [upd_ne e2, un_ne e2]
      by_cases e1 : k = t_st T a
      · rw [e1, upd_same, un_same]
      · rw [upd_ne e1, un_ne e1]
        exact h4 k hk2
  · intro x p
    rw [up_ne p, up_ne p]
/-! better -/
def fu {α : Type} (f : Nat → α → α) : Nat → Nat → α → α
  | 0, _, x => x
  | c + 1, k, x => fu f c (k + 1) (f k x)
def be_f (T : tr_T) (a b : Nat) (s : Nat × Int32) : Nat × Int32 := cond (decide (b_pc (t_pg (t_swp T a b)) ≤ s.1)) s (b_pc (t_pg (t_swp T a b)), 10 * Int32.ofNat a + Int32.ofNat b)
def be_i (T : tr_T) (a : Nat) (s : Nat × Int32) : Nat × Int32 := fu (be_f T a) (t_n T - (a + 1)) (a + 1) s
def be_r (T : tr_T) : Nat × Int32 := fu (be_i T) (t_n T) 0 (b_pc (t_pg T), -1)
def sp_better (T : tr_T) : a_O := .inl (be_r T).2
theorem be_f_le (a b : Nat) (s : Nat × Int32) (hs : s.1 ≤ 8) : (be_f T a b s).1 ≤ 8 := by
  unfold be_f
  cases decide (b_pc (t_pg (t_swp T a b)) ≤ s.1) with
  | true => exact hs
  | false => exact b_pc_le _
theorem fu_le {f : Nat → Nat × Int32 → Nat × Int32} (hf : ∀ k s, s.1 ≤ 8 → (f k s).1 ≤ 8) : ∀ c k (s : Nat × Int32), s.1 ≤ 8 → (fu f c k s).1 ≤ 8
  | 0, _, _, h => h
  | c + 1, k, s, h => fu_le hf c (k + 1) _ (hf k s h)
theorem C_beI (h : cC E mb T sw I) (ht : t_ok T) {a : Nat} (ha : a < t_n T) : ∀ c k (I1 : Nat → Nat → Int32) (w5 : Value) (s : Nat × Int32), k + c = t_n T → a < k → s.1 ≤ 8 → zf I I1 → rC 109 T I1 → ∃ I2 w4 w6, am_R 36 8 42 [.ref 75, .int (Int32.ofNat s.1), .int s.2, .int (Int32.ofNat a), .int (Int32.ofNat k), w5] [] (am_hp g N sw lv I1 L) = am_R 36 8 26 [.ref 75, .int (Int32.ofNat (fu (be_f T a) c k s).1), .int (fu (be_f T a) c k s).2, .int (Int32.ofNat (a + 1)), w4, w6] [] (am_hp g N sw lv I2 L) ∧ zf I I2 ∧ rC 109 T I2
  | 0, k, I1, w5, s, hc, hak, hs, z, hr => by
    have hn := ht.1
    have h1 := cC_zf h z
    refine ⟨I1, .int (Int32.ofNat k), w5, ?_, z, hr⟩
    rw [y_Ca_better_42 _ _ _ _ _, h1.2.1.1, nb_dle (by omega) (by omega), d_t (by omega : t_n T ≤ k), nb_s]
    rfl
  | c + 1, k, I1, w5, s, hc, hak, hs, z, hr => by
    have hn := ht.1
    have h1 := cC_zf h z
    have hk : k < t_n T := by omega
    have hne : a ≠ k := by omega
    have o1 := t_swp_ok ht ha hk hne
    obtain ⟨I2, a1, a2, a3⟩ := rC_swap (g := g) (N := N) (sw := sw) (lv := lv) (L := L) a_109 hr ht ha hk hne
    obtain ⟨I3, b1, b2, b3⟩ := C_pg (g := g) (N := N) (sw := sw) (lv := lv) (L := L) a2 o1
    obtain ⟨I4, c1, c2, c3⟩ := rC_swap (g := g) (N := N) (sw := sw) (lv := lv) (L := L) a_109 b3 o1 (a := a) (b := k) ha hk hne
    rw [t_swp2 ht ha hk hne] at c2
    have z4 : zf I I4 := zf_tr (zf_tr (zf_tr z (fun x q => a3 x (by omega) (by omega))) b2) (fun x q => c3 x (by omega) (by omega))
    have p1 := b_pc_le (t_pg (t_swp T a k))
    obtain ⟨I5, w4, w6, d1, d2, d3⟩ := C_beI h ht ha c (k + 1) I4 (.int (Int32.ofNat (b_pc (t_pg (t_swp T a k))))) (be_f T a k s) (by omega) (by omega) (be_f_le a k s hs) z4 c2
    refine ⟨I5, w4, w6, ?_, d2, d3⟩
    rw [y_Ca_better_42 _ _ _ _ _, h1.2.1.1, nb_dle (by omega) (by omega), d_f (by omega : ¬ t_n T ≤ k), a1, am_bd_ok, am_tn, y_Ca_better_64 _ _ _ _ _, b1, am_bd_ok, am_tl, y_Ca_better_71 _ _ _ _ _ _, b_pc_c _ (t_pg_lt (t_swp T a k)), c1, am_bd_ok, am_tn, y_Ca_better_86 _ _ _ _ _, nb_dle (by omega) (by omega), nb_s]
    refine Eq.trans ?_ d1
    unfold be_f
    cases decide (b_pc (t_pg (t_swp T a k)) ≤ s.1) <;> rfl
theorem C_beO (h : cC E mb T sw I) (ht : t_ok T) : ∀ c k (I1 : Nat → Nat → Int32) (w4 w5 : Value) (s : Nat × Int32), k + c = t_n T → s.1 ≤ 8 → zf I I1 → rC 109 T I1 → ∃ I2, am_R 36 8 26 [.ref 75, .int (Int32.ofNat s.1), .int s.2, .int (Int32.ofNat k), w4, w5] [] (am_hp g N sw lv I1 L) = some (.inl (some (.int (fu (be_i T) c k s).2)), am_hp g N sw lv I2 L) ∧ zf I I2
  | 0, k, I1, w4, w5, s, hc, hs, z, hr => by
    have hn := ht.1
    have h1 := cC_zf h z
    refine ⟨I1, ?_, z⟩
    rw [y_Ca_better_26 _ _ _ _ _, h1.2.1.1, nb_dle (by omega) (by omega), d_t (by omega : t_n T ≤ k)]
    rfl
  | c + 1, k, I1, w4, w5, s, hc, hs, z, hr => by
    have hn := ht.1
    have h1 := cC_zf h z
    have hk : k < t_n T := by omega
    obtain ⟨I2, v4, v6, a1, a2, a3⟩ := C_beI (g := g) (N := N) (lv := lv) (L := L) h ht hk (t_n T - (k + 1)) (k + 1) I1 w5 s (by omega) (by omega) hs z hr
    obtain ⟨I3, b1, b2⟩ := C_beO h ht c (k + 1) I2 v4 v6 (be_i T k s) (by omega) (fu_le (be_f_le k) _ _ _ hs) a2 a3
    refine ⟨I3, ?_, b2⟩
    rw [y_Ca_better_26 _ _ _ _ _, h1.2.1.1, nb_dle (by omega) (by omega), d_f (by omega : ¬ t_n T ≤ k), nb_s]
    exact a1.trans b1
theorem C_better (h : cC E mb T sw I) (ht : t_ok T) (hd : t_d T ≤ 1000) : oC g N sw lv L I (am_R 36 8 0 [.ref 75, am_u, am_u, am_u, am_u, am_u] [] (am_hp g N sw lv I L)) (sp_better T) := by
  obtain ⟨I1, a1, a2⟩ := C_pgn (g := g) (N := N) (sw := sw) (lv := lv) (L := L) h.2.1 ht
  obtain ⟨I2, b1, b2, b3, -⟩ := C_cp (cC_zf h a2) ht
  obtain ⟨I3, c1, c2⟩ := C_beO (g := g) (N := N) (lv := lv) (L := L) h ht (t_n T) 0 I2 am_u am_u (b_pc (t_pg T), -1) (by omega) (b_pc_le _) (zf_tr a2 b3) b2
  rw [y_Ca_better_0, a1, am_bd_ok, am_tl, y_Ca_better_7 _, b_pc_c _ (t_pg_lt T), b1]
  exact oC_v c2 c1
theorem mR_164 {I1 I2 : Nat → Nat → Int32} (r : mR T I I1) (h : ∀ x, x ≠ 164 → I2 x = I1 x) (hr : rM T I2) : mR T I I2 :=
  ⟨hr, zM_tr r.2.1 ⟨fun a q1 q2 => h a (by omega), fun j _ _ _ _ _ _ => by rw [h 147 (by decide)]⟩, by rw [h 147 (by decide)]; exact r.2.2.1, by rw [h 147 (by decide)]; exact r.2.2.2⟩
theorem M_beI (h : cM E mb T I) (ht : t_ok T) {a : Nat} (ha : a < t_n T) : ∀ c k (I1 : Nat → Nat → Int32) (w5 : Value) (s : Nat × Int32), k + c = t_n T → a < k → s.1 ≤ 8 → mR T I I1 → ∃ I2 w4 w6, am_R 243 8 32 [.ref 147, .int s.2, .int (Int32.ofNat s.1), .int (Int32.ofNat a), .int (Int32.ofNat k), w5] [] (am_hp g N sw lv I1 L) = am_R 243 8 17 [.ref 147, .int (fu (be_f T a) c k s).2, .int (Int32.ofNat (fu (be_f T a) c k s).1), .int (Int32.ofNat (a + 1)), w4, w6] [] (am_hp g N sw lv I2 L) ∧ mR T I I2
  | 0, k, I1, w5, s, hc, hak, hs, r => by
    have hn := ht.1
    refine ⟨I1, .int (Int32.ofNat k), w5, ?_, r⟩
    rw [y_Mo_better_32 _ _ _ _ _, r.1.1, nb_dle (by omega) (by omega), d_t (by omega : t_n T ≤ k), nb_s]
    rfl
  | c + 1, k, I1, w5, s, hc, hak, hs, r => by
    have hn := ht.1
    have hk : k < t_n T := by omega
    have hne : a ≠ k := by omega
    have o1 := t_swp_ok ht ha hk hne
    obtain ⟨I2, a1, a2, a3⟩ := rM_swap (g := g) (N := N) (sw := sw) (lv := lv) (L := L) r.1 ht ha hk hne
    obtain ⟨I4, c1, c2, c3⟩ := rM_swap (g := g) (N := N) (sw := sw) (lv := lv) (L := L) a2 o1 (a := a) (b := k) ha hk hne
    rw [t_swp2 ht ha hk hne] at c2
    have r4 : mR T I I4 := mR_164 r (fun x q => (c3 x q).trans (a3 x q)) c2
    have p1 := b_pc_le (t_pg (t_swp T a k))
    obtain ⟨I5, w4, w6, d1, d2⟩ := M_beI h ht ha c (k + 1) I4 (.int (Int32.ofNat (b_pc (t_pg (t_swp T a k))))) (be_f T a k s) (by omega) (by omega) (be_f_le a k s hs) r4
    refine ⟨I5, w4, w6, ?_, d2⟩
    rw [y_Mo_better_32 _ _ _ _ _, r.1.1, nb_dle (by omega) (by omega), d_f (by omega : ¬ t_n T ≤ k), a1, am_bd_ok, am_tn, y_Mo_better_50 _ _ _ _ _, rM_pg a2 o1, am_bd_ok, am_tl, y_Mo_better_54 _ _ _ _ _ _, m_bits (t_pg_lt (t_swp T a k)), am_bd_ok, am_tl, y_Mo_better_57 _ _ _ _ _ _, c1, am_bd_ok, am_tn, y_Mo_better_66 _ _ _ _ _, nb_dlt (by omega) (by omega), nb_s]
    refine Eq.trans ?_ d1
    unfold be_f
    by_cases q : s.1 < b_pc (t_pg (t_swp T a k))
    · rw [d_t q, d_f (by omega : ¬ b_pc (t_pg (t_swp T a k)) ≤ s.1)]
    · rw [d_f q, d_t (by omega : b_pc (t_pg (t_swp T a k)) ≤ s.1)]
theorem M_beO (h : cM E mb T I) (ht : t_ok T) : ∀ c k (I1 : Nat → Nat → Int32) (w4 w5 : Value) (s : Nat × Int32), k + c = t_n T → s.1 ≤ 8 → mR T I I1 → ∃ I2, am_R 243 8 17 [.ref 147, .int s.2, .int (Int32.ofNat s.1), .int (Int32.ofNat k), w4, w5] [] (am_hp g N sw lv I1 L) = some (.inl (some (.int (fu (be_i T) c k s).2)), am_hp g N sw lv I2 L) ∧ mR T I I2
  | 0, k, I1, w4, w5, s, hc, hs, r => by
    have hn := ht.1
    refine ⟨I1, ?_, r⟩
    rw [y_Mo_better_17 _ _ _ _ _, r.1.1, nb_dle (by omega) (by omega), d_t (by omega : t_n T ≤ k)]
    rfl
  | c + 1, k, I1, w4, w5, s, hc, hs, r => by
    have hn := ht.1
    have hk : k < t_n T := by omega
    obtain ⟨I2, v4, v6, a1, a2⟩ := M_beI (g := g) (N := N) (sw := sw) (lv := lv) (L := L) h ht hk (t_n T - (k + 1)) (k + 1) I1 w5 s (by omega) (by omega) hs r
    obtain ⟨I3, b1, b2⟩ := M_beO h ht c (k + 1) I2 v4 v6 (be_i T k s) (by omega) (fu_le (be_f_le k) _ _ _ hs) a2
    refine ⟨I3, ?_, b2⟩
    rw [y_Mo_better_17 _ _ _ _ _, r.1.1, nb_dle (by omega) (by omega), d_f (by omega : ¬ t_n T ≤ k), nb_s]
    exact a1.trans b1
theorem M_better (h : cM E mb T I) (ht : t_ok T) : oM g N sw lv L T I k1 (am_R 243 8 0 [.ref 147, am_u, am_u, am_u, am_u, am_u] [] (am_hp g N sw lv I L)) (sp_better T) := by
  obtain ⟨I3, c1, c2⟩ := M_beO (g := g) (N := N) (sw := sw) (lv := lv) (L := L) h ht (t_n T) 0 _ am_u am_u (b_pc (t_pg T), -1) (by omega) (b_pc_le _) (mR_0 h)
  rw [y_Mo_better_0, rM_pg (cM_4 h 0).2.1 ht, am_bd_ok, am_tl, y_Mo_better_11 _ _, m_bits (t_pg_lt T), am_bd_ok, am_tl, y_Mo_better_14 _ _]
  exact oM_r c2 c1
end OPG
