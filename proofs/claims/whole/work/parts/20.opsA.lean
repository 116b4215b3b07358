/-! CALLS: then, later, down, melted -/
def k12 (c : Nat) : Nat := c + 1
def k1 (_ : Nat) : Nat := 1
section OPA
variable {g N : Nat} {sw lv : Bool} {I : Nat → Nat → Int32} {L : Nat → Nat → Int64} {T : tr_T} {E : e_E} {mb : Nat}
def tv_then (E : e_E) (T : tr_T) (h d : Nat) (x3 : Int32) : Int32 := cond (decide (x3 = 0)) (t_su (t_dn E d T) h) (cond (decide (x3 = 1)) (t_le (t_dn E d T) h) (cond (t_up (t_dn E d T) h) 1 0))
def sp_then (E : e_E) (T : tr_T) (x1 x2 x3 : Int32) : a_O := cond (gH (t_n T) x1) (cond (gI 0 2 x3) (cond (gI 0 40 x2) (.inl (tv_then E T x1.toNatClampNeg x2.toNatClampNeg x3)) (.inr 1)) (.inr 0)) (.inr 0)
theorem C_then (h : cC E mb T sw I) (ht : t_ok T) (hd : t_d T ≤ 1000) (x1 x2 x3 : Int32) : oC g N sw lv L I (am_R 98 8 0 [.ref 75, .int x1, .int x2, .int x3] [] (am_hp g N sw lv I L)) (sp_then E T x1 x2 x3) := by
  have hn := ht.1
  rw [y_Ca_then_0 _ _ _, h.2.1.1, g_H, g_I, g_I]
  unfold sp_then
  cases h1 : gH (t_n T) x1 with
  | false => exact oC_t rfl
  | true =>
    cases h3 : gI 0 2 x3 with
    | false => exact oC_t rfl
    | true =>
      cases h2 : gI 0 40 x2 with
      | false => exact oC_t rfl
      | true =>
        obtain ⟨k, hk, rfl⟩ := gH_at hn h1
        obtain ⟨d, hd2, rfl⟩ := gI_at (b := 40) (by decide) h2
        obtain ⟨I1, a1, a2, a3⟩ := C_try (g := g) (N := N) (lv := lv) (L := L) h ht (Int32.le_trans hd (by decide)) (show d ≤ 50 by omega)
        obtain ⟨m1, m2, m3⟩ := t_dn_ok (E := E) ht (Int32.le_trans hd (by decide)) d (by omega)
        have hk' : k < t_n (t_dn E d T) := by omega
        simp only [cond_true]
        rw [nb_tn (by omega), nb_tn (by omega)]
        refine oC_v a3 ?_
        rw [a1, am_bd_ok, am_tn, y_Ca_then_20 _ _ _, nb_inb (show k < 8 by omega) (by omega), nb_tn (by omega), (a2.2.2.2.1 k hk').1, (a2.2.2.2.1 k hk').2.1, rC_stands a2 m1 hk']
        unfold tv_then
        cases decide (x3 = 0) <;> cases decide (x3 = 1) <;> cases t_up (t_dn E d T) k <;> rfl
/-- the reference goes on, and back -/
theorem M_back {T' : tr_T} {I1 : Nat → Nat → Int32} (h : cM E mb T I) (ht : t_ok T) (hp : pM 171 0 T I1) (z : zM I I1) (h37 : I1 147 37 = -1) (h4 : I1 147 4 = 0) : ∃ I', am_R 214 1 0 [.ref 147, .ref 171, .int 0, am_u, am_u] [] (am_hp g N sw lv I1 L) = some (.inl none, am_hp g N sw lv I' L) ∧ rM T I' ∧ zM I I' ∧ I' 147 37 = -1 ∧ I' 147 4 = 0 := by
  have h0 : I1 151 0 = Int32.ofNat (t_n T) := by rw [z.1 151 (by decide) (by decide)]; exact h.2.1.1
  obtain ⟨I', a1, a2, a3, a4⟩ := M_un (g := g) (N := N) (sw := sw) (lv := lv) (L := L) ht h0 hp
  refine ⟨I', a1, a2, zM_tr z ⟨fun a q1 q2 => a3 a q1 (by omega) (by omega) (by omega) (by omega) (by omega), fun j q1 q2 q3 q4 q5 q6 => a4 j q2 q3⟩, by rw [a4 37 (by decide) (by decide)]; exact h37, by rw [a4 4 (by decide) (by decide)]; exact h4⟩
/-- the reference's row put by, days gone by -/
theorem M_on (h : cM E mb T I) (ht : t_ok T) (hd : t_d T ≤ 1100) {n : Nat} (hn : n ≤ 50) : ∃ I0 I1, am_R 191 1 0 [.ref 147, .ref 171, .int 0, am_u, am_u] [] (am_hp g N sw lv (am_up I 147 (upd (I 147) 4 0)) L) = some (.inl none, am_hp g N sw lv I0 L) ∧ am_R 192 7 0 [.ref 147, .int (Int32.ofNat n), am_u] [] (am_hp g N sw lv I0 L) = some (.inl none, am_hp g N sw lv I1 L) ∧ rM (t_dn E n T) I1 ∧ pM 171 0 T I1 ∧ zM I I1 ∧ I1 147 37 = -1 ∧ I1 147 4 = 0 := by
  obtain ⟨I0, a1, a2, a3, a4⟩ := M_pk (g := g) (N := N) (sw := sw) (lv := lv) (L := L) (cM_4 h 0) ht
  obtain ⟨I1, b1, b2, b3⟩ := rM_days (g := g) (N := N) (sw := sw) (lv := lv) (L := L) a3.2.1 ht a3.1 a3.2.2.1 hd hn
  have z0 : zM I I0 := zM_tr (zM_4 0) ⟨fun a q1 q2 => a4 a (by omega), fun j _ _ _ _ _ _ => by rw [a4 147 (by decide)]⟩
  refine ⟨I0, I1, a1, b1, b2, pM_fr a2 (b3.1 171 (by decide) (by decide) (by decide) (by decide) (by decide) (by decide)), zM_tr z0 (zM_fM b3), ?_, ?_⟩
  · rw [b3.2 37 (by decide) (by decide)]
    exact a3.2.2.1
  · rw [b3.2 4 (by decide) (by decide), a4 147 (by decide), up_same, upd_same]
theorem M_then (h : cM E mb T I) (ht : t_ok T) (hd : t_d T ≤ 1000) (x1 x2 x3 : Int32) : oM g N sw lv L T I k12 (am_R 215 8 0 [.ref 147, .int x1, .int x2, .int x3, am_u] [] (am_hp g N sw lv I L)) (sp_then E T x1 x2 x3) := by
  have hn := ht.1
  obtain ⟨q1, q2⟩ := m_H (cM_4 h 0).2.1 ht x1
  rw [y_Mo_then_0 _ _ _, q1, q2, m_inL (a := 0) (b := 2) (by decide) (by decide), m_inL (a := 0) (b := 40) (by decide) (by decide)]
  unfold sp_then
  cases h1 : gH (t_n T) x1 with
  | false => exact oM_t (c := 0) h rfl
  | true =>
    cases h3 : gI 0 2 x3 with
    | false => exact oM_t (c := 0) h rfl
    | true =>
      cases h2 : gI 0 40 x2 with
      | false => exact oM_t (c := 1) h rfl
      | true =>
        obtain ⟨k, hk, rfl⟩ := gH_at hn h1
        obtain ⟨d, hd2, rfl⟩ := gI_at (b := 40) (by decide) h2
        obtain ⟨I0, I1, a1, b1, b2, b3, b4, b5, b6⟩ := M_on (g := g) (N := N) (sw := sw) (lv := lv) (L := L) h ht (Int32.le_trans hd (by decide)) (show d ≤ 50 by omega)
        obtain ⟨I2, c1, c2, c3, c4, c5⟩ := M_back (g := g) (N := N) (sw := sw) (lv := lv) (L := L) (T' := T) h ht b3 b4 b5 b6
        obtain ⟨m1, m2, m3⟩ := t_dn_ok (E := E) ht (Int32.le_trans hd (by decide)) d (by omega)
        have hk' : k < t_n (t_dn E d T) := by omega
        simp only [cond_true]
        rw [d_f (by decide : ¬ (1 : Int32) = 0), d_f (by decide : ¬ (1 : Int32) = 0), d_f (by decide : ¬ (1 : Int32) = 0), nb_tn (show k < 100000 by omega), nb_tn (show d < 100000 by omega)]
        refine oM_w ?_ c2 c3 c4 c5
        rw [a1, am_bd_ok, am_tn, y_Mo_then_58 _ _ _, b1, am_bd_ok, am_tn, y_Mo_then_63 _ _ _, nb_inb (show k < 8 by omega) (by omega), nb_tn (by omega), (b2.2.2.2.1 k hk').1, (b2.2.2.2.1 k hk').2.1, rM_stands b2 m1 hk']
        simp only [c1, am_bd_ok, am_tn, y_Mo_then_114]
        unfold tv_then
        cases decide (x3 = 0) <;> cases decide (x3 = 1) <;> cases t_up (t_dn E d T) k <;> rfl
def sp_later (E : e_E) (T : tr_T) (x1 x2 : Int32) : a_O := cond (gI 0 1 x2) (cond (gI 0 40 x1) (.inl (cond (decide (x2 = 0)) (Int32.ofNat (t_s (t_dn E x1.toNatClampNeg T))) (Int32.ofNat (t_pg (t_dn E x1.toNatClampNeg T))))) (.inr 1)) (.inr 0)
theorem C_later (h : cC E mb T sw I) (ht : t_ok T) (hd : t_d T ≤ 1000) (x1 x2 : Int32) : oC g N sw lv L I (am_R 100 8 0 [.ref 75, .int x1, .int x2] [] (am_hp g N sw lv I L)) (sp_later E T x1 x2) := by
  have hn := ht.1
  rw [y_Ca_later_0 _ _, g_I, g_I]
  unfold sp_later
  cases h3 : gI 0 1 x2 with
  | false => exact oC_t rfl
  | true =>
    cases h2 : gI 0 40 x1 with
    | false => exact oC_t rfl
    | true =>
      obtain ⟨d, hd2, rfl⟩ := gI_at (b := 40) (by decide) h2
      obtain ⟨I1, a1, a2, a3⟩ := C_try (g := g) (N := N) (lv := lv) (L := L) h ht (Int32.le_trans hd (by decide)) (show d ≤ 50 by omega)
      obtain ⟨m1, m2, m3⟩ := t_dn_ok (E := E) ht (Int32.le_trans hd (by decide)) d (by omega)
      obtain ⟨I2, b1, b2, -⟩ := C_pg (g := g) (N := N) (sw := sw) (lv := lv) (L := L) a2 m1
      simp only [cond_true]
      rw [nb_tn (by omega), a1, am_bd_ok, am_tn, y_Ca_later_15 _ _, a2.2.2.1, b1, am_bd_ok, am_tl, y_Ca_later_36 _ _ _, y_Ca_later_36 _ _ _]
      cases decide (x2 = 0) with
      | true => exact oC_v a3 rfl
      | false => exact oC_v (zf_tr a3 b2) rfl
theorem M_later (h : cM E mb T I) (ht : t_ok T) (hd : t_d T ≤ 1000) (x1 x2 : Int32) : oM g N sw lv L T I k12 (am_R 216 8 0 [.ref 147, .int x1, .int x2, am_u] [] (am_hp g N sw lv I L)) (sp_later E T x1 x2) := by
  have hn := ht.1
  rw [y_Mo_later_0 _ _, m_inL (a := 0) (b := 1) (by decide) (by decide), m_inL (a := 0) (b := 40) (by decide) (by decide)]
  unfold sp_later
  cases h3 : gI 0 1 x2 with
  | false => exact oM_t (c := 0) h rfl
  | true =>
    cases h2 : gI 0 40 x1 with
    | false => exact oM_t (c := 1) h rfl
    | true =>
      obtain ⟨d, hd2, rfl⟩ := gI_at (b := 40) (by decide) h2
      obtain ⟨I0, I1, a1, b1, b2, b3, b4, b5, b6⟩ := M_on (g := g) (N := N) (sw := sw) (lv := lv) (L := L) h ht (Int32.le_trans hd (by decide)) (show d ≤ 50 by omega)
      obtain ⟨I2, c1, c2, c3, c4, c5⟩ := M_back (g := g) (N := N) (sw := sw) (lv := lv) (L := L) (T' := T) h ht b3 b4 b5 b6
      obtain ⟨m1, m2, m3⟩ := t_dn_ok (E := E) ht (Int32.le_trans hd (by decide)) d (by omega)
      simp only [cond_true]
      rw [d_f (by decide : ¬ (1 : Int32) = 0), d_f (by decide : ¬ (1 : Int32) = 0), nb_tn (show d < 100000 by omega)]
      refine oM_w ?_ c2 c3 c4 c5
      rw [a1, am_bd_ok, am_tn, y_Mo_later_48 _ _, b1, am_bd_ok, am_tn, y_Mo_later_53 _ _, rM_standing b2 m1, rM_pg b2 m1, am_bd_ok, am_tl]
      simp only [y_Mo_later_68, c1, am_bd_ok, am_tn, y_Mo_later_78]
      cases decide (x2 = 0) <;> rfl
theorem b_andn : ∀ a, a < 256 → ∀ b, b < 256 → Int32.ofNat a &&& (Int32.ofNat b ^^^ (-1)) = Int32.ofNat (a &&& (255 - b)) := by
  intro a ha b hb
  have h : ∀ b, b < 256 → Int32.ofNat b ^^^ (-1) = Int32.ofNat (4294967295 - b) := by decide +kernel
  have h2 : ∀ b, b < 256 → ∀ j, j < 8 → (4294967295 - b).testBit j = (255 - b).testBit j := by decide +kernel
  rw [h b hb]
  refine (Int32.toBitVec.inj BitVec.ofNat_and.symm : Int32.ofNat a &&& Int32.ofNat (4294967295 - b) = Int32.ofNat (a &&& (4294967295 - b))).trans ?_
  congr 1
  refine Nat.eq_of_testBit_eq fun j => ?_
  rw [Nat.testBit_and, Nat.testBit_and]
  by_cases hj : j < 8
  · rw [h2 b hb j hj]
  · rw [Nat.testBit_lt_two_pow (Nat.lt_of_lt_of_le ha (Nat.pow_le_pow_right (n := 2) (by decide) (by omega) : 2 ^ 8 ≤ 2 ^ j))]
    rfl
def sp_down (E : e_E) (T : tr_T) (x1 : Int32) : a_O := cond (gI 1 40 x1) (.inl (Int32.ofNat (t_s (t_dn E (x1.toNatClampNeg - 1) T)) &&& (Int32.ofNat (t_s (t_dn E x1.toNatClampNeg T)) ^^^ (-1)))) (.inr 1)
theorem t_dn_s (E : e_E) (T : tr_T) : ∀ k, t_dn E 1 (t_dn E k T) = t_dn E (k + 1) T := fun _ => rfl
theorem C_down (h : cC E mb T sw I) (ht : t_ok T) (hd : t_d T ≤ 1000) (x1 : Int32) : oC g N sw lv L I (am_R 102 8 0 [.ref 75, .int x1, am_u] [] (am_hp g N sw lv I L)) (sp_down E T x1) := by
  have hn := ht.1
  rw [y_Ca_down_0 _, g_I]
  unfold sp_down
  cases h2 : gI 1 40 x1 with
  | false => exact oC_t rfl
  | true =>
    obtain ⟨d, hd1, hd2, rfl⟩ := gI_at1 (b := 40) (by decide) h2
    have e1 : Int32.ofNat d - 1 = Int32.ofNat (d - 1) := (Int32.ofNat_sub d 1 hd1).symm
    obtain ⟨I1, a1, a2, a3⟩ := C_try (g := g) (N := N) (lv := lv) (L := L) h ht (Int32.le_trans hd (by decide)) (show d - 1 ≤ 50 by omega)
    obtain ⟨m1, m2, m3⟩ := t_dn_ok (E := E) ht (Int32.le_trans hd (by decide)) (d - 1) (by omega)
    obtain ⟨I2, b1, b2, b3⟩ := C_more (g := g) (N := N) (lv := lv) (L := L) (cC_zf h a3) a2 m1 (by
      rw [m3]
      have := i_dk ht.2.2.1.1 (Int32.le_trans hd (by decide)) (show d - 1 ≤ 50 by omega)
      rw [Int32.le_iff_toInt_le] at hd ⊢
      have e3 : (1000 : Int32).toInt = 1000 := by decide
      have e4 : (1100 : Int32).toInt = 1100 := by decide
      have e0 : (0 : Int32).toInt = 0 := by decide
      have h0 := ht.2.2.1.1
      rw [Int32.le_iff_toInt_le] at h0
      have : (t_d T + Int32.ofNat (d - 1)).toInt = (t_d T).toInt + (d - 1 : Nat) := by
        rw [Int32.toInt_add, nb_ti (by omega)]
        refine Int.bmod_eq_of_le ?_ ?_ <;> omega
      omega) (n := 1) (by decide)
    simp only [cond_true]
    rw [nb_tn (by omega), e1, a1, am_bd_ok, am_tn, y_Ca_down_12 _, show (.int 1 : Value) = .int (Int32.ofNat 1) from rfl, b1, am_bd_ok, am_tn, y_Ca_down_32 _ _, a2.2.2.1, b2.2.2.1, t_dn_s, show d - 1 + 1 = d by omega]
    exact oC_v (zf_tr a3 b3) rfl
theorem M_down (h : cM E mb T I) (ht : t_ok T) (hd : t_d T ≤ 1000) (x1 : Int32) : oM g N sw lv L T I k1 (am_R 219 8 0 [.ref 147, .int x1, am_u, am_u] [] (am_hp g N sw lv I L)) (sp_down E T x1) := by
  have hn := ht.1
  rw [y_Mo_down_0 _, m_inL (a := 1) (b := 40) (by decide) (by decide)]
  unfold sp_down
  cases h2 : gI 1 40 x1 with
  | false => exact oM_t (c := 1) h rfl
  | true =>
    obtain ⟨d, hd1, hd2, rfl⟩ := gI_at1 (b := 40) (by decide) h2
    have e1 : Int32.ofNat d - 1 = Int32.ofNat (d - 1) := (Int32.ofNat_sub d 1 hd1).symm
    obtain ⟨I0, I1, a1, b1, b2, b3, b4, b5, b6⟩ := M_on (g := g) (N := N) (sw := sw) (lv := lv) (L := L) h ht (Int32.le_trans hd (by decide)) (show d - 1 ≤ 50 by omega)
    obtain ⟨m1, m2, m3⟩ := t_dn_ok (E := E) ht (Int32.le_trans hd (by decide)) (d - 1) (by omega)
    obtain ⟨n1, n2, n3⟩ := t_dn_ok (E := E) ht (Int32.le_trans hd (by decide)) (d - 1 + 1) (by omega)
    obtain ⟨I2, d1, d2, d3⟩ := rM_day (g := g) (N := N) (sw := sw) (lv := lv) (L := L) b2 m1 (cM_q h b4) (qM_heat (cM_q h b4) b2 m1 b5)
    obtain ⟨I3, c1, c2, c3, c4, c5⟩ := M_back (g := g) (N := N) (sw := sw) (lv := lv) (L := L) (T' := T) h ht (pM_fr b3 (d3.1 171 (by decide) (by decide) (by decide) (by decide) (by decide) (by decide))) (zM_tr b4 (zM_fM d3)) (by rw [d3.2 37 (by decide) (by decide)]; exact b5) (by rw [d3.2 4 (by decide) (by decide)]; exact b6)
    simp only [cond_true]
    rw [d_f (by decide : ¬ (1 : Int32) = 0), nb_tn (show d < 100000 by omega)]
    refine oM_w ?_ c2 c3 c4 c5
    rw [a1, am_bd_ok, am_tn, y_Mo_down_32 _, e1, b1, am_bd_ok, am_tn, y_Mo_down_39 _, d1, am_bd_ok, am_tn, y_Mo_down_48 _ _, c1, am_bd_ok, am_tn, y_Mo_down_66 _ _ _, rM_standing b2 m1, rM_standing (T := t_dn E (d - 1 + 1) T) d2 n1, show d - 1 + 1 = d by omega]
def sp_melted (E : e_E) (T : tr_T) (x1 : Int32) : a_O := cond (gI 0 40 x1) (.inl (t_sg T (2 ^ t_n T - 1) - t_sg (t_dn E x1.toNatClampNeg T) (2 ^ t_n T - 1))) (.inr 1)
theorem C_melted (h : cC E mb T sw I) (ht : t_ok T) (hd : t_d T ≤ 1000) (x1 : Int32) : oC g N sw lv L I (am_R 117 8 0 [.ref 75, .int x1] [] (am_hp g N sw lv I L)) (sp_melted E T x1) := by
  have hn := ht.1
  rw [y_Ca_melted_0 _, g_I]
  unfold sp_melted
  cases h2 : gI 0 40 x1 with
  | false => exact oC_t rfl
  | true =>
    obtain ⟨d, hd2, rfl⟩ := gI_at (b := 40) (by decide) h2
    obtain ⟨I1, a1, a2, a3⟩ := C_try (g := g) (N := N) (lv := lv) (L := L) h ht (Int32.le_trans hd (by decide)) (show d ≤ 50 by omega)
    obtain ⟨m1, m2, m3⟩ := t_dn_ok (E := E) ht (Int32.le_trans hd (by decide)) d (by omega)
    have h1 := cC_zf h a3
    simp only [cond_true]
    rw [nb_tn (by omega), a1, am_bd_ok, am_tn, y_Ca_melted_10 _, rC_allSg a_99 h1.2.1 ht, am_bd_ok, am_tl, y_Ca_melted_17 _ _, rC_allSg a_109 a2 m1, am_bd_ok, am_tl, y_Ca_melted_24 _ _ _, m2]
    exact oC_v a3 rfl
end OPA
