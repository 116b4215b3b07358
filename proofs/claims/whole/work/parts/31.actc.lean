/-! CALLS: days, prop, cast, lick, turn, change, undo -/
def sp_days (S : s_S) (x : Int32) : a_O × s_S := cond (gI 1 20 x) (cond (decide (t_d (sT S) + x ≤ 999)) (.inl (t_d (t_dn (sE S) x.toNatClampNeg (sT S))), s_act S (t_dn (sE S) x.toNatClampNeg (sT S))) (.inl (-1), s_ref S 1)) (.inl (-1), s_ref S 1)
def pr_T (T : tr_T) (h : Nat) : tr_T := t_put T (t_s T) (t_su T) (upd (t_le T) h 0)
def sp_prop (S : s_S) (x : Int32) : a_O × s_S := cond (gH (t_n (sT S)) x) (cond (t_up (sT S) x.toNatClampNeg && !decide (t_le (sT S) x.toNatClampNeg = 0)) (.inl 1, s_act S (pr_T (sT S) x.toNatClampNeg)) (.inl 0, s_ref S 1)) (.inr 0, S)
def sp_cast (S : s_S) (x y : Int32) : a_O × s_S := cond (gH (t_n (sT S)) x) (cond (gI 1 50 y) (.inl (t_su (t_cast (sT S) x.toNatClampNeg y.toNatClampNeg) x.toNatClampNeg), s_act S (t_cast (sT S) x.toNatClampNeg y.toNatClampNeg)) (.inl (-1), s_ref S 1)) (.inr 0, S)
def li_T (T : tr_T) (h : Nat) (y : Int32) : tr_T := t_put T (t_s T) (upd (t_su T) h (t_su T h - y)) (t_le T)
def sp_lick (S : s_S) (x y : Int32) : a_O × s_S := cond (gH (t_n (sT S)) x) (cond (gI 1 9 y) (cond (decide (y < t_su (sT S) x.toNatClampNeg)) (.inl (t_su (sT S) x.toNatClampNeg - y), s_act S (li_T (sT S) x.toNatClampNeg y)) (.inl (-1), s_ref S 1)) (.inl (-1), s_ref S 1)) (.inr 0, S)
def t_trn (T : tr_T) (h q : Nat) : tr_T := (T.1, T.2.1, T.2.2.1, un (t_fi T) h (t_fi T h ^^^ 2 ^ q), un (t_se T) h (t_se T h ^^^ 2 ^ q), T.2.2.2.2.2)
def sp_turn (S : s_S) (x y : Int32) : a_O × s_S := cond (gH (t_n (sT S)) x) (cond (gH 6 y) (.inl (Int32.ofNat (t_op (t_trn (sT S) x.toNatClampNeg y.toNatClampNeg) x.toNatClampNeg)), s_act S (t_trn (sT S) x.toNatClampNeg y.toNatClampNeg)) (.inr 0, S)) (.inr 0, S)
def sp_change (S : s_S) (x y : Int32) : a_O × s_S := cond (gH (t_n (sT S)) x) (cond (gH (t_n (sT S)) y) (cond (decide (x = y)) (.inl 0, s_ref S 1) (.inl 1, s_act S (t_swp (sT S) x.toNatClampNeg y.toNatClampNeg))) (.inr 0, S)) (.inr 0, S)
def s_un (S : s_S) : s_S := ((sE S, sB S, (sA S).2 ((sA S).1 - 1)), ((sA S).1 - 1, (sA S).2), sW S, sF S, sP S, sX S, sI S)
def sp_undo (S : s_S) : a_O × s_S := cond (decide ((sA S).1 = 0)) (.inl (-1), S) (.inl (Int32.ofNat ((sA S).1 - 1)), s_un S)
section ACTC
variable {g N : Nat} {sw lv : Bool} {I : Nat → Nat → Int32} {L : Nat → Nat → Int64} {S : s_S} {T : tr_T}
theorem cC_fr {E : e_E} {mb : Nat} {I' : Nat → Nat → Int32} (h : cC E mb T sw I) (e : ∀ a, 79 ≤ a → a ≤ 105 → a ≠ 88 → a ≠ 98 → I' a = I a) : cC E mb T sw I' := by
  refine ⟨qC_fr h.1 (fun a p1 p2 => ?_), rC_fr h.2.1 (fun a p q => e a (by omega) (by omega) (by omega) (by omega)), ?_, h.2.2.2⟩
  · cases sw <;> simp only [cond_true, cond_false] at p1 p2 <;> exact e a (by omega) (by omega) (by omega) (by omega)
  · rw [e (cond sw 89 79) (by cases sw <;> decide) (by cases sw <;> decide) (by cases sw <;> decide) (by cases sw <;> decide)]
    exact h.2.2.1
theorem cM_fr {E : e_E} {mb : Nat} {I' : Nat → Nat → Int32} (h : cM E mb T I) (e : ∀ a, a ≠ 147 → a ≠ 167 → I' a = I a) (e2 : ∀ j, j ≠ 35 → I' 147 j = I 147 j) : cM E mb T I' := by
  refine ⟨qM_fr h.1 (fun a p q => e a (by omega) (by omega)), rM_fr h.2.1 (fun a q => e a (by omega) (by omega)) (e2 33 (by decide)) (e2 34 (by decide)), (e2 37 (by decide)).trans h.2.2.1, fun j hj => ?_⟩
  rw [e 152 (by decide) (by decide)]
  exact h.2.2.2 j hj
theorem KC_act {T' : tr_T} {x : Option am_Res} {v : Int32} {I1 I2 : Nat → Nat → Int32} (h : sC S sw I) (ha : aC 119 (k_keep (sA S) (sT S)) I1) (f1 : ∀ a, a ≠ 119 → a ≠ 120 → I1 a = I a) (hr : rC 99 T' I2) (f2 : ∀ a, a < 88 ∨ 88 < a ∧ a < 98 ∨ 108 < a → I2 a = I1 a) (e : x = some (.inl (some (.int v)), am_hp g N sw lv I2 L)) : KC g N sw lv L I x (.inl v) (s_act S T') :=
  KC_v (sC_act h (aC_fr ha (f2 119 (by decide)) (f2 120 (by decide))) hr (fun a q => (f2 a (by omega)).trans (f1 a (by omega) (by omega)))) (fun a q => (f2 a (by omega)).trans (f1 a (by omega) (by omega))) e
theorem KM_act {T' : tr_T} {x : Option am_Res} {v : Int32} {k : Nat → Nat} {I1 I2 : Nat → Nat → Int32} (h : sM S I) (ha : aM 167 35 (k_keep (sA S) (sT S)) I1) (f1 : ∀ a, a ≠ 147 → a ≠ 167 → I1 a = (am_up I 147 (upd (I 147) 4 0)) a) (f3 : ∀ j, j ≠ 35 → I1 147 j = (am_up I 147 (upd (I 147) 4 0)) 147 j) (hr : rM T' I2) (hn : t_n T' = t_n (sT S)) (f2 : ∀ a, a ≠ 147 → (a < 162 ∨ a = 167 ∨ 170 < a) → I2 a = I1 a) (f4 : ∀ j, j ≠ 33 → j ≠ 34 → I2 147 j = I1 147 j) (e : x = some (.inl (some (.int v)), am_hp g N sw lv I2 L)) : KM g N sw lv L I k x (.inl v) (s_act S T') := by
  refine KM_v (sM_act h (aM_fr ha (f4 35 (by decide) (by decide)) (f2 167 (by decide) (by decide))) hr hn (fun a q => ?_) (fun j p1 p2 p3 p4 => ?_)) (fun a q => ?_) ?_ e
  · rw [f2 a (by omega) (by omega), f1 a (by omega) (by omega), up_ne (by omega)]
  · rw [f4 j p2 p3, f3 j p4, up_same, upd_ne p1]
  · rw [f2 a (by omega) (by omega), f1 a (by omega) (by omega), up_ne (by omega)]
  · rw [f4 4 (by decide) (by decide), f3 4 (by decide), up_same, upd_same]
theorem sG_T (hg : sG S) : t_ok (sT S) ∧ t_d (sT S) ≤ 1000 := ⟨hg.1.1, Int32.le_trans hg.1.2.2.1 (by decide)⟩
theorem C_days (h : sC S sw I) (hg : sG S) (x : Int32) : KC g N sw lv L I (am_R 13 7 0 [.ref 75, .int x] [] (am_hp g N sw lv I L)) (sp_days S x).1 (sp_days S x).2 := by
  obtain ⟨ht, hd⟩ := sG_T hg
  rw [y_Ca_days_0 _, g_I2, h.1.2.1.2.1]
  unfold sp_days
  cases h1 : gI 1 20 x with
  | false => exact KC_ref h 1 (by decide) rfl
  | true =>
    cases h2 : decide (t_d (sT S) + x ≤ 999) with
    | false => exact KC_ref h 1 (by decide) rfl
    | true =>
      obtain ⟨d, hd1, hd2, rfl⟩ := gI_at1 (b := 20) (by decide) h1
      obtain ⟨I1, a1, a2, a3⟩ := C_keep (g := g) (N := N) (lv := lv) (L := L) h hg
      have c1 := cC_fr h.1 (fun a p1 p2 p3 p4 => a3 a (by omega) (by omega))
      obtain ⟨I2, b1, b2, b3⟩ := rC_days (g := g) (N := N) (sw := sw) (lv := lv) (L := L) a_99 (a_isc sw) c1.2.1 ht c1.1 (Int32.le_trans hd (by decide)) (show d ≤ 50 by omega)
      simp only [cond_true]
      rw [nb_tn (by omega), a1, am_bd_ok, am_tn, y_Ca_days_49 _, b1, am_bd_ok, am_tn, y_Ca_days_61 _, b2.2.1]
      exact KC_act h a2 a3 b2 (fun a q => b3 a (by omega) (by omega) (by omega) (by omega) (by omega) (by cases sw <;> simp only [cond_true, cond_false] <;> omega)) rfl
theorem M_days (h : sM S I) (hg : sG S) (x : Int32) : KM g N sw lv L I k1 (am_R 188 8 0 [.ref 147, .int x] [] (am_hp g N sw lv I L)) (sp_days S x).1 (sp_days S x).2 := by
  obtain ⟨ht, hd⟩ := sG_T hg
  rw [y_Mo_days_0 _, m_inL (a := 1) (b := 20) (by decide) (by decide), show (upd (I 147) 4 0) 33 = t_d (sT S) from (upd_ne (by decide)).trans h.1.2.1.2.1]
  unfold sp_days
  cases h1 : gI 1 20 x with
  | false => exact KM_ref h 1 (by decide) rfl
  | true =>
    cases h2 : decide (t_d (sT S) + x ≤ 999) with
    | false => exact KM_ref h 1 (by decide) rfl
    | true =>
      obtain ⟨d, hd1, hd2, rfl⟩ := gI_at1 (b := 20) (by decide) h1
      obtain ⟨I1, a1, a2, a3, a4⟩ := M_keep (g := g) (N := N) (sw := sw) (lv := lv) (L := L) (sM_4 h 0) hg
      have c1 := cM_fr (cM_4 h.1 0) a3 a4
      obtain ⟨I2, b1, b2, b3⟩ := rM_days (g := g) (N := N) (sw := sw) (lv := lv) (L := L) c1.2.1 ht c1.1 c1.2.2.1 (Int32.le_trans hd (by decide)) (show d ≤ 50 by omega)
      simp only [cond_true]
      rw [d_f (by decide : ¬ (1 : Int32) = 0), nb_tn (show d < 100000 by omega), a1, am_bd_ok, am_tn, y_Mo_days_39 _, b1, am_bd_ok, am_tn, y_Mo_days_44 _, b2.2.1]
      exact KM_act h a2 a3 a4 b2 (t_dn_ok ht (Int32.le_trans hd (by decide)) d (by omega)).2.1 (fun a p q => b3.1 a p (by omega) (by omega) (by omega) (by omega) (by omega)) (fun j p q => b3.2 j p q) rfl
theorem G_days (hg : sG S) (x : Int32) : sG (sp_days S x).2 := by
  obtain ⟨ht, hd⟩ := sG_T hg
  unfold sp_days
  cases h1 : gI 1 20 x with
  | false => exact sG_ref hg 1
  | true =>
    cases h2 : decide (t_d (sT S) + x ≤ 999) with
    | false => exact sG_ref hg 1
    | true =>
      obtain ⟨d, hd1, hd2, rfl⟩ := gI_at1 (b := 20) (by decide) h1
      obtain ⟨m1, m2, m3⟩ := t_dn_ok (E := sE S) ht (Int32.le_trans hd (by decide)) d (by omega)
      simp only [cond_true]
      rw [nb_tn (by omega)]
      refine sG_act hg ⟨m1, m2, ?_, t_pos_dn ht (Int32.le_trans hd (by decide)) hg.1.2.2.2 d (by omega)⟩
      rw [m3]
      exact of_decide_eq_true h2
theorem C_prop (h : sC S sw I) (hg : sG S) (x : Int32) : KC g N sw lv L I (am_R 91 3 0 [.ref 75, .int x] [] (am_hp g N sw lv I L)) (sp_prop S x).1 (sp_prop S x).2 := by
  obtain ⟨ht, hd⟩ := sG_T hg
  have hn := ht.1
  rw [y_Ca_prop_0 _, h.1.2.1.1, g_H]
  unfold sp_prop
  cases h1 : gH (t_n (sT S)) x with
  | false => exact KC_t h rfl
  | true =>
    obtain ⟨k, hk, rfl⟩ := gH_at hn h1
    obtain ⟨I1, a1, a2, a3⟩ := C_keep (g := g) (N := N) (lv := lv) (L := L) h hg
    have c1 := cC_fr h.1 (fun a p1 p2 p3 p4 => a3 a (by omega) (by omega))
    simp only [cond_true]
    rw [nb_tn (by omega), rC_stands h.1.2.1 ht hk, i_b0, nb_inb (show k < 8 by omega) (by omega), show I 101 k = t_le (sT S) k from (h.1.2.1.2.2.2.1 k hk).2.1, a1, am_bd_ok, am_tn, y_Ca_prop_51 _, nb_inb (show k < 8 by omega) (by omega), nb_tn (by omega)]
    cases hu : t_up (sT S) k with
    | false => exact KC_ref h 1 (by decide) rfl
    | true =>
      cases hl : decide (t_le (sT S) k = 0) with
      | true => exact KC_ref h 1 (by decide) rfl
      | false => exact KC_act h a2 a3 (rC_w2 (r := 99) c1.2.1 k 0) (fun a q => up_ne (by omega)) rfl
theorem M_prop (h : sM S I) (hg : sG S) (x : Int32) : KM g N sw lv L I k1 (am_R 202 3 0 [.ref 147, .int x] [] (am_hp g N sw lv I L)) (sp_prop S x).1 (sp_prop S x).2 := by
  obtain ⟨ht, hd⟩ := sG_T hg
  have hn := ht.1
  have h4 := cM_4 h.1 0
  obtain ⟨q1, q2⟩ := m_H h4.2.1 ht x
  rw [y_Mo_prop_0 _, q1, q2]
  unfold sp_prop
  cases h1 : gH (t_n (sT S)) x with
  | false => exact KM_t (c := 0) h rfl
  | true =>
    obtain ⟨k, hk, rfl⟩ := gH_at hn h1
    obtain ⟨I1, a1, a2, a3, a4⟩ := M_keep (g := g) (N := N) (sw := sw) (lv := lv) (L := L) (sM_4 h 0) hg
    have c1 := cM_fr h4 a3 a4
    simp only [cond_true]
    rw [d_f (by decide : ¬ (1 : Int32) = 0), nb_tn (by omega), rM_stands h4.2.1 ht hk, i_b0, nb_inb (show k < 8 by omega) (by omega), show I 163 k = t_le (sT S) k from (h.1.2.1.2.2.2.1 k hk).2.1, a1, am_bd_ok, am_tn, y_Mo_prop_45 _, nb_inb (show k < 8 by omega) (by omega), nb_tn (by omega)]
    cases hu : t_up (sT S) k with
    | false => exact KM_ref h 1 (by decide) rfl
    | true =>
      cases hl : decide (t_le (sT S) k = 0) with
      | true => exact KM_ref h 1 (by decide) rfl
      | false => exact KM_act h a2 a3 a4 (rM_w2 c1.2.1 k 0) rfl (fun a p q => up_ne (by omega)) (fun j p q => by rw [up_ne (by decide)]) rfl
theorem pr_ok (ht : t_ok T) (k : Nat) : t_ok (pr_T T k) := t_ok_put ht ht.2.1 (fun j hj => (ht.2.2.2.1 j hj).1) (fun j hj => by
  by_cases q : j = k
  · rw [q, upd_same]
    decide
  · rw [upd_ne q]
    exact (ht.2.2.2.1 j hj).2.1)
theorem G_prop (hg : sG S) (x : Int32) : sG (sp_prop S x).2 := by
  obtain ⟨ht, hd⟩ := sG_T hg
  unfold sp_prop
  cases h1 : gH (t_n (sT S)) x with
  | false => exact hg
  | true =>
    cases h2 : (t_up (sT S) x.toNatClampNeg && !decide (t_le (sT S) x.toNatClampNeg = 0)) with
    | false => exact sG_ref hg 1
    | true => exact sG_act hg ⟨pr_ok ht _, rfl, hg.1.2.2.1, hg.1.2.2.2⟩
theorem C_cast (h : sC S sw I) (hg : sG S) (x y : Int32) : KC g N sw lv L I (am_R 92 3 0 [.ref 75, .int x, .int y] [] (am_hp g N sw lv I L)) (sp_cast S x y).1 (sp_cast S x y).2 := by
  obtain ⟨ht, hd⟩ := sG_T hg
  have hn := ht.1
  rw [y_Ca_cast_0 _ _, h.1.2.1.1, g_I, g_H]
  unfold sp_cast
  cases h1 : gH (t_n (sT S)) x with
  | false => exact KC_t h rfl
  | true =>
    cases h2 : gI 1 50 y with
    | false => exact KC_ref h 1 (by decide) rfl
    | true =>
      obtain ⟨k, hk, rfl⟩ := gH_at hn h1
      obtain ⟨m, hm1, hm2, rfl⟩ := gI_at1 (b := 50) (by decide) h2
      obtain ⟨I1, a1, a2, a3⟩ := C_keep (g := g) (N := N) (lv := lv) (L := L) h hg
      have c1 := cC_fr h.1 (fun a p1 p2 p3 p4 => a3 a (by omega) (by omega))
      obtain ⟨I2, b1, b2, b3⟩ := rC_cast (g := g) (N := N) (sw := sw) (lv := lv) (L := L) a_99 c1.2.1 ht hk (show m < 100 by omega)
      have hk2 : k < t_n (t_cast (sT S) k m) := by
        rw [(t_cast_ok ht hk (show m < 100 by omega)).2.1]
        exact hk
      simp only [cond_true]
      rw [nb_tn (show k < 100000 by omega), nb_tn (show m < 100000 by omega), a1, am_bd_ok, am_tn, y_Ca_cast_39 _ _, b1, am_bd_ok, am_tn, y_Ca_cast_48 _ _, nb_inb (show k < 8 by omega) (by omega), nb_tn (by omega), show I2 100 k = _ from (b2.2.2.2.1 k hk2).1]
      exact KC_act h a2 a3 b2 (fun a q => b3 a (by omega) (by omega) (by omega)) rfl
theorem M_cast (h : sM S I) (hg : sG S) (x y : Int32) : KM g N sw lv L I k1 (am_R 205 4 0 [.ref 147, .int x, .int y] [] (am_hp g N sw lv I L)) (sp_cast S x y).1 (sp_cast S x y).2 := by
  obtain ⟨ht, hd⟩ := sG_T hg
  have hn := ht.1
  have h4 := cM_4 h.1 0
  obtain ⟨q1, q2⟩ := m_H h4.2.1 ht x
  rw [y_Mo_cast_0 _ _, q1, q2, m_inL (a := 1) (b := 50) (by decide) (by decide)]
  unfold sp_cast
  cases h1 : gH (t_n (sT S)) x with
  | false => exact KM_t (c := 0) h rfl
  | true =>
    cases h2 : gI 1 50 y with
    | false => exact KM_ref h 1 (by decide) rfl
    | true =>
      obtain ⟨k, hk, rfl⟩ := gH_at hn h1
      obtain ⟨m, hm1, hm2, rfl⟩ := gI_at1 (b := 50) (by decide) h2
      obtain ⟨I1, a1, a2, a3, a4⟩ := M_keep (g := g) (N := N) (sw := sw) (lv := lv) (L := L) (sM_4 h 0) hg
      have c1 := cM_fr h4 a3 a4
      obtain ⟨I2, b1, b2, b3, b4⟩ := rM_cast (g := g) (N := N) (sw := sw) (lv := lv) (L := L) c1.2.1 ht hk (show m < 100 by omega)
      have hkn := (t_cast_ok ht hk (show m < 100 by omega)).2.1
      have hk2 : k < t_n (t_cast (sT S) k m) := by
        rw [hkn]
        exact hk
      simp only [cond_true]
      rw [d_f (by decide : ¬ (1 : Int32) = 0), d_f (by decide : ¬ (1 : Int32) = 0), nb_tn (show k < 100000 by omega), nb_tn (show m < 100000 by omega), a1, am_bd_ok, am_tn, y_Mo_cast_41 _ _, b1, am_bd_ok, am_tn, y_Mo_cast_47 _ _, nb_inb (show k < 8 by omega) (by omega), nb_tn (by omega), show I2 162 k = _ from (b2.2.2.2.1 k hk2).1]
      exact KM_act h a2 a3 a4 b2 hkn (fun a p q => b3 a p (by omega) (by omega)) (fun j p q => b4 j q) rfl
theorem cast_pos (ht : t_ok T) (hp : t_pos T) {k m : Nat} (hk : k < t_n T) (hm1 : 1 ≤ m) (hm : m < 100) : t_pos (t_cast T k m) := by
  obtain ⟨s, hs, es⟩ := su_nat ht hk
  have key : 0 < v_Ma_min 99 (t_su T k + Int32.ofNat m) := by
    rw [es, tc_a hs hm]
    exact (nb_lt (a := 0) (by omega) (by omega)).mpr (by omega)
  have hs8 := b_256 ht.1 ht.2.1
  unfold t_cast
  cases hu : t_up T k with
  | true =>
    intro j hj q
    show 0 < upd (t_su T) k _ j
    by_cases e : j = k
    · rw [e, upd_same]
      exact key
    · rw [upd_ne e]
      exact hp j hj q
  | false =>
    intro j hj q
    show 0 < upd (t_su T) k _ j
    by_cases e : j = k
    · rw [e, upd_same]
      exact key
    · rw [upd_ne e]
      have q2 : (b_on (t_s T) k).testBit j = true := q
      rw [b_on_at, decide_eq_false (fun w => e w.symm), Bool.or_false] at q2
      exact hp j hj q2
theorem G_cast (hg : sG S) (x y : Int32) : sG (sp_cast S x y).2 := by
  obtain ⟨ht, hd⟩ := sG_T hg
  unfold sp_cast
  cases h1 : gH (t_n (sT S)) x with
  | false => exact hg
  | true =>
    cases h2 : gI 1 50 y with
    | false => exact sG_ref hg 1
    | true =>
      obtain ⟨k, hk, rfl⟩ := gH_at ht.1 h1
      obtain ⟨m, hm1, hm2, rfl⟩ := gI_at1 (b := 50) (by decide) h2
      have hn := ht.1
      obtain ⟨o1, o2, o3⟩ := t_cast_ok ht hk (show m < 100 by omega)
      simp only [cond_true]
      rw [nb_tn (show k < 100000 by omega), nb_tn (show m < 100000 by omega)]
      refine sG_act hg ⟨o1, o2, ?_, cast_pos ht hg.1.2.2.2 hk hm1 (by omega)⟩
      rw [o3]
      exact hg.1.2.2.1
theorem C_lick (h : sC S sw I) (hg : sG S) (x y : Int32) : KC g N sw lv L I (am_R 94 3 0 [.ref 75, .int x, .int y] [] (am_hp g N sw lv I L)) (sp_lick S x y).1 (sp_lick S x y).2 := by
  obtain ⟨ht, hd⟩ := sG_T hg
  have hn := ht.1
  rw [y_Ca_lick_0 _ _, h.1.2.1.1, g_I2, g_H]
  unfold sp_lick
  cases h1 : gH (t_n (sT S)) x with
  | false => exact KC_t h rfl
  | true =>
    cases h2 : gI 1 9 y with
    | false => exact KC_ref h 1 (by decide) rfl
    | true =>
      obtain ⟨k, hk, rfl⟩ := gH_at hn h1
      obtain ⟨I1, a1, a2, a3⟩ := C_keep (g := g) (N := N) (lv := lv) (L := L) h hg
      have c1 := cC_fr h.1 (fun a p1 p2 p3 p4 => a3 a (by omega) (by omega))
      simp only [cond_true]
      rw [nb_tn (show k < 100000 by omega), nb_inb (show k < 8 by omega) (by omega), show I 100 k = t_su (sT S) k from (h.1.2.1.2.2.2.1 k hk).1, a1, am_bd_ok, am_tn, y_Ca_lick_52 _ _, nb_inb (show k < 8 by omega) (by omega), nb_tn (show k < 100000 by omega), show I1 100 k = t_su (sT S) k from (c1.2.1.2.2.2.1 k hk).1, upd_same]
      cases decide (y < t_su (sT S) k) with
      | false => exact KC_ref h 1 (by decide) rfl
      | true => exact KC_act h a2 a3 (rC_w1 (r := 99) c1.2.1 k _) (fun a q => up_ne (by omega)) rfl
theorem M_lick (h : sM S I) (hg : sG S) (x y : Int32) : KM g N sw lv L I k1 (am_R 207 3 0 [.ref 147, .int x, .int y] [] (am_hp g N sw lv I L)) (sp_lick S x y).1 (sp_lick S x y).2 := by
  obtain ⟨ht, hd⟩ := sG_T hg
  have hn := ht.1
  have h4 := cM_4 h.1 0
  obtain ⟨q1, q2⟩ := m_H h4.2.1 ht x
  rw [y_Mo_lick_0 _ _, q1, q2, m_inL (a := 1) (b := 9) (by decide) (by decide)]
  unfold sp_lick
  cases h1 : gH (t_n (sT S)) x with
  | false => exact KM_t (c := 0) h rfl
  | true =>
    cases h2 : gI 1 9 y with
    | false => exact KM_ref h 1 (by decide) rfl
    | true =>
      obtain ⟨k, hk, rfl⟩ := gH_at hn h1
      obtain ⟨I1, a1, a2, a3, a4⟩ := M_keep (g := g) (N := N) (sw := sw) (lv := lv) (L := L) (sM_4 h 0) hg
      have c1 := cM_fr h4 a3 a4
      simp only [cond_true]
      rw [d_f (by decide : ¬ (1 : Int32) = 0), d_f (by decide : ¬ (1 : Int32) = 0), nb_tn (show k < 100000 by omega), nb_inb (show k < 8 by omega) (by omega), show I 162 k = t_su (sT S) k from (h.1.2.1.2.2.2.1 k hk).1, a1, am_bd_ok, am_tn, y_Mo_lick_51 _ _, nb_inb (show k < 8 by omega) (by omega), nb_tn (show k < 100000 by omega), show I1 162 k = t_su (sT S) k from (c1.2.1.2.2.2.1 k hk).1, upd_same]
      cases decide (y < t_su (sT S) k) with
      | false => exact KM_ref h 1 (by decide) rfl
      | true => exact KM_act h a2 a3 a4 (rM_w1 c1.2.1 k _) rfl (fun a p q => up_ne (by omega)) (fun j p q => by rw [up_ne (by decide)]) rfl
theorem G_lick (hg : sG S) (x y : Int32) : sG (sp_lick S x y).2 := by
  obtain ⟨ht, hd⟩ := sG_T hg
  unfold sp_lick
  cases h1 : gH (t_n (sT S)) x with
  | false => exact hg
  | true =>
    cases h2 : gI 1 9 y with
    | false => exact sG_ref hg 1
    | true =>
      cases h3 : decide (y < t_su (sT S) x.toNatClampNeg) with
      | false => exact sG_ref hg 1
      | true =>
        obtain ⟨k, hk, rfl⟩ := gH_at ht.1 h1
        obtain ⟨m, hm1, hm2, rfl⟩ := gI_at1 (b := 9) (by decide) h2
        have hn := ht.1
        simp only [cond_true]
        rw [nb_tn (show k < 100000 by omega)] at h3 ⊢
        obtain ⟨s, hs, es⟩ := su_nat ht hk
        have h4 := of_decide_eq_true h3
        rw [es, nb_lt (by omega) (by omega)] at h4
        have e : t_su (sT S) k - Int32.ofNat m = Int32.ofNat (s - m) := by
          rw [es]
          exact (Int32.ofNat_sub s m (by omega)).symm
        refine sG_act hg ⟨t_ok_put ht ht.2.1 (fun j hj => ?_) (fun j hj => (ht.2.2.2.1 j hj).2.1), rfl, hg.1.2.2.1, fun j hj q => ?_⟩
        · by_cases w : j = k
          · rw [w, upd_same, e]
            exact ⟨(nb_le (a := 0) (by omega) (by omega)).mpr (by omega), (nb_le (b := 99) (by omega) (by omega)).mpr (by omega)⟩
          · rw [upd_ne w]
            exact (ht.2.2.2.1 j hj).1
        · show 0 < upd (t_su (sT S)) k _ j
          by_cases w : j = k
          · rw [w, upd_same, e]
            exact (nb_lt (a := 0) (by omega) (by omega)).mpr (by omega)
          · rw [upd_ne w]
            exact hg.1.2.2.2 j hj q
theorem trn_ok (ht : t_ok T) {k q : Nat} (hq : q < 6) : t_ok (t_trn T k q) := by
  have hp : 2 ^ q < 2 ^ 6 := Nat.pow_lt_pow_right (by decide) hq
  refine ⟨ht.1, ht.2.1, ht.2.2.1, fun j hj => ?_, ht.2.2.2.2⟩
  obtain ⟨j1, j2, j3, j4, j5, j6⟩ := ht.2.2.2.1 j hj
  refine ⟨j1, j2, ?_, ?_, j5, j6⟩
  · show un (t_fi T) k _ j < 64
    by_cases w : j = k
    · rw [← w, un_same]
      exact Nat.xor_lt_two_pow (n := 6) j3 hp
    · rw [un_ne w]
      exact j3
  · show un (t_se T) k _ j < 64
    by_cases w : j = k
    · rw [← w, un_same]
      exact Nat.xor_lt_two_pow (n := 6) j4 hp
    · rw [un_ne w]
      exact j4
theorem trn_x {a q : Nat} (ha : a < 64) (hq : q < 6) : Int32.ofNat a ^^^ ((1 : Int32) <<< (Int32.ofNat q &&& 31)) = Int32.ofNat (a ^^^ 2 ^ q) := by
  rw [bt_shl q (by omega)]
  exact bt_xor _ (by omega) _ (b_2p (by omega))
theorem rC_trn (hr : rC 99 T I) (ht : t_ok T) {k q : Nat} (hk : k < t_n T) (hq : q < 6) : rC 99 (t_trn T k q) (am_up (am_up I 102 (upd (I 102) k (Int32.ofNat (t_fi T k ^^^ 2 ^ q)))) 103 (upd (I 103) k (Int32.ofNat (t_se T k ^^^ 2 ^ q)))) := by
  obtain ⟨h0, h1, h2, h3, h4⟩ := hr
  refine ⟨h0, h1, h2, fun j hj => ?_, h4⟩
  obtain ⟨j1, j2, j3, j4, j5⟩ := h3 j hj
  refine ⟨j1, j2, ?_, ?_, j5⟩
  · show upd (I 102) k _ j = Int32.ofNat (un (t_fi T) k _ j)
    by_cases w : j = k
    · rw [w, upd_same, un_same]
    · rw [upd_ne w, un_ne w]
      exact j3
  · show upd (I 103) k _ j = Int32.ofNat (un (t_se T) k _ j)
    by_cases w : j = k
    · rw [w, upd_same, un_same]
    · rw [upd_ne w, un_ne w]
      exact j4
theorem rM_trn (hr : rM T I) (ht : t_ok T) {k q : Nat} (hk : k < t_n T) (hq : q < 6) : rM (t_trn T k q) (am_up (am_up I 165 (upd (I 165) k (Int32.ofNat (t_fi T k ^^^ 2 ^ q)))) 166 (upd (I 166) k (Int32.ofNat (t_se T k ^^^ 2 ^ q)))) := by
  obtain ⟨h0, h1, h2, h3, h4⟩ := hr
  refine ⟨h0, h1, h2, fun j hj => ?_, h4⟩
  obtain ⟨j1, j2, j3, j4⟩ := h3 j hj
  refine ⟨j1, j2, ?_, ?_⟩
  · show upd (I 165) k _ j = Int32.ofNat (un (t_fi T) k _ j)
    by_cases w : j = k
    · rw [w, upd_same, un_same]
    · rw [upd_ne w, un_ne w]
      exact j3
  · show upd (I 166) k _ j = Int32.ofNat (un (t_se T) k _ j)
    by_cases w : j = k
    · rw [w, upd_same, un_same]
    · rw [upd_ne w, un_ne w]
      exact j4
theorem C_turn (h : sC S sw I) (hg : sG S) (x y : Int32) : KC g N sw lv L I (am_R 95 3 0 [.ref 75, .int x, .int y] [] (am_hp g N sw lv I L)) (sp_turn S x y).1 (sp_turn S x y).2 := by
  obtain ⟨ht, hd⟩ := sG_T hg
  have hn := ht.1
  rw [y_Ca_turn_0 _ _, h.1.2.1.1, g_6, g_H]
  unfold sp_turn
  cases h1 : gH (t_n (sT S)) x with
  | false => exact KC_t h rfl
  | true =>
    cases h2 : gH 6 y with
    | false => exact KC_t h rfl
    | true =>
      obtain ⟨k, hk, rfl⟩ := gH_at hn h1
      obtain ⟨q, hq, rfl⟩ := gH_at (by decide) h2
      obtain ⟨I1, a1, a2, a3⟩ := C_keep (g := g) (N := N) (lv := lv) (L := L) h hg
      have c1 := cC_fr h.1 (fun a p1 p2 p3 p4 => a3 a (by omega) (by omega))
      obtain ⟨j1, j2, j3, j4, j5, j6⟩ := ht.2.2.2.1 k hk
      have w := rC_trn c1.2.1 ht hk hq
      obtain ⟨o1, o2⟩ := rC_op w (trn_ok ht hq) hk
      simp only [cond_true]
      rw [nb_tn (show k < 100000 by omega), nb_tn (show q < 100000 by omega), a1, am_bd_ok, am_tn, y_Ca_turn_20 _ _, nb_inb (show k < 8 by omega) (by omega), nb_tn (show k < 100000 by omega), show I1 102 k = Int32.ofNat (t_fi (sT S) k) from (c1.2.1.2.2.2.1 k hk).2.2.1, show I1 103 k = Int32.ofNat (t_se (sT S) k) from (c1.2.1.2.2.2.1 k hk).2.2.2.1, trn_x j3 hq, trn_x j4 hq, o1, o2]
      exact KC_act h a2 a3 w (fun a q => by rw [up_ne (by omega), up_ne (by omega)]) rfl
theorem M_turn (h : sM S I) (hg : sG S) (x y : Int32) : KM g N sw lv L I k1 (am_R 208 3 0 [.ref 147, .int x, .int y] [] (am_hp g N sw lv I L)) (sp_turn S x y).1 (sp_turn S x y).2 := by
  obtain ⟨ht, hd⟩ := sG_T hg
  have hn := ht.1
  have h4 := cM_4 h.1 0
  obtain ⟨q1, q2⟩ := m_H h4.2.1 ht x
  obtain ⟨q3, q4⟩ := m_q y
  rw [y_Mo_turn_0 _ _, q1, q2, q3, q4]
  unfold sp_turn
  cases h1 : gH (t_n (sT S)) x with
  | false => exact KM_t (c := 0) h rfl
  | true =>
    cases h2 : gH 6 y with
    | false => exact KM_t (c := 0) h rfl
    | true =>
      obtain ⟨k, hk, rfl⟩ := gH_at hn h1
      obtain ⟨q, hq, rfl⟩ := gH_at (by decide) h2
      obtain ⟨I1, a1, a2, a3, a4⟩ := M_keep (g := g) (N := N) (sw := sw) (lv := lv) (L := L) (sM_4 h 0) hg
      have c1 := cM_fr h4 a3 a4
      obtain ⟨j1, j2, j3, j4, j5, j6⟩ := ht.2.2.2.1 k hk
      have w := rM_trn c1.2.1 ht hk hq
      obtain ⟨o1, o2⟩ := rM_op w (trn_ok ht hq) hk
      simp only [cond_true]
      rw [d_f (by decide : ¬ (1 : Int32) = 0), d_f (by decide : ¬ (1 : Int32) = 0), nb_tn (show k < 100000 by omega), nb_tn (show q < 100000 by omega), a1, am_bd_ok, am_tn, y_Mo_turn_30 _ _, nb_inb (show k < 8 by omega) (by omega), nb_tn (show k < 100000 by omega), show I1 165 k = Int32.ofNat (t_fi (sT S) k) from (c1.2.1.2.2.2.1 k hk).2.2.1, show I1 166 k = Int32.ofNat (t_se (sT S) k) from (c1.2.1.2.2.2.1 k hk).2.2.2, trn_x j3 hq, trn_x j4 hq, o1, o2]
      exact KM_act h a2 a3 a4 w rfl (fun a p q => by rw [up_ne (by omega), up_ne (by omega)]) (fun j p q => by rw [up_ne (by decide), up_ne (by decide)]) rfl
theorem G_turn (hg : sG S) (x y : Int32) : sG (sp_turn S x y).2 := by
  obtain ⟨ht, hd⟩ := sG_T hg
  unfold sp_turn
  cases h1 : gH (t_n (sT S)) x with
  | false => exact hg
  | true =>
    cases h2 : gH 6 y with
    | false => exact hg
    | true =>
      obtain ⟨q, hq, rfl⟩ := gH_at (by decide) h2
      simp only [cond_true]
      rw [nb_tn (show q < 100000 by omega)]
      exact sG_act hg ⟨trn_ok ht hq, rfl, hg.1.2.2.1, hg.1.2.2.2⟩
theorem C_change (h : sC S sw I) (hg : sG S) (x y : Int32) : KC g N sw lv L I (am_R 97 3 0 [.ref 75, .int x, .int y] [] (am_hp g N sw lv I L)) (sp_change S x y).1 (sp_change S x y).2 := by
  obtain ⟨ht, hd⟩ := sG_T hg
  have hn := ht.1
  rw [y_Ca_change_0 _ _, h.1.2.1.1, g_H, g_H]
  unfold sp_change
  cases h1 : gH (t_n (sT S)) x with
  | false => exact KC_t h rfl
  | true =>
    cases h2 : gH (t_n (sT S)) y with
    | false => exact KC_t h rfl
    | true =>
      cases h3 : decide (x = y) with
      | true => exact KC_ref h 1 (by decide) rfl
      | false =>
        obtain ⟨k, hk, rfl⟩ := gH_at hn h1
        obtain ⟨q, hq, rfl⟩ := gH_at hn h2
        rw [nb_deq (by omega) (by omega)] at h3
        have hne : k ≠ q := of_decide_eq_false h3
        obtain ⟨I1, a1, a2, a3⟩ := C_keep (g := g) (N := N) (lv := lv) (L := L) h hg
        have c1 := cC_fr h.1 (fun a p1 p2 p3 p4 => a3 a (by omega) (by omega))
        obtain ⟨I2, b1, b2, b3⟩ := rC_swap (g := g) (N := N) (sw := sw) (lv := lv) (L := L) a_99 c1.2.1 ht hk hq hne
        simp only [cond_true, cond_false]
        rw [nb_tn (show k < 100000 by omega), nb_tn (show q < 100000 by omega), a1, am_bd_ok, am_tn, y_Ca_change_38 _ _, b1, am_bd_ok, am_tn, y_Ca_change_47 _ _]
        exact KC_act h a2 a3 b2 (fun a q => b3 a (by omega) (by omega)) rfl
theorem M_change (h : sM S I) (hg : sG S) (x y : Int32) : KM g N sw lv L I k1 (am_R 211 3 0 [.ref 147, .int x, .int y] [] (am_hp g N sw lv I L)) (sp_change S x y).1 (sp_change S x y).2 := by
  obtain ⟨ht, hd⟩ := sG_T hg
  have hn := ht.1
  have h4 := cM_4 h.1 0
  obtain ⟨q1, q2⟩ := m_H h4.2.1 ht x
  obtain ⟨q3, q4⟩ := m_H h4.2.1 ht y
  rw [y_Mo_change_0 _ _, q1, q2, q3, q4]
  unfold sp_change
  cases h1 : gH (t_n (sT S)) x with
  | false => exact KM_t (c := 0) h rfl
  | true =>
    cases h2 : gH (t_n (sT S)) y with
    | false => exact KM_t (c := 0) h rfl
    | true =>
      cases h3 : decide (x = y) with
      | true => exact KM_ref h 1 (by decide) rfl
      | false =>
        obtain ⟨k, hk, rfl⟩ := gH_at hn h1
        obtain ⟨q, hq, rfl⟩ := gH_at hn h2
        rw [nb_deq (by omega) (by omega)] at h3
        have hne : k ≠ q := of_decide_eq_false h3
        obtain ⟨I1, a1, a2, a3, a4⟩ := M_keep (g := g) (N := N) (sw := sw) (lv := lv) (L := L) (sM_4 h 0) hg
        have c1 := cM_fr h4 a3 a4
        obtain ⟨I2, b1, b2, b3⟩ := rM_swap (g := g) (N := N) (sw := sw) (lv := lv) (L := L) c1.2.1 ht hk hq hne
        simp only [cond_true, cond_false]
        rw [d_f (by decide : ¬ (1 : Int32) = 0), d_f (by decide : ¬ (1 : Int32) = 0), nb_tn (show k < 100000 by omega), nb_tn (show q < 100000 by omega), a1, am_bd_ok, am_tn, y_Mo_change_41 _ _, b1, am_bd_ok, am_tn, y_Mo_change_47 _ _]
        exact KM_act h a2 a3 a4 b2 rfl (fun a p q => b3 a (by omega)) (fun j p q => by rw [b3 147 (by decide)]) rfl
theorem G_change (hg : sG S) (x y : Int32) : sG (sp_change S x y).2 := by
  obtain ⟨ht, hd⟩ := sG_T hg
  have hn := ht.1
  unfold sp_change
  cases h1 : gH (t_n (sT S)) x with
  | false => exact hg
  | true =>
    cases h2 : gH (t_n (sT S)) y with
    | false => exact hg
    | true =>
      cases h3 : decide (x = y) with
      | true => exact sG_ref hg 1
      | false =>
        obtain ⟨k, hk, rfl⟩ := gH_at hn h1
        obtain ⟨q, hq, rfl⟩ := gH_at hn h2
        rw [nb_deq (by omega) (by omega)] at h3
        have hne : k ≠ q := of_decide_eq_false h3
        simp only [cond_true, cond_false]
        rw [nb_tn (show k < 100000 by omega), nb_tn (show q < 100000 by omega)]
        exact sG_act hg ⟨t_swp_ok ht hk hq hne, rfl, hg.1.2.2.1, hg.1.2.2.2⟩
theorem nb_m39 {a : Nat} (h : a < 40) : Int32.ofNat a + 40 - 1 - (Int32.ofNat a + 40 - 1) / 40 * 40 = Int32.ofNat ((a + 39) % 40) := by
  have e : Int32.ofNat a + 40 - 1 = Int32.ofNat (a + 39) := by
    rw [show Int32.ofNat a + 40 = Int32.ofNat (a + 40) from nb_add a 40]
    exact (Int32.ofNat_sub (a + 40) 1 (by omega)).symm
  rw [e]
  exact nb_m40 (by omega)
theorem C_undo (h : sC S sw I) (hg : sG S) : KC g N sw lv L I (am_R 29 3 0 [.ref 75] [] (am_hp g N sw lv I L)) (sp_undo S).1 (sp_undo S).2 := by
  obtain ⟨nx, n1, n2, n3, n4⟩ := h.2.1
  have hm := hg.2.1.1
  have ha : am_isa 119 := Or.inl rfl
  rw [y_Ca_undo_0, n2, show decide (Int32.ofNat (sA S).1 = 0) = decide ((sA S).1 = 0) from nb_deq (b := 0) (by omega) (by decide)]
  unfold sp_undo
  by_cases h0 : (sA S).1 = 0
  · rw [d_t h0, d_t h0]
    exact KC_v h (fun a _ => rfl) rfl
  · rw [d_f h0, d_f h0]
    have hg2 := hg.2.1.2 ((sA S).1 - 1) (by omega)
    have p4 := n4 ((sA S).1 - 1) (by omega)
    rw [show (nx + 40 - (sA S).1 + ((sA S).1 - 1)) % 40 = (nx + 39) % 40 by omega] at p4
    have q2 : upd (I 119) 2 (Int32.ofNat ((nx + 39) % 40)) 1 = Int32.ofNat (sA S).1 := by rw [upd_ne (by decide)]; exact n2
    have e1 : Int32.ofNat (sA S).1 - 1 = Int32.ofNat ((sA S).1 - 1) := (Int32.ofNat_sub (sA S).1 1 (by omega)).symm
    have q3 : upd (upd (I 119) 2 (Int32.ofNat ((nx + 39) % 40))) 1 (Int32.ofNat ((sA S).1 - 1)) 2 = Int32.ofNat ((nx + 39) % 40) := by rw [upd_ne (by decide), upd_same]
    obtain ⟨I2, b1, b2, b3⟩ := rC_unpack (g := g) (N := N) (sw := sw) (lv := lv) (L := L) (I := am_up (am_up I 119 (upd (I 119) 2 (Int32.ofNat ((nx + 39) % 40)))) 119 (upd (upd (I 119) 2 (Int32.ofNat ((nx + 39) % 40))) 1 (Int32.ofNat ((sA S).1 - 1)))) a_99 ha hg2.1 (by rw [up_ne (by decide), up_ne (by decide), hg2.2.1]; exact h.1.2.1.1) (o := 9 * ((nx + 39) % 40)) (by omega) (pC_fr p4 (by rw [up_ne (by decide), up_ne (by decide)]))
    have e2 : I2 119 = upd (upd (I 119) 2 (Int32.ofNat ((nx + 39) % 40))) 1 (Int32.ofNat ((sA S).1 - 1)) := by
      rw [b3 119 (by decide), up_same]
    have f : ∀ a, a < 99 ∨ 105 < a → a ≠ 119 → I2 a = I a := fun a p q => by rw [b3 a (by omega), up_ne q, up_ne q]
    obtain ⟨h1, h2, h3, h4, h5, h6, h7⟩ := h
    refine KC_v (S' := s_un S) (J := I2) (sC_of (S := S) ⟨h1, h2, h3, h4, h5, h6, h7⟩ b2 ⟨(nx + 39) % 40, Nat.mod_lt _ (by decide), ?_, ?_, fun i hi => ?_⟩ (wCs_fr h3 (fun a p q => f a (by omega) (by omega))) ?_ (tC_fr h5 (f 77 (by decide) (by decide)) (f 78 (by decide) (by decide))) ?_ (fun a q => f a (by omega) (by omega))) (fun a q => f a (by omega) (by omega)) ?_
    · rw [e2, upd_same]
    · rw [e2, upd_ne (by decide), upd_same]
    · have hi2 : i < (sA S).1 - 1 := hi
      show pC (119 + 1) (9 * (((nx + 39) % 40 + 40 - ((sA S).1 - 1) + i) % 40)) ((sA S).2 i) I2
      rw [show ((nx + 39) % 40 + 40 - ((sA S).1 - 1) + i) % 40 = (nx + 40 - (sA S).1 + i) % 40 by omega]
      exact pC_fr (n4 i (by omega)) (f (119 + 1) (by decide) (by decide))
    · rw [f 125 (by decide) (by decide)]
      exact h4
    · rw [f 75 (by decide) (by decide)]
      exact h6
    · rw [y_Ac_takeBack_0 a_99 ha, n2, show decide (Int32.ofNat (sA S).1 = 0) = decide ((sA S).1 = 0) from nb_deq (b := 0) (by omega) (by decide), d_f h0, n3, nb_m39 n1, q2, e1, q3, nb_9, b1, am_bd_ok, am_tn, y_Ac_takeBack_49 a_99 ha, am_bd_ok, am_tn, y_Ca_undo_23, e2, upd_same]
theorem M_undo (h : sM S I) (hg : sG S) : KM g N sw lv L I k1 (am_R 213 2 0 [.ref 147] [] (am_hp g N sw lv I L)) (sp_undo S).1 (sp_undo S).2 := by
  obtain ⟨m1, m2⟩ := h.2.1
  have hm := hg.2.1.1
  have ha : am_isk 167 := by unfold am_isk; omega
  have q1 : upd (I 147) 4 0 35 = Int32.ofNat (sA S).1 := by rw [upd_ne (by decide)]; exact m1
  rw [y_Mo_undo_0, q1, show decide (Int32.ofNat (sA S).1 = 0) = decide ((sA S).1 = 0) from nb_deq (b := 0) (by omega) (by decide)]
  unfold sp_undo
  by_cases h0 : (sA S).1 = 0
  · rw [d_t h0, d_t h0]
    exact KM_v (sM_4 h 0) (fun a q => up_ne (by omega)) (by rw [up_same, upd_same]) rfl
  · rw [d_f h0, d_f h0]
    have hg2 := hg.2.1.2 ((sA S).1 - 1) (by omega)
    have e1 : Int32.ofNat (sA S).1 - 1 = Int32.ofNat ((sA S).1 - 1) := (Int32.ofNat_sub (sA S).1 1 (by omega)).symm
    obtain ⟨I2, b1, b2, b3, b4⟩ := rM_unpack (g := g) (N := N) (sw := sw) (lv := lv) (L := L) (I := am_up (am_up I 147 (upd (I 147) 4 0)) 147 (upd (upd (I 147) 4 0) 35 (Int32.ofNat ((sA S).1 - 1)))) ha hg2.1 (by rw [up_ne (by decide), up_ne (by decide), hg2.2.1]; exact h.1.2.1.1) (o := 42 * ((sA S).1 - 1)) (show 42 * ((sA S).1 - 1) + 42 ≤ 1680 by omega) (show 1680 ≤ 2000 by decide) (pM_fr (m2 ((sA S).1 - 1) (by omega)) (by rw [up_ne (by decide), up_ne (by decide)]))
    have f : ∀ a, a ≠ 147 → a ≠ 162 → a ≠ 163 → a ≠ 164 → a ≠ 165 → a ≠ 166 → I2 a = I a := fun a p1 p2 p3 p4 p5 p6 => by rw [b3 a p1 p2 p3 p4 p5 p6, up_ne p1, up_ne p1]
    have f7 : ∀ j, j ≠ 4 → j ≠ 33 → j ≠ 34 → j ≠ 35 → I2 147 j = I 147 j := fun j p1 p2 p3 p4 => by rw [b4 j p2 p3, up_same, upd_ne p4, upd_ne p1]
    have f35 : I2 147 35 = Int32.ofNat ((sA S).1 - 1) := by rw [b4 35 (by decide) (by decide), up_same, upd_same]
    obtain ⟨h1, h2, h3, h4, h5, h6, h7⟩ := h
    refine KM_v (S' := s_un S) (J := I2) (sM_of (S := S) ⟨h1, h2, h3, h4, h5, h6, h7⟩ b2 hg2.2.1 ((f7 37 (by decide) (by decide) (by decide) (by decide)).trans h1.2.2.1) ⟨f35, fun i hi => pM_fr (m2 i (by have : i < (sA S).1 - 1 := hi; omega)) (f 167 (by decide) (by decide) (by decide) (by decide) (by decide) (by decide))⟩ (wMs_fr h3 (f7 36 (by decide) (by decide) (by decide) (by decide)) (f 172 (by decide) (by decide) (by decide) (by decide) (by decide) (by decide)) (f 173 (by decide) (by decide) (by decide) (by decide) (by decide) (by decide)) (f 175 (by decide) (by decide) (by decide) (by decide) (by decide) (by decide))) ?_ (tM_fr h5 (f7 16 (by decide) (by decide) (by decide) (by decide)) (f 161 (by decide) (by decide) (by decide) (by decide) (by decide) (by decide))) ((f7 25 (by decide) (by decide) (by decide) (by decide)).trans h6) (fun a q => f a (by omega) (by omega) (by omega) (by omega) (by omega) (by omega)) (fun j p q => f7 j (by omega) (by omega) (by omega) (by omega))) (fun a q => f a (by omega) (by omega) (by omega) (by omega) (by omega) (by omega)) ?_ ?_
    · rw [f 160 (by decide) (by decide) (by decide) (by decide) (by decide) (by decide)]
      exact h4
    · rw [b4 4 (by decide) (by decide), up_same, upd_ne (by decide), upd_same]
    · rw [e1, upd_same, nb_42, b1, am_bd_ok, am_tn, y_Mo_undo_39, f35]
theorem G_undo (hg : sG S) : sG (sp_undo S).2 := by
  unfold sp_undo
  by_cases h0 : (sA S).1 = 0
  · rw [d_t h0]
    exact hg
  · rw [d_f h0]
    obtain ⟨g1, g2, g3, g4, g5, g6⟩ := hg
    have hk := g2.2 ((sA S).1 - 1) (by omega)
    unfold sG s_un
    show gT (t_n ((sA S).2 ((sA S).1 - 1))) ((sA S).2 ((sA S).1 - 1)) ∧ gA (t_n ((sA S).2 ((sA S).1 - 1))) ((sA S).1 - 1, (sA S).2) ∧ gW (sW S) ∧ ((sP S).1 ≤ 700 ∧ ∀ i, i < (sP S).1 → (sP S).2 i < 256) ∧ e_pos (sE S) ∧ ∀ y, sI S = some y → gT (t_n ((sA S).2 ((sA S).1 - 1))) y.1 ∧ gA (t_n ((sA S).2 ((sA S).1 - 1))) y.2.1 ∧ gW y.2.2.1
    rw [hk.2.1]
    refine ⟨hk, ⟨?_, fun i hi => g2.2 i ?_⟩, g3, g4, g5, g6⟩
    · have := g2.1
      show (sA S).1 - 1 ≤ 40
      omega
    · have : i < (sA S).1 - 1 := hi
      omega
end ACTC
