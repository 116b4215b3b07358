/-! THE LAW: cabinet; its loop -/
section LWL
variable {g N : Nat} {sw lv : Bool} {I : Nat → Nat → Int32} {L : Nat → Nat → Int64} {S : s_S}
theorem vI_ru (h : vI I) (sw : Bool) : ru_v (cond sw 79 89) I := by
  cases sw with
  | true => exact h.2.1
  | false => exact h.2.2.1
theorem L_1x (hL : LwS S sw I) (x4 : Int32) (w5 w6 : Value) (hi1 : am_inb (x4 + 1) N = true) (hx : ¬ (0 ≤ I 0 (Int32.toNatClampNeg (x4 + 1)) ∧ I 0 (Int32.toNatClampNeg (x4 + 1)) ≤ Int32.ofNat (sP S).1)) : LwG g N sw lv I L x4 w5 w6 325 := by
  obtain ⟨hC, hM, hG, hV⟩ := id hL
  have hlt : ∀ x : Int32, ¬ (0 ≤ x) → x < 0 := fun x h => Int32.not_le.mp h
  refine LB_of (P1 := 336) (P2 := 348) (ka := 265) (ba := 104) (la := [.ref 75, .int (I 0 (Int32.toNatClampNeg (x4 + 1))), .ref 185, am_u]) (kb := 143) (bb := 102) (lb := [.ref 147, .int (I 0 (Int32.toNatClampNeg (x4 + 1))), am_u]) (S' := S) (fb := Int32.toInt64) (kk := k1) (o := .inr 1) hL ?_ ?_ ?_ rfl rfl ?_ ?_ hG (okO_r (Or.inl rfl))
  · rw [z_La_law_325 _ _ _, hi1, cond_true]
  · intro g1 I1 L1 y0 h0
    rw [z_La_law_336 _ _ _ _, hi1, cond_true, h0]
  · intro g1 I2 L1 k b h4 hk
    rw [z_La_law_348 _ _ _ _, e_Mo_thrown, am_bd_ok, am_tl, z_La_law_354 _ _ _ _, d_t (show v_Mo_thrown I2 = k from h4)]
    by_cases e : k = 0
    · rw [d_t e, d_t ((lg_cmp_eq _ _).mpr (hk e))]
    · rw [d_f e]
  · refine WC_of (p1 := 4) (p2 := 7) ((y_La_cabinet_0 _).trans (y_La_cabinet_4 _ _ _)) ?_ ?_ ?_
    · intro I1 L1 y
      exact (y_La_cabinet_7 _ _ _).trans rfl
    · intro c I1 L1 ho
      cases ho
      exact y_La_cabinet_13 _
    · refine KCL_of (KC_t (L := L) hC ?_)
      rw [y_Ca_cabinet_0 _, y_Ca_cabinet_18 _]
      by_cases h0 : 0 ≤ I 0 (Int32.toNatClampNeg (x4 + 1))
      · rw [d_f (Int32.not_lt.mpr h0), hC.2.2.2.2.1.1, d_f (fun z => hx ⟨h0, z⟩)]
      · rw [d_t (hlt _ h0)]
  · intro g1 I1 L1 hM1
    refine KM_t (v := 0) hM1 ?_
    have e17 : am_R 143 102 17 [.ref 147, .int (I 0 (Int32.toNatClampNeg (x4 + 1))), am_u] [] (am_hp g1 N sw lv (am_up I1 147 (upd (I1 147) 4 0)) L1) = some (.inl (some (.int 0)), am_hp g1 N sw lv (am_up (am_up I1 147 (upd (I1 147) 4 0)) 147 (upd (upd (I1 147) 4 0) 4 (Int32.ofNat (k1 1)))) L1) := by
      rw [y_Mo_cabinet_17 _, up_same]
      rfl
    rw [y_Mo_cabinet_0 _, e17]
    by_cases h0 : 0 ≤ I 0 (Int32.toNatClampNeg (x4 + 1))
    · rw [d_f (Int32.not_lt.mpr h0), show (upd (I1 147) 4 0) 16 = I1 147 16 from upd_ne (by decide), hM1.2.2.2.2.1.1, d_f (fun z => hx ⟨h0, z⟩)]
    · rw [d_t (hlt _ h0)]
theorem L_1 (hL : LwS S sw I) (x4 : Int32) (w5 w6 : Value) (hi1 : am_inb (x4 + 1) N = true) : LwG g N sw lv I L x4 w5 w6 325 := by
  by_cases hx : 0 ≤ I 0 (Int32.toNatClampNeg (x4 + 1)) ∧ I 0 (Int32.toNatClampNeg (x4 + 1)) ≤ Int32.ofNat (sP S).1
  · obtain ⟨hC, hM, hG, hV⟩ := id hL
    have hP := hG.2.2.2.1
    have hP1 := hP.1
    have hxn : ∃ n, n ≤ (sP S).1 ∧ I 0 (Int32.toNatClampNeg (x4 + 1)) = Int32.ofNat n := by
      refine ⟨(I 0 (Int32.toNatClampNeg (x4 + 1))).toNatClampNeg, ?_, (nb_of hx.1).symm⟩
      have h2 := hx.2
      rw [Int32.le_iff_toInt_le, nb_ti (by omega)] at h2
      unfold Int32.toNatClampNeg at h2 ⊢
      omega
    obtain ⟨n, hn, ex⟩ := hxn
    have hX : x_ok (n, (sP S).2) := ⟨by show n ≤ 700; omega, fun i hi => hP.2 i (Nat.lt_of_lt_of_le hi hn)⟩
    have hr : am_isc (cond sw 79 89) := by rw [am_iscF]; trivial
    obtain ⟨r, hz, hCL, hML⟩ := R_loop hX hr n 0 q_0 (Nat.zero_le _) (Nat.le_refl _) gQ_0
    obtain ⟨I1, A, c1, c2, c3, c4⟩ := C_cab (g := g) (N := N) (lv := lv) (L := L) hC hG hV.1 (vI_ru hV sw) hn hz hCL
    have w1 : am_R 265 104 0 [.ref 75, .int (Int32.ofNat n), .ref 185, am_u] [] (am_hp g N sw lv I L) = some (.inl (some (.int 0)), am_hp g N (sw_ r sw) lv I1 (am_up L 185 (vp_updL (L 185) 0 (Int32.toInt64 (pf_ r))))) := by
      rw [y_La_cabinet_0 _, y_La_cabinet_4 _ _ _, c1, am_bd_ok, am_tl]
      exact (y_La_cabinet_7 _ _ _).trans rfl
    obtain ⟨v1, v2⟩ := vI_run rfl hV w1
    obtain ⟨I2, lv', m1, m2, m3, m4⟩ := M_cab (g := g) (N := N) (sw := sw_ r sw) (lv := lv) (L := am_up L 185 (vp_updL (L 185) 0 (Int32.toInt64 (pf_ r)))) (sM_fr hM c3) hG v1.1 v1.2.2.2 hn hz hML c4
    obtain ⟨v3, v4⟩ := vI_run rfl v1 m1
    refine ⟨g, s_cab S r A, sw_ r sw, lv', I2, am_up L 185 (vp_updL (L 185) 0 (Int32.toInt64 (pf_ r))), .int 0, .int (pf_ r), ?_, ⟨sC_fr c2 m3, m2, G_cab hG hz A, v3⟩, v4.trans v2, Nat.le_refl _, Nat.le_succ _⟩
    rw [z_La_law_325 _ _ _, hi1, cond_true, ex, w1, am_bd_ok, am_tl, z_La_law_336 _ _ _ _, hi1, cond_true, v2, ex, m1, am_bd_ok, am_tl, z_La_law_348 _ _ _ _, e_Mo_thrown, am_bd_ok, am_tl, z_La_law_354 _ _ _ _, d_t (show v_Mo_thrown I2 = 0 from m4), d_t rfl, d_t ((lg_cmp_eq _ _).mpr (show am_up L 185 (vp_updL (L 185) 0 (Int32.toInt64 (pf_ r))) 185 0 = _ by rw [up_same]; exact pk_uLs))]
  · exact L_1x hL x4 w5 w6 hi1 hx
theorem L_d (hL : LwS S sw I) (x4 : Int32) (w5 w6 : Value) : LwG g N sw lv I L x4 w5 w6 2768 := ⟨g, S, sw, lv, I, L, w5, w6, rfl, hL, rfl, Nat.le_refl _, Nat.le_succ _⟩
theorem L_all (hL : LwS S sw I) (x4 : Int32) (w5 w6 : Value) (hi1 : am_inb (x4 + 1) N = true) (hi2 : am_inb (x4 + 2) N = true) (hi3 : am_inb (x4 + 3) N = true) (hi4 : am_inb (x4 + 4) N = true) (hi5 : am_inb (x4 + 5) N = true) : ∀ n, n < 64 → LwG g N sw lv I L x4 w5 w6 (lw_pc.getD n 0)
  | 0, _ => L_0 hL x4 w5 w6 hi1 hi2 hi3 hi4 hi5
  | 1, _ => L_1 hL x4 w5 w6 hi1
  | 2, _ => L_2 hL x4 w5 w6 hi1 hi2 hi3 hi4 hi5
  | 3, _ => L_3 hL x4 w5 w6 hi1 hi2 hi3 hi4 hi5
  | 4, _ => L_4 hL x4 w5 w6 hi1 hi2 hi3 hi4 hi5
  | 5, _ => L_5 hL x4 w5 w6 hi1 hi2 hi3 hi4 hi5
  | 6, _ => L_6 hL x4 w5 w6 hi1 hi2 hi3 hi4 hi5
  | 7, _ => L_7 hL x4 w5 w6 hi1 hi2 hi3 hi4 hi5
  | 8, _ => L_8 hL x4 w5 w6 hi1 hi2 hi3 hi4 hi5
  | 9, _ => L_9 hL x4 w5 w6 hi1 hi2 hi3 hi4 hi5
  | 10, _ => L_10 hL x4 w5 w6 hi1 hi2 hi3 hi4 hi5
  | 11, _ => L_11 hL x4 w5 w6 hi1 hi2 hi3 hi4 hi5
  | 12, _ => L_12 hL x4 w5 w6 hi1 hi2 hi3 hi4 hi5
  | 13, _ => L_13 hL x4 w5 w6 hi1 hi2 hi3 hi4 hi5
  | 14, _ => L_14 hL x4 w5 w6 hi1 hi2 hi3 hi4 hi5
  | 15, _ => L_15 hL x4 w5 w6 hi1 hi2 hi3 hi4 hi5
  | 16, _ => L_16 hL x4 w5 w6 hi1 hi2 hi3 hi4 hi5
  | 17, _ => L_17 hL x4 w5 w6 hi1 hi2 hi3 hi4 hi5
  | 18, _ => L_18 hL x4 w5 w6 hi1 hi2 hi3 hi4 hi5
  | 19, _ => L_19 hL x4 w5 w6 hi1 hi2 hi3 hi4 hi5
  | 20, _ => L_20 hL x4 w5 w6 hi1 hi2 hi3 hi4 hi5
  | 21, _ => L_21 hL x4 w5 w6 hi1 hi2 hi3 hi4 hi5
  | 22, _ => L_22 hL x4 w5 w6 hi1 hi2 hi3 hi4 hi5
  | 23, _ => L_23 hL x4 w5 w6 hi1 hi2 hi3 hi4 hi5
  | 24, _ => L_24 hL x4 w5 w6 hi1 hi2 hi3 hi4 hi5
  | 25, _ => L_25 hL x4 w5 w6 hi1 hi2 hi3 hi4 hi5
  | 26, _ => L_26 hL x4 w5 w6 hi1 hi2 hi3 hi4 hi5
  | 27, _ => L_27 hL x4 w5 w6 hi1 hi2 hi3 hi4 hi5
  | 28, _ => L_28 hL x4 w5 w6 hi1 hi2 hi3 hi4 hi5
  | 29, _ => L_29 hL x4 w5 w6 hi1 hi2 hi3 hi4 hi5
  | 30, _ => L_30 hL x4 w5 w6 hi1 hi2 hi3 hi4 hi5
  | 31, _ => L_31 hL x4 w5 w6 hi1 hi2 hi3 hi4 hi5
  | 32, _ => L_32 hL x4 w5 w6 hi1 hi2 hi3 hi4 hi5
  | 33, _ => L_33 hL x4 w5 w6 hi1 hi2 hi3 hi4 hi5
  | 34, _ => L_34 hL x4 w5 w6 hi1 hi2 hi3 hi4 hi5
  | 35, _ => L_35 hL x4 w5 w6 hi1 hi2 hi3 hi4 hi5
  | 36, _ => L_36 hL x4 w5 w6 hi1 hi2 hi3 hi4 hi5
  | 37, _ => L_37 hL x4 w5 w6 hi1 hi2 hi3 hi4 hi5
  | 38, _ => L_38 hL x4 w5 w6 hi1 hi2 hi3 hi4 hi5
  | 39, _ => L_39 hL x4 w5 w6 hi1 hi2 hi3 hi4 hi5
  | 40, _ => L_40 hL x4 w5 w6 hi1 hi2 hi3 hi4 hi5
  | 41, _ => L_41 hL x4 w5 w6 hi1 hi2 hi3 hi4 hi5
  | 42, _ => L_42 hL x4 w5 w6 hi1 hi2 hi3 hi4 hi5
  | 43, _ => L_43 hL x4 w5 w6 hi1 hi2 hi3 hi4 hi5
  | 44, _ => L_44 hL x4 w5 w6 hi1 hi2 hi3 hi4 hi5
  | 45, _ => L_45 hL x4 w5 w6 hi1 hi2 hi3 hi4 hi5
  | 46, _ => L_46 hL x4 w5 w6 hi1 hi2 hi3 hi4 hi5
  | 47, _ => L_47 hL x4 w5 w6 hi1 hi2 hi3 hi4 hi5
  | 48, _ => L_48 hL x4 w5 w6 hi1 hi2 hi3 hi4 hi5
  | 49, _ => L_d hL x4 w5 w6
  | 50, _ => L_d hL x4 w5 w6
  | 51, _ => L_d hL x4 w5 w6
  | 52, _ => L_d hL x4 w5 w6
  | 53, _ => L_d hL x4 w5 w6
  | 54, _ => L_d hL x4 w5 w6
  | 55, _ => L_d hL x4 w5 w6
  | 56, _ => L_d hL x4 w5 w6
  | 57, _ => L_d hL x4 w5 w6
  | 58, _ => L_d hL x4 w5 w6
  | 59, _ => L_d hL x4 w5 w6
  | 60, _ => L_d hL x4 w5 w6
  | 61, _ => L_d hL x4 w5 w6
  | 62, _ => L_d hL x4 w5 w6
  | 63, _ => L_d hL x4 w5 w6
  | n + 64, h => absurd h (by omega)
theorem lw_lt {N i : Nat} (hN : N < 100000) (hi : i < 100000) : decide (Int32.ofNat N - 6 < Int32.ofNat i) = decide (N < i + 6) := by
  refine decide_eq_decide.mpr ?_
  have h6 : (6 : Int32).toInt = 6 := by decide
  have e : (Int32.ofNat N - 6).toInt = (N : Int) - 6 := by
    rw [Int32.toInt_sub, nb_ti hN, h6]
    refine Int.bmod_eq_of_le ?_ ?_ <;> omega
  rw [Int32.lt_iff_toInt_lt, e, nb_ti hi]
  omega
theorem LW_loop (hN : N ≤ 3072) : ∀ (c i g : Nat) (S : s_S) (sw lv : Bool) (I : Nat → Nat → Int32) (L : Nat → Nat → Int64) (w5 w6 : Value), i ≤ N + 6 → N < i + 6 * c + 6 → LwS S sw I → ∃ g' sw' lv' I' L', am_R 300 105 23 (lw_l (Int32.ofNat i) w5 w6) [] (am_hp g N sw lv I L) = some (.inl (some (.int 1)), am_hp g' N sw' lv' I' L') ∧ g' ≤ g + c
  | c, i, g, S, sw, lv, I, L, w5, w6, hi, hc, hL => by
    have e := z_La_law_23 (g := g) (N := N) (sw := sw) (lv := lv) (I := I) (L := L) (Int32.ofNat i) w5 w6
    rw [lw_lt (by omega) (by omega)] at e
    by_cases hx : N < i + 6
    · rw [d_t hx, z_La_law_2774 _ _ _] at e
      exact ⟨g, sw, lv, I, L, e, Nat.le_add_right _ _⟩
    · match c, hc with
      | 0, hc => exact absurd hc (by omega)
      | c + 1, hc =>
        have hb : ∀ d, d < 6 → am_inb (Int32.ofNat i + Int32.ofNat d) N = true := fun d hd => by
          rw [nb_add]
          exact nb_inb (by omega) (by omega)
        have h0 : am_inb (Int32.ofNat i) N = true := nb_inb (by omega) (by omega)
        obtain ⟨n, hn, en⟩ := lw_and (I 0 (Int32.toNatClampNeg (Int32.ofNat i)))
        rw [d_f hx, h0, cond_true, en, z_La_law_40 _ _, lw_tgt n hn] at e
        obtain ⟨g1, S1, sw1, lv1, I1, L1, u5, u6, a1, a2, a3, a4, a5⟩ := L_all (g := g) (N := N) (lv := lv) (L := L) hL (Int32.ofNat i) w5 w6 (hb 1 (by decide)) (hb 2 (by decide)) (hb 3 (by decide)) (hb 4 (by decide)) (hb 5 (by decide)) n hn
        obtain ⟨g2, sw2, lv2, I2, L2, b1, b2⟩ := LW_loop hN c (i + 6) g1 S1 sw1 lv1 I1 L1 u5 u6 (by omega) (by omega) a2
        refine ⟨g2, sw2, lv2, I2, L2, ?_, by omega⟩
        rw [e]
        refine Eq.trans a1 ?_
        rw [z_La_law_2768 _ _ _, show Int32.ofNat i + 6 = Int32.ofNat (i + 6) from nb_add i 6]
        exact b1
termination_by c => c
end LWL
