/-! THE LAW: each of its calls (by program) -/
section CALLS
variable {g N : Nat} {sw lv : Bool} {I : Nat → Nat → Int32} {L : Nat → Nat → Int64} {S : s_S}
theorem KCL_look (hC : sC S sw I) (hG : sG S) (x1 : Int32) : KCL g N sw lv I (am_R 132 9 0 [.ref 75, .int x1, am_u, am_u, am_u, am_u, am_u] [] (am_hp g N sw lv I L)) (sp_look (sE S) (sW S) (sT S) x1) S := by
  obtain ⟨L', h1, I', h2, h3⟩ := C_look (g := g) (N := N) (lv := lv) (L := L) hC.1 hG.1.1 (hd_1000 hG) hC.2.2.1 hG.2.2.1 x1
  refine ⟨I', L', sC_zf hC h2, fun a p => h2 a (by omega), ?_⟩
  cases e : sp_look (sE S) (sW S) (sT S) x1 with
  | inl v =>
    rw [e] at h3
    exact h3
  | inr c =>
    rw [e] at h3
    exact h3
theorem L_0 (hL : LwS S sw I) (x4 : Int32) (w5 w6 : Value) (hi1 : am_inb (x4 + 1) N = true) (hi2 : am_inb (x4 + 2) N = true) (hi3 : am_inb (x4 + 3) N = true) (hi4 : am_inb (x4 + 4) N = true) (hi5 : am_inb (x4 + 5) N = true) : LwG g N sw lv I L x4 w5 w6 252 := by
  obtain ⟨hC, hM, hG, hV⟩ := id hL
  refine LA_of (P1 := 286) (P2 := 320) (ka := 10) (ba := 2) (la := [.ref 75, .int (I 0 (Int32.toNatClampNeg (x4 + 1))), .int (I 0 (Int32.toNatClampNeg (x4 + 2))), .int (I 0 (Int32.toNatClampNeg (x4 + 3))), .int (I 0 (Int32.toNatClampNeg (x4 + 4))), .int (I 0 (Int32.toNatClampNeg (x4 + 5))), am_u]) (kb := 142) (bb := 1) (lb := [.ref 147, .int (I 0 (Int32.toNatClampNeg (x4 + 1))), .int (I 0 (Int32.toNatClampNeg (x4 + 2))), .int (I 0 (Int32.toNatClampNeg (x4 + 3))), .int (I 0 (Int32.toNatClampNeg (x4 + 4))), .int (I 0 (Int32.toNatClampNeg (x4 + 5))), am_u, am_u]) (S' := (sp_feed S (I 0 (Int32.toNatClampNeg (x4 + 1))) (I 0 (Int32.toNatClampNeg (x4 + 2))) (I 0 (Int32.toNatClampNeg (x4 + 3))) (I 0 (Int32.toNatClampNeg (x4 + 4))) (I 0 (Int32.toNatClampNeg (x4 + 5)))).2) (kk := k1) (o := (sp_feed S (I 0 (Int32.toNatClampNeg (x4 + 1))) (I 0 (Int32.toNatClampNeg (x4 + 2))) (I 0 (Int32.toNatClampNeg (x4 + 3))) (I 0 (Int32.toNatClampNeg (x4 + 4))) (I 0 (Int32.toNatClampNeg (x4 + 5)))).1) hL ?_ ?_ ?_ rfl rfl ?_ ?_ ?_ ?_
  · rw [z_La_law_252 _ _ _, hi1, cond_true, hi2, cond_true, hi3, cond_true, hi4, cond_true, hi5, cond_true]
  · intro I1 y0 h0
    rw [z_La_law_286 _ _ _ _, hi1, cond_true, hi2, cond_true, hi3, cond_true, hi4, cond_true, hi5, cond_true, h0]
  · intro I2 y
    rw [z_La_law_320 _ _ _ _ _, d_t rfl]
  · exact C_feed hC hG (I 0 (Int32.toNatClampNeg (x4 + 1))) (I 0 (Int32.toNatClampNeg (x4 + 2))) (I 0 (Int32.toNatClampNeg (x4 + 3))) (I 0 (Int32.toNatClampNeg (x4 + 4))) (I 0 (Int32.toNatClampNeg (x4 + 5)))
  · intro I1 hM1
    exact M_feed hM1 hG (I 0 (Int32.toNatClampNeg (x4 + 1))) (I 0 (Int32.toNatClampNeg (x4 + 2))) (I 0 (Int32.toNatClampNeg (x4 + 3))) (I 0 (Int32.toNatClampNeg (x4 + 4))) (I 0 (Int32.toNatClampNeg (x4 + 5)))
  · exact G_feed hG (I 0 (Int32.toNatClampNeg (x4 + 1))) (I 0 (Int32.toNatClampNeg (x4 + 2))) (I 0 (Int32.toNatClampNeg (x4 + 3))) (I 0 (Int32.toNatClampNeg (x4 + 4))) (I 0 (Int32.toNatClampNeg (x4 + 5)))
  · show okS _ (sp_feed S (I 0 (Int32.toNatClampNeg (x4 + 1))) (I 0 (Int32.toNatClampNeg (x4 + 2))) (I 0 (Int32.toNatClampNeg (x4 + 3))) (I 0 (Int32.toNatClampNeg (x4 + 4))) (I 0 (Int32.toNatClampNeg (x4 + 5))))
    unfold sp_feed
    repeat' (first | exact okS_p okO_l | refine okS_c ?_ ?_)
theorem L_2 (hL : LwS S sw I) (x4 : Int32) (w5 w6 : Value) (hi1 : am_inb (x4 + 1) N = true) (hi2 : am_inb (x4 + 2) N = true) (hi3 : am_inb (x4 + 3) N = true) (hi4 : am_inb (x4 + 4) N = true) (hi5 : am_inb (x4 + 5) N = true) : LwG g N sw lv I L x4 w5 w6 381 := by
  obtain ⟨hC, hM, hG, hV⟩ := id hL
  refine LA_of (P1 := 385) (P2 := 389) (ka := 12) (ba := 1) (la := [.ref 75]) (kb := 169) (bb := 1) (lb := [.ref 147]) (S' := S) (kk := k1) (o := (.inl (sX S))) hL ?_ ?_ ?_ rfl rfl ?_ ?_ ?_ ?_
  · rw [z_La_law_381 _ _ _]
  · intro I1 y0 h0
    rw [z_La_law_385 _ _ _ _]
  · intro I2 y
    rw [z_La_law_389 _ _ _ _ _, d_t rfl]
  · exact C_fault hC
  · intro I1 hM1
    exact M_fault hM1
  · exact hG
  · exact okO_l
theorem L_3 (hL : LwS S sw I) (x4 : Int32) (w5 w6 : Value) (hi1 : am_inb (x4 + 1) N = true) (hi2 : am_inb (x4 + 2) N = true) (hi3 : am_inb (x4 + 3) N = true) (hi4 : am_inb (x4 + 4) N = true) (hi5 : am_inb (x4 + 5) N = true) : LwG g N sw lv I L x4 w5 w6 394 := by
  obtain ⟨hC, hM, hG, hV⟩ := id hL
  refine LB_of (P1 := 405) (P2 := 417) (ka := 266) (ba := 6) (la := [.ref 75, .int (I 0 (Int32.toNatClampNeg (x4 + 1))), .ref 185, am_u]) (kb := 170) (bb := 8) (lb := [.ref 147, .int (I 0 (Int32.toNatClampNeg (x4 + 1)))]) (S' := S) (fb := Int32.toInt64) (kk := k1) (o := (sp_count (sE S) (sT S) (Int32.ofNat (sA S).1) (Int32.ofNat (sW S).1) (Int32.ofNat (sP S).1) (sF S) (I 0 (Int32.toNatClampNeg (x4 + 1))))) hL ?_ ?_ ?_ rfl rfl ?_ ?_ ?_ ?_
  · rw [z_La_law_394 _ _ _, hi1, cond_true]
  · intro g1 I1 L1 y0 h0
    rw [z_La_law_405 _ _ _ _, hi1, cond_true, h0]
  · intro g1 I2 L1 k b h4 hk
    rw [z_La_law_417 _ _ _ _, e_Mo_thrown, am_bd_ok, am_tl, z_La_law_423 _ _ _ _, d_t (show v_Mo_thrown I2 = k from h4)]
    by_cases e : k = 0
    · rw [d_t e, d_t ((lg_cmp_eq _ _).mpr (hk e))]
    · rw [d_f e]
  · refine WC_of (p1 := 4) (p2 := 7) ((y_La_count_0 _).trans (y_La_count_4 _ _ _)) ?_ ?_ ?_
    · intro I1 L1 y
      exact (y_La_count_7 _ _ _).trans rfl
    · intro c I1 L1 ho
      have hc : okO (fun c => c = 0) (sp_count (sE S) (sT S) (Int32.ofNat (sA S).1) (Int32.ofNat (sW S).1) (Int32.ofNat (sP S).1) (sF S) (I 0 (Int32.toNatClampNeg (x4 + 1)))) := by
        unfold sp_count
        repeat' (first | exact okO_l | exact okO_r (rfl) | refine okO_c ?_ ?_)
      have hc' : c = 0 := hc c ho
      subst hc'
      exact y_La_count_13 _
    · obtain ⟨nx, -, aa, -⟩ := hC.2.1
      exact KCL_of (KC_of hC (C_count hC.1 hG.1.1 aa hC.2.2.1.1 hC.2.2.2.2.1.1 hC.2.2.2.1 (I 0 (Int32.toNatClampNeg (x4 + 1)))))
  · intro g1 I1 L1 hM1
    have aa := hM1.2.1.1
    exact KM_of hM1 (M_count hM1.1 hG.1.1 aa hM1.2.2.1.1 hM1.2.2.2.2.1.1 hM1.2.2.2.1 (I 0 (Int32.toNatClampNeg (x4 + 1))))
  · exact hG
  · unfold sp_count
    repeat' (first | exact okO_l | exact okO_r (Or.inl rfl) | exact okO_r (Or.inr rfl) | refine okO_c ?_ ?_)
theorem L_4 (hL : LwS S sw I) (x4 : Int32) (w5 w6 : Value) (hi1 : am_inb (x4 + 1) N = true) (hi2 : am_inb (x4 + 2) N = true) (hi3 : am_inb (x4 + 3) N = true) (hi4 : am_inb (x4 + 4) N = true) (hi5 : am_inb (x4 + 5) N = true) : LwG g N sw lv I L x4 w5 w6 450 := by
  obtain ⟨hC, hM, hG, hV⟩ := id hL
  refine LB_of (P1 := 467) (P2 := 485) (ka := 267) (ba := 3) (la := [.ref 75, .int (I 0 (Int32.toNatClampNeg (x4 + 1))), .int (I 0 (Int32.toNatClampNeg (x4 + 2))), .ref 185, am_u]) (kb := 185) (bb := 3) (lb := [.ref 147, .int (I 0 (Int32.toNatClampNeg (x4 + 1))), .int (I 0 (Int32.toNatClampNeg (x4 + 2)))]) (S' := S) (fb := Int32.toInt64) (kk := k1) (o := (sp_head (sE S) (sB S) (sT S) (I 0 (Int32.toNatClampNeg (x4 + 1))) (I 0 (Int32.toNatClampNeg (x4 + 2))))) hL ?_ ?_ ?_ rfl rfl ?_ ?_ ?_ ?_
  · rw [z_La_law_450 _ _ _, hi1, cond_true, hi2, cond_true]
  · intro g1 I1 L1 y0 h0
    rw [z_La_law_467 _ _ _ _, hi1, cond_true, hi2, cond_true, h0]
  · intro g1 I2 L1 k b h4 hk
    rw [z_La_law_485 _ _ _ _, e_Mo_thrown, am_bd_ok, am_tl, z_La_law_491 _ _ _ _, d_t (show v_Mo_thrown I2 = k from h4)]
    by_cases e : k = 0
    · rw [d_t e, d_t ((lg_cmp_eq _ _).mpr (hk e))]
    · rw [d_f e]
  · refine WC_of (p1 := 5) (p2 := 8) ((y_La_head_0 _ _).trans (y_La_head_5 _ _ _ _ _)) ?_ ?_ ?_
    · intro I1 L1 y
      exact (y_La_head_8 _ _ _ _).trans rfl
    · intro c I1 L1 ho
      have hc : okO (fun c => c = 0) (sp_head (sE S) (sB S) (sT S) (I 0 (Int32.toNatClampNeg (x4 + 1))) (I 0 (Int32.toNatClampNeg (x4 + 2)))) := by
        unfold sp_head
        repeat' (first | exact okO_l | exact okO_r (rfl) | refine okO_c ?_ ?_)
      have hc' : c = 0 := hc c ho
      subst hc'
      exact y_La_head_15 _ _
    · exact KCL_of (KC_of hC (C_head hC.1 hG.1.1 (I 0 (Int32.toNatClampNeg (x4 + 1))) (I 0 (Int32.toNatClampNeg (x4 + 2)))))
  · intro g1 I1 L1 hM1
    exact KM_of hM1 (M_head hM1.1 hG.1.1 (I 0 (Int32.toNatClampNeg (x4 + 1))) (I 0 (Int32.toNatClampNeg (x4 + 2))))
  · exact hG
  · unfold sp_head
    repeat' (first | exact okO_l | exact okO_r (Or.inl rfl) | exact okO_r (Or.inr rfl) | refine okO_c ?_ ?_)
theorem L_5 (hL : LwS S sw I) (x4 : Int32) (w5 w6 : Value) (hi1 : am_inb (x4 + 1) N = true) (hi2 : am_inb (x4 + 2) N = true) (hi3 : am_inb (x4 + 3) N = true) (hi4 : am_inb (x4 + 4) N = true) (hi5 : am_inb (x4 + 5) N = true) : LwG g N sw lv I L x4 w5 w6 518 := by
  obtain ⟨hC, hM, hG, hV⟩ := id hL
  refine LB_of (P1 := 529) (P2 := 541) (ka := 268) (ba := 2) (la := [.ref 75, .int (I 0 (Int32.toNatClampNeg (x4 + 1))), .ref 185, am_u]) (kb := 187) (bb := 3) (lb := [.ref 147, .int (I 0 (Int32.toNatClampNeg (x4 + 1)))]) (S' := S) (fb := Int32.toInt64) (kk := k1) (o := (sp_seat (sT S) (I 0 (Int32.toNatClampNeg (x4 + 1))))) hL ?_ ?_ ?_ rfl rfl ?_ ?_ ?_ ?_
  · rw [z_La_law_518 _ _ _, hi1, cond_true]
  · intro g1 I1 L1 y0 h0
    rw [z_La_law_529 _ _ _ _, hi1, cond_true, h0]
  · intro g1 I2 L1 k b h4 hk
    rw [z_La_law_541 _ _ _ _, e_Mo_thrown, am_bd_ok, am_tl, z_La_law_547 _ _ _ _, d_t (show v_Mo_thrown I2 = k from h4)]
    by_cases e : k = 0
    · rw [d_t e, d_t ((lg_cmp_eq _ _).mpr (hk e))]
    · rw [d_f e]
  · refine WC_of (p1 := 4) (p2 := 7) ((y_La_seat_0 _).trans (y_La_seat_4 _ _ _)) ?_ ?_ ?_
    · intro I1 L1 y
      exact (y_La_seat_7 _ _ _).trans rfl
    · intro c I1 L1 ho
      have hc : okO (fun c => c = 0) (sp_seat (sT S) (I 0 (Int32.toNatClampNeg (x4 + 1)))) := by
        unfold sp_seat
        repeat' (first | exact okO_l | exact okO_r (rfl) | refine okO_c ?_ ?_)
      have hc' : c = 0 := hc c ho
      subst hc'
      exact y_La_seat_13 _
    · exact KCL_of (KC_of hC (C_seat hC.1 hG.1.1 (I 0 (Int32.toNatClampNeg (x4 + 1)))))
  · intro g1 I1 L1 hM1
    exact KM_of hM1 (M_seat hM1.1 hG.1.1 (I 0 (Int32.toNatClampNeg (x4 + 1))))
  · exact hG
  · unfold sp_seat
    repeat' (first | exact okO_l | exact okO_r (Or.inl rfl) | exact okO_r (Or.inr rfl) | refine okO_c ?_ ?_)
theorem L_6 (hL : LwS S sw I) (x4 : Int32) (w5 w6 : Value) (hi1 : am_inb (x4 + 1) N = true) (hi2 : am_inb (x4 + 2) N = true) (hi3 : am_inb (x4 + 3) N = true) (hi4 : am_inb (x4 + 4) N = true) (hi5 : am_inb (x4 + 5) N = true) : LwG g N sw lv I L x4 w5 w6 574 := by
  obtain ⟨hC, hM, hG, hV⟩ := id hL
  refine LA_of (P1 := 584) (P2 := 594) (ka := 13) (ba := 7) (la := [.ref 75, .int (I 0 (Int32.toNatClampNeg (x4 + 1)))]) (kb := 188) (bb := 8) (lb := [.ref 147, .int (I 0 (Int32.toNatClampNeg (x4 + 1)))]) (S' := (sp_days S (I 0 (Int32.toNatClampNeg (x4 + 1)))).2) (kk := k1) (o := (sp_days S (I 0 (Int32.toNatClampNeg (x4 + 1)))).1) hL ?_ ?_ ?_ rfl rfl ?_ ?_ ?_ ?_
  · rw [z_La_law_574 _ _ _, hi1, cond_true]
  · intro I1 y0 h0
    rw [z_La_law_584 _ _ _ _, hi1, cond_true, h0]
  · intro I2 y
    rw [z_La_law_594 _ _ _ _ _, d_t rfl]
  · exact C_days hC hG (I 0 (Int32.toNatClampNeg (x4 + 1)))
  · intro I1 hM1
    exact M_days hM1 hG (I 0 (Int32.toNatClampNeg (x4 + 1)))
  · exact G_days hG (I 0 (Int32.toNatClampNeg (x4 + 1)))
  · show okS _ (sp_days S (I 0 (Int32.toNatClampNeg (x4 + 1))))
    unfold sp_days
    repeat' (first | exact okS_p okO_l | refine okS_c ?_ ?_)
theorem L_7 (hL : LwS S sw I) (x4 : Int32) (w5 w6 : Value) (hi1 : am_inb (x4 + 1) N = true) (hi2 : am_inb (x4 + 2) N = true) (hi3 : am_inb (x4 + 3) N = true) (hi4 : am_inb (x4 + 4) N = true) (hi5 : am_inb (x4 + 5) N = true) : LwG g N sw lv I L x4 w5 w6 599 := by
  obtain ⟨hC, hM, hG, hV⟩ := id hL
  refine LB_of (P1 := 610) (P2 := 622) (ka := 269) (ba := 4) (la := [.ref 75, .int (I 0 (Int32.toNatClampNeg (x4 + 1))), .ref 185, am_u]) (kb := 202) (bb := 3) (lb := [.ref 147, .int (I 0 (Int32.toNatClampNeg (x4 + 1)))]) (S' := (sp_prop S (I 0 (Int32.toNatClampNeg (x4 + 1)))).2) (fb := fb_b) (kk := k1) (o := (sp_prop S (I 0 (Int32.toNatClampNeg (x4 + 1)))).1) hL ?_ ?_ ?_ rfl rfl ?_ ?_ ?_ ?_
  · rw [z_La_law_599 _ _ _, hi1, cond_true]
  · intro g1 I1 L1 y0 h0
    rw [z_La_law_610 _ _ _ _, hi1, cond_true, h0]
  · intro g1 I2 L1 k b h4 hk
    rw [z_La_law_622 _ _ _ _, e_Mo_thrown, am_bd_ok, am_tl, z_La_law_628 _ _ _ _, d_t (show v_Mo_thrown I2 = k from h4)]
    by_cases e : k = 0
    · have hk' : L1 185 0 = cond (decide (b = 0)) 0 1 := hk e
      rw [d_t e]
      by_cases eb : b = 0
      · rw [d_t eb] at hk'
        rw [d_t eb, d_t ((lg_cmp_eq _ _).mpr hk')]
      · rw [d_f eb] at hk'
        rw [d_f eb, d_t ((lg_cmp_eq _ _).mpr hk')]
    · rw [d_f e]
  · refine WC_of (p1 := 4) (p2 := 7) ((y_La_prop_0 _).trans (y_La_prop_4 _ _ _)) ?_ ?_ ?_
    · intro I1 L1 y
      rw [y_La_prop_7 _ _ _]
      unfold fb_b
      cases decide (y = 0) <;> rfl
    · intro c I1 L1 ho
      have hc : okO (fun c => c = 0) (sp_prop S (I 0 (Int32.toNatClampNeg (x4 + 1)))).1 := by
        show okS _ (sp_prop S (I 0 (Int32.toNatClampNeg (x4 + 1))))
        unfold sp_prop
        repeat' (first | exact okS_p okO_l | exact okS_p (okO_r (rfl)) | refine okS_c ?_ ?_)
      have hc' : c = 0 := hc c ho
      subst hc'
      exact y_La_prop_20 _
    · exact KCL_of (C_prop hC hG (I 0 (Int32.toNatClampNeg (x4 + 1))))
  · intro g1 I1 L1 hM1
    exact M_prop hM1 hG (I 0 (Int32.toNatClampNeg (x4 + 1)))
  · exact G_prop hG (I 0 (Int32.toNatClampNeg (x4 + 1)))
  · show okS _ (sp_prop S (I 0 (Int32.toNatClampNeg (x4 + 1))))
    unfold sp_prop
    repeat' (first | exact okS_p okO_l | exact okS_p (okO_r (Or.inl rfl)) | exact okS_p (okO_r (Or.inr rfl)) | refine okS_c ?_ ?_)
theorem L_8 (hL : LwS S sw I) (x4 : Int32) (w5 w6 : Value) (hi1 : am_inb (x4 + 1) N = true) (hi2 : am_inb (x4 + 2) N = true) (hi3 : am_inb (x4 + 3) N = true) (hi4 : am_inb (x4 + 4) N = true) (hi5 : am_inb (x4 + 5) N = true) : LwG g N sw lv I L x4 w5 w6 662 := by
  obtain ⟨hC, hM, hG, hV⟩ := id hL
  refine LB_of (P1 := 679) (P2 := 697) (ka := 270) (ba := 4) (la := [.ref 75, .int (I 0 (Int32.toNatClampNeg (x4 + 1))), .int (I 0 (Int32.toNatClampNeg (x4 + 2))), .ref 185, am_u]) (kb := 205) (bb := 4) (lb := [.ref 147, .int (I 0 (Int32.toNatClampNeg (x4 + 1))), .int (I 0 (Int32.toNatClampNeg (x4 + 2)))]) (S' := (sp_cast S (I 0 (Int32.toNatClampNeg (x4 + 1))) (I 0 (Int32.toNatClampNeg (x4 + 2)))).2) (fb := Int32.toInt64) (kk := k1) (o := (sp_cast S (I 0 (Int32.toNatClampNeg (x4 + 1))) (I 0 (Int32.toNatClampNeg (x4 + 2)))).1) hL ?_ ?_ ?_ rfl rfl ?_ ?_ ?_ ?_
  · rw [z_La_law_662 _ _ _, hi1, cond_true, hi2, cond_true]
  · intro g1 I1 L1 y0 h0
    rw [z_La_law_679 _ _ _ _, hi1, cond_true, hi2, cond_true, h0]
  · intro g1 I2 L1 k b h4 hk
    rw [z_La_law_697 _ _ _ _, e_Mo_thrown, am_bd_ok, am_tl, z_La_law_703 _ _ _ _, d_t (show v_Mo_thrown I2 = k from h4)]
    by_cases e : k = 0
    · rw [d_t e, d_t ((lg_cmp_eq _ _).mpr (hk e))]
    · rw [d_f e]
  · refine WC_of (p1 := 5) (p2 := 8) ((y_La_cast_0 _ _).trans (y_La_cast_5 _ _ _ _ _)) ?_ ?_ ?_
    · intro I1 L1 y
      exact (y_La_cast_8 _ _ _ _).trans rfl
    · intro c I1 L1 ho
      have hc : okO (fun c => c = 0) (sp_cast S (I 0 (Int32.toNatClampNeg (x4 + 1))) (I 0 (Int32.toNatClampNeg (x4 + 2)))).1 := by
        show okS _ (sp_cast S (I 0 (Int32.toNatClampNeg (x4 + 1))) (I 0 (Int32.toNatClampNeg (x4 + 2))))
        unfold sp_cast
        repeat' (first | exact okS_p okO_l | exact okS_p (okO_r (rfl)) | refine okS_c ?_ ?_)
      have hc' : c = 0 := hc c ho
      subst hc'
      exact y_La_cast_15 _ _
    · exact KCL_of (C_cast hC hG (I 0 (Int32.toNatClampNeg (x4 + 1))) (I 0 (Int32.toNatClampNeg (x4 + 2))))
  · intro g1 I1 L1 hM1
    exact M_cast hM1 hG (I 0 (Int32.toNatClampNeg (x4 + 1))) (I 0 (Int32.toNatClampNeg (x4 + 2)))
  · exact G_cast hG (I 0 (Int32.toNatClampNeg (x4 + 1))) (I 0 (Int32.toNatClampNeg (x4 + 2)))
  · show okS _ (sp_cast S (I 0 (Int32.toNatClampNeg (x4 + 1))) (I 0 (Int32.toNatClampNeg (x4 + 2))))
    unfold sp_cast
    repeat' (first | exact okS_p okO_l | exact okS_p (okO_r (Or.inl rfl)) | exact okS_p (okO_r (Or.inr rfl)) | refine okS_c ?_ ?_)
theorem L_9 (hL : LwS S sw I) (x4 : Int32) (w5 w6 : Value) (hi1 : am_inb (x4 + 1) N = true) (hi2 : am_inb (x4 + 2) N = true) (hi3 : am_inb (x4 + 3) N = true) (hi4 : am_inb (x4 + 4) N = true) (hi5 : am_inb (x4 + 5) N = true) : LwG g N sw lv I L x4 w5 w6 730 := by
  obtain ⟨hC, hM, hG, hV⟩ := id hL
  refine LB_of (P1 := 747) (P2 := 765) (ka := 271) (ba := 4) (la := [.ref 75, .int (I 0 (Int32.toNatClampNeg (x4 + 1))), .int (I 0 (Int32.toNatClampNeg (x4 + 2))), .ref 185, am_u]) (kb := 207) (bb := 3) (lb := [.ref 147, .int (I 0 (Int32.toNatClampNeg (x4 + 1))), .int (I 0 (Int32.toNatClampNeg (x4 + 2)))]) (S' := (sp_lick S (I 0 (Int32.toNatClampNeg (x4 + 1))) (I 0 (Int32.toNatClampNeg (x4 + 2)))).2) (fb := Int32.toInt64) (kk := k1) (o := (sp_lick S (I 0 (Int32.toNatClampNeg (x4 + 1))) (I 0 (Int32.toNatClampNeg (x4 + 2)))).1) hL ?_ ?_ ?_ rfl rfl ?_ ?_ ?_ ?_
  · rw [z_La_law_730 _ _ _, hi1, cond_true, hi2, cond_true]
  · intro g1 I1 L1 y0 h0
    rw [z_La_law_747 _ _ _ _, hi1, cond_true, hi2, cond_true, h0]
  · intro g1 I2 L1 k b h4 hk
    rw [z_La_law_765 _ _ _ _, e_Mo_thrown, am_bd_ok, am_tl, z_La_law_771 _ _ _ _, d_t (show v_Mo_thrown I2 = k from h4)]
    by_cases e : k = 0
    · rw [d_t e, d_t ((lg_cmp_eq _ _).mpr (hk e))]
    · rw [d_f e]
  · refine WC_of (p1 := 5) (p2 := 8) ((y_La_lick_0 _ _).trans (y_La_lick_5 _ _ _ _ _)) ?_ ?_ ?_
    · intro I1 L1 y
      exact (y_La_lick_8 _ _ _ _).trans rfl
    · intro c I1 L1 ho
      have hc : okO (fun c => c = 0) (sp_lick S (I 0 (Int32.toNatClampNeg (x4 + 1))) (I 0 (Int32.toNatClampNeg (x4 + 2)))).1 := by
        show okS _ (sp_lick S (I 0 (Int32.toNatClampNeg (x4 + 1))) (I 0 (Int32.toNatClampNeg (x4 + 2))))
        unfold sp_lick
        repeat' (first | exact okS_p okO_l | exact okS_p (okO_r (rfl)) | refine okS_c ?_ ?_)
      have hc' : c = 0 := hc c ho
      subst hc'
      exact y_La_lick_15 _ _
    · exact KCL_of (C_lick hC hG (I 0 (Int32.toNatClampNeg (x4 + 1))) (I 0 (Int32.toNatClampNeg (x4 + 2))))
  · intro g1 I1 L1 hM1
    exact M_lick hM1 hG (I 0 (Int32.toNatClampNeg (x4 + 1))) (I 0 (Int32.toNatClampNeg (x4 + 2)))
  · exact G_lick hG (I 0 (Int32.toNatClampNeg (x4 + 1))) (I 0 (Int32.toNatClampNeg (x4 + 2)))
  · show okS _ (sp_lick S (I 0 (Int32.toNatClampNeg (x4 + 1))) (I 0 (Int32.toNatClampNeg (x4 + 2))))
    unfold sp_lick
    repeat' (first | exact okS_p okO_l | exact okS_p (okO_r (Or.inl rfl)) | exact okS_p (okO_r (Or.inr rfl)) | refine okS_c ?_ ?_)
theorem L_10 (hL : LwS S sw I) (x4 : Int32) (w5 w6 : Value) (hi1 : am_inb (x4 + 1) N = true) (hi2 : am_inb (x4 + 2) N = true) (hi3 : am_inb (x4 + 3) N = true) (hi4 : am_inb (x4 + 4) N = true) (hi5 : am_inb (x4 + 5) N = true) : LwG g N sw lv I L x4 w5 w6 798 := by
  obtain ⟨hC, hM, hG, hV⟩ := id hL
  refine LB_of (P1 := 815) (P2 := 833) (ka := 272) (ba := 4) (la := [.ref 75, .int (I 0 (Int32.toNatClampNeg (x4 + 1))), .int (I 0 (Int32.toNatClampNeg (x4 + 2))), .ref 185, am_u]) (kb := 208) (bb := 3) (lb := [.ref 147, .int (I 0 (Int32.toNatClampNeg (x4 + 1))), .int (I 0 (Int32.toNatClampNeg (x4 + 2)))]) (S' := (sp_turn S (I 0 (Int32.toNatClampNeg (x4 + 1))) (I 0 (Int32.toNatClampNeg (x4 + 2)))).2) (fb := Int32.toInt64) (kk := k1) (o := (sp_turn S (I 0 (Int32.toNatClampNeg (x4 + 1))) (I 0 (Int32.toNatClampNeg (x4 + 2)))).1) hL ?_ ?_ ?_ rfl rfl ?_ ?_ ?_ ?_
  · rw [z_La_law_798 _ _ _, hi1, cond_true, hi2, cond_true]
  · intro g1 I1 L1 y0 h0
    rw [z_La_law_815 _ _ _ _, hi1, cond_true, hi2, cond_true, h0]
  · intro g1 I2 L1 k b h4 hk
    rw [z_La_law_833 _ _ _ _, e_Mo_thrown, am_bd_ok, am_tl, z_La_law_839 _ _ _ _, d_t (show v_Mo_thrown I2 = k from h4)]
    by_cases e : k = 0
    · rw [d_t e, d_t ((lg_cmp_eq _ _).mpr (hk e))]
    · rw [d_f e]
  · refine WC_of (p1 := 5) (p2 := 8) ((y_La_turn_0 _ _).trans (y_La_turn_5 _ _ _ _ _)) ?_ ?_ ?_
    · intro I1 L1 y
      exact (y_La_turn_8 _ _ _ _).trans rfl
    · intro c I1 L1 ho
      have hc : okO (fun c => c = 0) (sp_turn S (I 0 (Int32.toNatClampNeg (x4 + 1))) (I 0 (Int32.toNatClampNeg (x4 + 2)))).1 := by
        show okS _ (sp_turn S (I 0 (Int32.toNatClampNeg (x4 + 1))) (I 0 (Int32.toNatClampNeg (x4 + 2))))
        unfold sp_turn
        repeat' (first | exact okS_p okO_l | exact okS_p (okO_r (rfl)) | refine okS_c ?_ ?_)
      have hc' : c = 0 := hc c ho
      subst hc'
      exact y_La_turn_15 _ _
    · exact KCL_of (C_turn hC hG (I 0 (Int32.toNatClampNeg (x4 + 1))) (I 0 (Int32.toNatClampNeg (x4 + 2))))
  · intro g1 I1 L1 hM1
    exact M_turn hM1 hG (I 0 (Int32.toNatClampNeg (x4 + 1))) (I 0 (Int32.toNatClampNeg (x4 + 2)))
  · exact G_turn hG (I 0 (Int32.toNatClampNeg (x4 + 1))) (I 0 (Int32.toNatClampNeg (x4 + 2)))
  · show okS _ (sp_turn S (I 0 (Int32.toNatClampNeg (x4 + 1))) (I 0 (Int32.toNatClampNeg (x4 + 2))))
    unfold sp_turn
    repeat' (first | exact okS_p okO_l | exact okS_p (okO_r (Or.inl rfl)) | exact okS_p (okO_r (Or.inr rfl)) | refine okS_c ?_ ?_)
theorem L_11 (hL : LwS S sw I) (x4 : Int32) (w5 w6 : Value) (hi1 : am_inb (x4 + 1) N = true) (hi2 : am_inb (x4 + 2) N = true) (hi3 : am_inb (x4 + 3) N = true) (hi4 : am_inb (x4 + 4) N = true) (hi5 : am_inb (x4 + 5) N = true) : LwG g N sw lv I L x4 w5 w6 866 := by
  obtain ⟨hC, hM, hG, hV⟩ := id hL
  refine LB_of (P1 := 883) (P2 := 901) (ka := 273) (ba := 4) (la := [.ref 75, .int (I 0 (Int32.toNatClampNeg (x4 + 1))), .int (I 0 (Int32.toNatClampNeg (x4 + 2))), .ref 185, am_u]) (kb := 211) (bb := 3) (lb := [.ref 147, .int (I 0 (Int32.toNatClampNeg (x4 + 1))), .int (I 0 (Int32.toNatClampNeg (x4 + 2)))]) (S' := (sp_change S (I 0 (Int32.toNatClampNeg (x4 + 1))) (I 0 (Int32.toNatClampNeg (x4 + 2)))).2) (fb := fb_b) (kk := k1) (o := (sp_change S (I 0 (Int32.toNatClampNeg (x4 + 1))) (I 0 (Int32.toNatClampNeg (x4 + 2)))).1) hL ?_ ?_ ?_ rfl rfl ?_ ?_ ?_ ?_
  · rw [z_La_law_866 _ _ _, hi1, cond_true, hi2, cond_true]
  · intro g1 I1 L1 y0 h0
    rw [z_La_law_883 _ _ _ _, hi1, cond_true, hi2, cond_true, h0]
  · intro g1 I2 L1 k b h4 hk
    rw [z_La_law_901 _ _ _ _, e_Mo_thrown, am_bd_ok, am_tl, z_La_law_907 _ _ _ _, d_t (show v_Mo_thrown I2 = k from h4)]
    by_cases e : k = 0
    · have hk' : L1 185 0 = cond (decide (b = 0)) 0 1 := hk e
      rw [d_t e]
      by_cases eb : b = 0
      · rw [d_t eb] at hk'
        rw [d_t eb, d_t ((lg_cmp_eq _ _).mpr hk')]
      · rw [d_f eb] at hk'
        rw [d_f eb, d_t ((lg_cmp_eq _ _).mpr hk')]
    · rw [d_f e]
  · refine WC_of (p1 := 5) (p2 := 8) ((y_La_change_0 _ _).trans (y_La_change_5 _ _ _ _ _)) ?_ ?_ ?_
    · intro I1 L1 y
      rw [y_La_change_8 _ _ _ _]
      unfold fb_b
      cases decide (y = 0) <;> rfl
    · intro c I1 L1 ho
      have hc : okO (fun c => c = 0) (sp_change S (I 0 (Int32.toNatClampNeg (x4 + 1))) (I 0 (Int32.toNatClampNeg (x4 + 2)))).1 := by
        show okS _ (sp_change S (I 0 (Int32.toNatClampNeg (x4 + 1))) (I 0 (Int32.toNatClampNeg (x4 + 2))))
        unfold sp_change
        repeat' (first | exact okS_p okO_l | exact okS_p (okO_r (rfl)) | refine okS_c ?_ ?_)
      have hc' : c = 0 := hc c ho
      subst hc'
      exact y_La_change_22 _ _
    · exact KCL_of (C_change hC hG (I 0 (Int32.toNatClampNeg (x4 + 1))) (I 0 (Int32.toNatClampNeg (x4 + 2))))
  · intro g1 I1 L1 hM1
    exact M_change hM1 hG (I 0 (Int32.toNatClampNeg (x4 + 1))) (I 0 (Int32.toNatClampNeg (x4 + 2)))
  · exact G_change hG (I 0 (Int32.toNatClampNeg (x4 + 1))) (I 0 (Int32.toNatClampNeg (x4 + 2)))
  · show okS _ (sp_change S (I 0 (Int32.toNatClampNeg (x4 + 1))) (I 0 (Int32.toNatClampNeg (x4 + 2))))
    unfold sp_change
    repeat' (first | exact okS_p okO_l | exact okS_p (okO_r (Or.inl rfl)) | exact okS_p (okO_r (Or.inr rfl)) | refine okS_c ?_ ?_)
theorem L_12 (hL : LwS S sw I) (x4 : Int32) (w5 w6 : Value) (hi1 : am_inb (x4 + 1) N = true) (hi2 : am_inb (x4 + 2) N = true) (hi3 : am_inb (x4 + 3) N = true) (hi4 : am_inb (x4 + 4) N = true) (hi5 : am_inb (x4 + 5) N = true) : LwG g N sw lv I L x4 w5 w6 941 := by
  obtain ⟨hC, hM, hG, hV⟩ := id hL
  refine LA_of (P1 := 945) (P2 := 949) (ka := 29) (ba := 3) (la := [.ref 75]) (kb := 213) (bb := 2) (lb := [.ref 147]) (S' := (sp_undo S).2) (kk := k1) (o := (sp_undo S).1) hL ?_ ?_ ?_ rfl rfl ?_ ?_ ?_ ?_
  · rw [z_La_law_941 _ _ _]
  · intro I1 y0 h0
    rw [z_La_law_945 _ _ _ _]
  · intro I2 y
    rw [z_La_law_949 _ _ _ _ _, d_t rfl]
  · exact C_undo hC hG
  · intro I1 hM1
    exact M_undo hM1 hG
  · exact G_undo hG
  · show okS _ (sp_undo S)
    unfold sp_undo
    repeat' (first | exact okS_p okO_l | refine okS_c ?_ ?_)
theorem L_13 (hL : LwS S sw I) (x4 : Int32) (w5 w6 : Value) (hi1 : am_inb (x4 + 1) N = true) (hi2 : am_inb (x4 + 2) N = true) (hi3 : am_inb (x4 + 3) N = true) (hi4 : am_inb (x4 + 4) N = true) (hi5 : am_inb (x4 + 5) N = true) : LwG g N sw lv I L x4 w5 w6 954 := by
  obtain ⟨hC, hM, hG, hV⟩ := id hL
  refine LB_of (P1 := 977) (P2 := 1001) (ka := 274) (ba := 9) (la := [.ref 75, .int (I 0 (Int32.toNatClampNeg (x4 + 1))), .int (I 0 (Int32.toNatClampNeg (x4 + 2))), .int (I 0 (Int32.toNatClampNeg (x4 + 3))), .ref 185, am_u]) (kb := 215) (bb := 8) (lb := [.ref 147, .int (I 0 (Int32.toNatClampNeg (x4 + 1))), .int (I 0 (Int32.toNatClampNeg (x4 + 2))), .int (I 0 (Int32.toNatClampNeg (x4 + 3))), am_u]) (S' := S) (fb := Int32.toInt64) (kk := k12) (o := (sp_then (sE S) (sT S) (I 0 (Int32.toNatClampNeg (x4 + 1))) (I 0 (Int32.toNatClampNeg (x4 + 2))) (I 0 (Int32.toNatClampNeg (x4 + 3))))) hL ?_ ?_ ?_ rfl rfl ?_ ?_ ?_ ?_
  · rw [z_La_law_954 _ _ _, hi1, cond_true, hi2, cond_true, hi3, cond_true]
  · intro g1 I1 L1 y0 h0
    rw [z_La_law_977 _ _ _ _, hi1, cond_true, hi2, cond_true, hi3, cond_true, h0]
  · intro g1 I2 L1 k b h4 hk
    rw [z_La_law_1001 _ _ _ _, e_Mo_thrown, am_bd_ok, am_tl, z_La_law_1007 _ _ _ _, d_t (show v_Mo_thrown I2 = k from h4)]
    by_cases e : k = 0
    · rw [d_t e, d_t ((lg_cmp_eq _ _).mpr (hk e))]
    · rw [d_f e]
  · refine WC_of (p1 := 7) (p2 := 10) ((y_La_then_0 _ _ _).trans (y_La_then_7 _ _ _ _ _ _ _)) ?_ ?_ ?_
    · intro I1 L1 y
      exact (y_La_then_10 _ _ _ _ _).trans rfl
    · intro c I1 L1 ho
      have hc : okO (fun c => c = 0 ∨ c = 1) (sp_then (sE S) (sT S) (I 0 (Int32.toNatClampNeg (x4 + 1))) (I 0 (Int32.toNatClampNeg (x4 + 2))) (I 0 (Int32.toNatClampNeg (x4 + 3)))) := by
        unfold sp_then
        repeat' (first | exact okO_l | exact okO_r (Or.inl rfl) | exact okO_r (Or.inr rfl) | refine okO_c ?_ ?_)
      have hc' : c = 0 ∨ c = 1 := hc c ho
      rcases hc' with rfl | rfl
      · exact y_La_then_17 _ _ _
      · exact y_La_then_21 _ _ _
    · exact KCL_of (KC_of hC (C_then hC.1 hG.1.1 (hd_1000 hG) (I 0 (Int32.toNatClampNeg (x4 + 1))) (I 0 (Int32.toNatClampNeg (x4 + 2))) (I 0 (Int32.toNatClampNeg (x4 + 3)))))
  · intro g1 I1 L1 hM1
    exact KM_of hM1 (M_then hM1.1 hG.1.1 (hd_1000 hG) (I 0 (Int32.toNatClampNeg (x4 + 1))) (I 0 (Int32.toNatClampNeg (x4 + 2))) (I 0 (Int32.toNatClampNeg (x4 + 3))))
  · exact hG
  · unfold sp_then
    repeat' (first | exact okO_l | exact okO_r (Or.inl rfl) | exact okO_r (Or.inr rfl) | refine okO_c ?_ ?_)
theorem L_14 (hL : LwS S sw I) (x4 : Int32) (w5 w6 : Value) (hi1 : am_inb (x4 + 1) N = true) (hi2 : am_inb (x4 + 2) N = true) (hi3 : am_inb (x4 + 3) N = true) (hi4 : am_inb (x4 + 4) N = true) (hi5 : am_inb (x4 + 5) N = true) : LwG g N sw lv I L x4 w5 w6 1034 := by
  obtain ⟨hC, hM, hG, hV⟩ := id hL
  refine LB_of (P1 := 1051) (P2 := 1069) (ka := 275) (ba := 9) (la := [.ref 75, .int (I 0 (Int32.toNatClampNeg (x4 + 1))), .int (I 0 (Int32.toNatClampNeg (x4 + 2))), .ref 185, am_u]) (kb := 216) (bb := 8) (lb := [.ref 147, .int (I 0 (Int32.toNatClampNeg (x4 + 1))), .int (I 0 (Int32.toNatClampNeg (x4 + 2))), am_u]) (S' := S) (fb := Int32.toInt64) (kk := k12) (o := (sp_later (sE S) (sT S) (I 0 (Int32.toNatClampNeg (x4 + 1))) (I 0 (Int32.toNatClampNeg (x4 + 2))))) hL ?_ ?_ ?_ rfl rfl ?_ ?_ ?_ ?_
  · rw [z_La_law_1034 _ _ _, hi1, cond_true, hi2, cond_true]
  · intro g1 I1 L1 y0 h0
    rw [z_La_law_1051 _ _ _ _, hi1, cond_true, hi2, cond_true, h0]
  · intro g1 I2 L1 k b h4 hk
    rw [z_La_law_1069 _ _ _ _, e_Mo_thrown, am_bd_ok, am_tl, z_La_law_1075 _ _ _ _, d_t (show v_Mo_thrown I2 = k from h4)]
    by_cases e : k = 0
    · rw [d_t e, d_t ((lg_cmp_eq _ _).mpr (hk e))]
    · rw [d_f e]
  · refine WC_of (p1 := 5) (p2 := 8) ((y_La_later_0 _ _).trans (y_La_later_5 _ _ _ _ _)) ?_ ?_ ?_
    · intro I1 L1 y
      exact (y_La_later_8 _ _ _ _).trans rfl
    · intro c I1 L1 ho
      have hc : okO (fun c => c = 0 ∨ c = 1) (sp_later (sE S) (sT S) (I 0 (Int32.toNatClampNeg (x4 + 1))) (I 0 (Int32.toNatClampNeg (x4 + 2)))) := by
        unfold sp_later
        repeat' (first | exact okO_l | exact okO_r (Or.inl rfl) | exact okO_r (Or.inr rfl) | refine okO_c ?_ ?_)
      have hc' : c = 0 ∨ c = 1 := hc c ho
      rcases hc' with rfl | rfl
      · exact y_La_later_15 _ _
      · exact y_La_later_19 _ _
    · exact KCL_of (KC_of hC (C_later hC.1 hG.1.1 (hd_1000 hG) (I 0 (Int32.toNatClampNeg (x4 + 1))) (I 0 (Int32.toNatClampNeg (x4 + 2)))))
  · intro g1 I1 L1 hM1
    exact KM_of hM1 (M_later hM1.1 hG.1.1 (hd_1000 hG) (I 0 (Int32.toNatClampNeg (x4 + 1))) (I 0 (Int32.toNatClampNeg (x4 + 2))))
  · exact hG
  · unfold sp_later
    repeat' (first | exact okO_l | exact okO_r (Or.inl rfl) | exact okO_r (Or.inr rfl) | refine okO_c ?_ ?_)
theorem L_15 (hL : LwS S sw I) (x4 : Int32) (w5 w6 : Value) (hi1 : am_inb (x4 + 1) N = true) (hi2 : am_inb (x4 + 2) N = true) (hi3 : am_inb (x4 + 3) N = true) (hi4 : am_inb (x4 + 4) N = true) (hi5 : am_inb (x4 + 5) N = true) : LwG g N sw lv I L x4 w5 w6 1102 := by
  obtain ⟨hC, hM, hG, hV⟩ := id hL
  refine LB_of (P1 := 1113) (P2 := 1125) (ka := 276) (ba := 9) (la := [.ref 75, .int (I 0 (Int32.toNatClampNeg (x4 + 1))), .ref 185, am_u]) (kb := 217) (bb := 8) (lb := [.ref 147, .int (I 0 (Int32.toNatClampNeg (x4 + 1)))]) (S' := S) (fb := Int32.toInt64) (kk := k1) (o := (sp_falls (sE S) (sT S) (I 0 (Int32.toNatClampNeg (x4 + 1))))) hL ?_ ?_ ?_ rfl rfl ?_ ?_ ?_ ?_
  · rw [z_La_law_1102 _ _ _, hi1, cond_true]
  · intro g1 I1 L1 y0 h0
    rw [z_La_law_1113 _ _ _ _, hi1, cond_true, h0]
  · intro g1 I2 L1 k b h4 hk
    rw [z_La_law_1125 _ _ _ _, e_Mo_thrown, am_bd_ok, am_tl, z_La_law_1131 _ _ _ _, d_t (show v_Mo_thrown I2 = k from h4)]
    by_cases e : k = 0
    · rw [d_t e, d_t ((lg_cmp_eq _ _).mpr (hk e))]
    · rw [d_f e]
  · refine WC_of (p1 := 4) (p2 := 7) ((y_La_falls_0 _).trans (y_La_falls_4 _ _ _)) ?_ ?_ ?_
    · intro I1 L1 y
      exact (y_La_falls_7 _ _ _).trans rfl
    · intro c I1 L1 ho
      have hc : okO (fun c => c = 0) (sp_falls (sE S) (sT S) (I 0 (Int32.toNatClampNeg (x4 + 1)))) := by
        unfold sp_falls
        repeat' (first | exact okO_l | exact okO_r (rfl) | refine okO_c ?_ ?_)
      have hc' : c = 0 := hc c ho
      subst hc'
      exact y_La_falls_13 _
    · exact KCL_of (KC_of hC (C_falls hC.1 hG.1.1 (hd_1000 hG) (I 0 (Int32.toNatClampNeg (x4 + 1)))))
  · intro g1 I1 L1 hM1
    exact KM_of hM1 (M_falls hM1.1 hG.1.1 (hd_1000 hG) (I 0 (Int32.toNatClampNeg (x4 + 1))))
  · exact hG
  · unfold sp_falls
    repeat' (first | exact okO_l | exact okO_r (Or.inl rfl) | exact okO_r (Or.inr rfl) | refine okO_c ?_ ?_)
theorem L_16 (hL : LwS S sw I) (x4 : Int32) (w5 w6 : Value) (hi1 : am_inb (x4 + 1) N = true) (hi2 : am_inb (x4 + 2) N = true) (hi3 : am_inb (x4 + 3) N = true) (hi4 : am_inb (x4 + 4) N = true) (hi5 : am_inb (x4 + 5) N = true) : LwG g N sw lv I L x4 w5 w6 1158 := by
  obtain ⟨hC, hM, hG, hV⟩ := id hL
  refine LB_of (P1 := 1169) (P2 := 1181) (ka := 277) (ba := 9) (la := [.ref 75, .int (I 0 (Int32.toNatClampNeg (x4 + 1))), .ref 185, am_u]) (kb := 219) (bb := 8) (lb := [.ref 147, .int (I 0 (Int32.toNatClampNeg (x4 + 1))), am_u, am_u]) (S' := S) (fb := Int32.toInt64) (kk := k1) (o := (sp_down (sE S) (sT S) (I 0 (Int32.toNatClampNeg (x4 + 1))))) hL ?_ ?_ ?_ rfl rfl ?_ ?_ ?_ ?_
  · rw [z_La_law_1158 _ _ _, hi1, cond_true]
  · intro g1 I1 L1 y0 h0
    rw [z_La_law_1169 _ _ _ _, hi1, cond_true, h0]
  · intro g1 I2 L1 k b h4 hk
    rw [z_La_law_1181 _ _ _ _, e_Mo_thrown, am_bd_ok, am_tl, z_La_law_1187 _ _ _ _, d_t (show v_Mo_thrown I2 = k from h4)]
    by_cases e : k = 0
    · rw [d_t e, d_t ((lg_cmp_eq _ _).mpr (hk e))]
    · rw [d_f e]
  · refine WC_of (p1 := 4) (p2 := 7) ((y_La_down_0 _).trans (y_La_down_4 _ _ _)) ?_ ?_ ?_
    · intro I1 L1 y
      exact (y_La_down_7 _ _ _).trans rfl
    · intro c I1 L1 ho
      have hc : okO (fun c => c = 1) (sp_down (sE S) (sT S) (I 0 (Int32.toNatClampNeg (x4 + 1)))) := by
        unfold sp_down
        repeat' (first | exact okO_l | exact okO_r (rfl) | refine okO_c ?_ ?_)
      have hc' : c = 1 := hc c ho
      subst hc'
      exact y_La_down_13 _
    · exact KCL_of (KC_of hC (C_down hC.1 hG.1.1 (hd_1000 hG) (I 0 (Int32.toNatClampNeg (x4 + 1)))))
  · intro g1 I1 L1 hM1
    exact KM_of hM1 (M_down hM1.1 hG.1.1 (hd_1000 hG) (I 0 (Int32.toNatClampNeg (x4 + 1))))
  · exact hG
  · unfold sp_down
    repeat' (first | exact okO_l | exact okO_r (Or.inl rfl) | exact okO_r (Or.inr rfl) | refine okO_c ?_ ?_)
theorem L_17 (hL : LwS S sw I) (x4 : Int32) (w5 w6 : Value) (hi1 : am_inb (x4 + 1) N = true) (hi2 : am_inb (x4 + 2) N = true) (hi3 : am_inb (x4 + 3) N = true) (hi4 : am_inb (x4 + 4) N = true) (hi5 : am_inb (x4 + 5) N = true) : LwG g N sw lv I L x4 w5 w6 1214 := by
  obtain ⟨hC, hM, hG, hV⟩ := id hL
  refine LA_of (P1 := 1218) (P2 := 1222) (ka := 32) (ba := 8) (la := [.ref 75, am_u, am_u]) (kb := 220) (bb := 8) (lb := [.ref 147, am_u, am_u, am_u, am_u, am_u]) (S' := S) (kk := k1) (o := (sp_last (sE S) (sT S))) hL ?_ ?_ ?_ rfl rfl ?_ ?_ ?_ ?_
  · rw [z_La_law_1214 _ _ _]
  · intro I1 y0 h0
    rw [z_La_law_1218 _ _ _ _]
  · intro I2 y
    rw [z_La_law_1222 _ _ _ _ _, d_t rfl]
  · exact KC_of hC (C_last hC.1 hG.1.1 (hd_1000 hG))
  · intro I1 hM1
    exact KM_of hM1 (M_last hM1.1 hG.1.1 (hd_1000 hG))
  · exact hG
  · unfold sp_last
    repeat' (first | exact okO_l | refine okO_c ?_ ?_)
theorem L_18 (hL : LwS S sw I) (x4 : Int32) (w5 w6 : Value) (hi1 : am_inb (x4 + 1) N = true) (hi2 : am_inb (x4 + 2) N = true) (hi3 : am_inb (x4 + 3) N = true) (hi4 : am_inb (x4 + 4) N = true) (hi5 : am_inb (x4 + 5) N = true) : LwG g N sw lv I L x4 w5 w6 1227 := by
  obtain ⟨hC, hM, hG, hV⟩ := id hL
  refine LB_of (P1 := 1238) (P2 := 1250) (ka := 278) (ba := 9) (la := [.ref 75, .int (I 0 (Int32.toNatClampNeg (x4 + 1))), .ref 185, am_u]) (kb := 221) (bb := 7) (lb := [.ref 147, .int (I 0 (Int32.toNatClampNeg (x4 + 1))), am_u, am_u, am_u]) (S' := S) (fb := Int32.toInt64) (kk := k1) (o := (sp_tips (sE S) (sT S) (I 0 (Int32.toNatClampNeg (x4 + 1))))) hL ?_ ?_ ?_ rfl rfl ?_ ?_ ?_ ?_
  · rw [z_La_law_1227 _ _ _, hi1, cond_true]
  · intro g1 I1 L1 y0 h0
    rw [z_La_law_1238 _ _ _ _, hi1, cond_true, h0]
  · intro g1 I2 L1 k b h4 hk
    rw [z_La_law_1250 _ _ _ _, e_Mo_thrown, am_bd_ok, am_tl, z_La_law_1256 _ _ _ _, d_t (show v_Mo_thrown I2 = k from h4)]
    by_cases e : k = 0
    · rw [d_t e, d_t ((lg_cmp_eq _ _).mpr (hk e))]
    · rw [d_f e]
  · refine WC_of (p1 := 4) (p2 := 7) ((y_La_tips_0 _).trans (y_La_tips_4 _ _ _)) ?_ ?_ ?_
    · intro I1 L1 y
      exact (y_La_tips_7 _ _ _).trans rfl
    · intro c I1 L1 ho
      have hc : okO (fun c => c = 0) (sp_tips (sE S) (sT S) (I 0 (Int32.toNatClampNeg (x4 + 1)))) := by
        unfold sp_tips
        repeat' (first | exact okO_l | exact okO_r (rfl) | refine okO_c ?_ ?_)
      have hc' : c = 0 := hc c ho
      subst hc'
      exact y_La_tips_13 _
    · exact KCL_of (KC_of hC (C_tips hC.1 hG.1.1 (hd_1000 hG) (I 0 (Int32.toNatClampNeg (x4 + 1)))))
  · intro g1 I1 L1 hM1
    exact KM_of hM1 (M_tips hM1.1 hG.1.1 (hd_1000 hG) (I 0 (Int32.toNatClampNeg (x4 + 1))))
  · exact hG
  · unfold sp_tips
    repeat' (first | exact okO_l | exact okO_r (Or.inl rfl) | exact okO_r (Or.inr rfl) | refine okO_c ?_ ?_)
theorem L_19 (hL : LwS S sw I) (x4 : Int32) (w5 w6 : Value) (hi1 : am_inb (x4 + 1) N = true) (hi2 : am_inb (x4 + 2) N = true) (hi3 : am_inb (x4 + 3) N = true) (hi4 : am_inb (x4 + 4) N = true) (hi5 : am_inb (x4 + 5) N = true) : LwG g N sw lv I L x4 w5 w6 1283 := by
  obtain ⟨hC, hM, hG, hV⟩ := id hL
  refine LB_of (P1 := 1300) (P2 := 1318) (ka := 279) (ba := 6) (la := [.ref 75, .int (I 0 (Int32.toNatClampNeg (x4 + 1))), .int (I 0 (Int32.toNatClampNeg (x4 + 2))), .ref 185, am_u]) (kb := 226) (bb := 6) (lb := [.ref 147, .int (I 0 (Int32.toNatClampNeg (x4 + 1))), .int (I 0 (Int32.toNatClampNeg (x4 + 2)))]) (S' := S) (fb := Int32.toInt64) (kk := k1) (o := (sp_votes (sT S) (I 0 (Int32.toNatClampNeg (x4 + 1))) (I 0 (Int32.toNatClampNeg (x4 + 2))))) hL ?_ ?_ ?_ rfl rfl ?_ ?_ ?_ ?_
  · rw [z_La_law_1283 _ _ _, hi1, cond_true, hi2, cond_true]
  · intro g1 I1 L1 y0 h0
    rw [z_La_law_1300 _ _ _ _, hi1, cond_true, hi2, cond_true, h0]
  · intro g1 I2 L1 k b h4 hk
    rw [z_La_law_1318 _ _ _ _, e_Mo_thrown, am_bd_ok, am_tl, z_La_law_1324 _ _ _ _, d_t (show v_Mo_thrown I2 = k from h4)]
    by_cases e : k = 0
    · rw [d_t e, d_t ((lg_cmp_eq _ _).mpr (hk e))]
    · rw [d_f e]
  · refine WC_of (p1 := 5) (p2 := 8) ((y_La_votes_0 _ _).trans (y_La_votes_5 _ _ _ _ _)) ?_ ?_ ?_
    · intro I1 L1 y
      exact (y_La_votes_8 _ _ _ _).trans rfl
    · intro c I1 L1 ho
      have hc : okO (fun c => c = 0) (sp_votes (sT S) (I 0 (Int32.toNatClampNeg (x4 + 1))) (I 0 (Int32.toNatClampNeg (x4 + 2)))) := by
        unfold sp_votes
        repeat' (first | exact okO_l | exact okO_r (rfl) | refine okO_c ?_ ?_)
      have hc' : c = 0 := hc c ho
      subst hc'
      exact y_La_votes_15 _ _
    · exact KCL_of (KC_of hC (C_votes hC.1 hG.1.1 (I 0 (Int32.toNatClampNeg (x4 + 1))) (I 0 (Int32.toNatClampNeg (x4 + 2)))))
  · intro g1 I1 L1 hM1
    exact KM_of hM1 (M_votes hM1.1 hG.1.1 (I 0 (Int32.toNatClampNeg (x4 + 1))) (I 0 (Int32.toNatClampNeg (x4 + 2))))
  · exact hG
  · unfold sp_votes
    repeat' (first | exact okO_l | exact okO_r (Or.inl rfl) | exact okO_r (Or.inr rfl) | refine okO_c ?_ ?_)
theorem L_20 (hL : LwS S sw I) (x4 : Int32) (w5 w6 : Value) (hi1 : am_inb (x4 + 1) N = true) (hi2 : am_inb (x4 + 2) N = true) (hi3 : am_inb (x4 + 3) N = true) (hi4 : am_inb (x4 + 4) N = true) (hi5 : am_inb (x4 + 5) N = true) : LwG g N sw lv I L x4 w5 w6 1351 := by
  obtain ⟨hC, hM, hG, hV⟩ := id hL
  refine LB_of (P1 := 1362) (P2 := 1374) (ka := 280) (ba := 9) (la := [.ref 75, .int (I 0 (Int32.toNatClampNeg (x4 + 1))), .ref 185, am_u]) (kb := 230) (bb := 7) (lb := [.ref 147, .int (I 0 (Int32.toNatClampNeg (x4 + 1))), am_u, am_u, am_u, am_u]) (S' := S) (fb := Int32.toInt64) (kk := k1) (o := (sp_decisive (sT S) (I 0 (Int32.toNatClampNeg (x4 + 1))))) hL ?_ ?_ ?_ rfl rfl ?_ ?_ ?_ ?_
  · rw [z_La_law_1351 _ _ _, hi1, cond_true]
  · intro g1 I1 L1 y0 h0
    rw [z_La_law_1362 _ _ _ _, hi1, cond_true, h0]
  · intro g1 I2 L1 k b h4 hk
    rw [z_La_law_1374 _ _ _ _, e_Mo_thrown, am_bd_ok, am_tl, z_La_law_1380 _ _ _ _, d_t (show v_Mo_thrown I2 = k from h4)]
    by_cases e : k = 0
    · rw [d_t e, d_t ((lg_cmp_eq _ _).mpr (hk e))]
    · rw [d_f e]
  · refine WC_of (p1 := 4) (p2 := 7) ((y_La_decisive_0 _).trans (y_La_decisive_4 _ _ _)) ?_ ?_ ?_
    · intro I1 L1 y
      exact (y_La_decisive_7 _ _ _).trans rfl
    · intro c I1 L1 ho
      have hc : okO (fun c => c = 0) (sp_decisive (sT S) (I 0 (Int32.toNatClampNeg (x4 + 1)))) := by
        unfold sp_decisive
        repeat' (first | exact okO_l | exact okO_r (rfl) | refine okO_c ?_ ?_)
      have hc' : c = 0 := hc c ho
      subst hc'
      exact y_La_decisive_13 _
    · exact KCL_of (KC_of hC (C_decisive hC.1 hG.1.1 (hd_1000 hG) (I 0 (Int32.toNatClampNeg (x4 + 1)))))
  · intro g1 I1 L1 hM1
    exact KM_of hM1 (M_decisive hM1.1 hG.1.1 (I 0 (Int32.toNatClampNeg (x4 + 1))))
  · exact hG
  · unfold sp_decisive
    repeat' (first | exact okO_l | exact okO_r (Or.inl rfl) | exact okO_r (Or.inr rfl) | refine okO_c ?_ ?_)
theorem L_21 (hL : LwS S sw I) (x4 : Int32) (w5 w6 : Value) (hi1 : am_inb (x4 + 1) N = true) (hi2 : am_inb (x4 + 2) N = true) (hi3 : am_inb (x4 + 3) N = true) (hi4 : am_inb (x4 + 4) N = true) (hi5 : am_inb (x4 + 5) N = true) : LwG g N sw lv I L x4 w5 w6 1407 := by
  obtain ⟨hC, hM, hG, hV⟩ := id hL
  refine LB_of (P1 := 1418) (P2 := 1430) (ka := 281) (ba := 7) (la := [.ref 75, .int (I 0 (Int32.toNatClampNeg (x4 + 1))), .ref 185, am_u]) (kb := 231) (bb := 7) (lb := [.ref 147, .int (I 0 (Int32.toNatClampNeg (x4 + 1))), am_u, am_u, am_u]) (S' := S) (fb := Int32.toInt64) (kk := k1) (o := (sp_toTurn (sT S) (I 0 (Int32.toNatClampNeg (x4 + 1))))) hL ?_ ?_ ?_ rfl rfl ?_ ?_ ?_ ?_
  · rw [z_La_law_1407 _ _ _, hi1, cond_true]
  · intro g1 I1 L1 y0 h0
    rw [z_La_law_1418 _ _ _ _, hi1, cond_true, h0]
  · intro g1 I2 L1 k b h4 hk
    rw [z_La_law_1430 _ _ _ _, e_Mo_thrown, am_bd_ok, am_tl, z_La_law_1436 _ _ _ _, d_t (show v_Mo_thrown I2 = k from h4)]
    by_cases e : k = 0
    · rw [d_t e, d_t ((lg_cmp_eq _ _).mpr (hk e))]
    · rw [d_f e]
  · refine WC_of (p1 := 4) (p2 := 7) ((y_La_toTurn_0 _).trans (y_La_toTurn_4 _ _ _)) ?_ ?_ ?_
    · intro I1 L1 y
      exact (y_La_toTurn_7 _ _ _).trans rfl
    · intro c I1 L1 ho
      have hc : okO (fun c => c = 0) (sp_toTurn (sT S) (I 0 (Int32.toNatClampNeg (x4 + 1)))) := by
        unfold sp_toTurn
        repeat' (first | exact okO_l | exact okO_r (rfl) | refine okO_c ?_ ?_)
      have hc' : c = 0 := hc c ho
      subst hc'
      exact y_La_toTurn_13 _
    · exact KCL_of (KC_of hC (C_toTurn hC.1 hG.1.1 (I 0 (Int32.toNatClampNeg (x4 + 1)))))
  · intro g1 I1 L1 hM1
    exact KM_of hM1 (M_toTurn hM1.1 hG.1.1 (I 0 (Int32.toNatClampNeg (x4 + 1))))
  · exact hG
  · unfold sp_toTurn
    repeat' (first | exact okO_l | exact okO_r (Or.inl rfl) | exact okO_r (Or.inr rfl) | refine okO_c ?_ ?_)
theorem L_22 (hL : LwS S sw I) (x4 : Int32) (w5 w6 : Value) (hi1 : am_inb (x4 + 1) N = true) (hi2 : am_inb (x4 + 2) N = true) (hi3 : am_inb (x4 + 3) N = true) (hi4 : am_inb (x4 + 4) N = true) (hi5 : am_inb (x4 + 5) N = true) : LwG g N sw lv I L x4 w5 w6 1463 := by
  obtain ⟨hC, hM, hG, hV⟩ := id hL
  refine LB_of (P1 := 1480) (P2 := 1498) (ka := 282) (ba := 4) (la := [.ref 75, .int (I 0 (Int32.toNatClampNeg (x4 + 1))), .int (I 0 (Int32.toNatClampNeg (x4 + 2))), .ref 185, am_u]) (kb := 233) (bb := 6) (lb := [.ref 147, .int (I 0 (Int32.toNatClampNeg (x4 + 1))), .int (I 0 (Int32.toNatClampNeg (x4 + 2)))]) (S' := S) (fb := Int32.toInt64) (kk := k12) (o := (sp_brings (sT S) (I 0 (Int32.toNatClampNeg (x4 + 1))) (I 0 (Int32.toNatClampNeg (x4 + 2))))) hL ?_ ?_ ?_ rfl rfl ?_ ?_ ?_ ?_
  · rw [z_La_law_1463 _ _ _, hi1, cond_true, hi2, cond_true]
  · intro g1 I1 L1 y0 h0
    rw [z_La_law_1480 _ _ _ _, hi1, cond_true, hi2, cond_true, h0]
  · intro g1 I2 L1 k b h4 hk
    rw [z_La_law_1498 _ _ _ _, e_Mo_thrown, am_bd_ok, am_tl, z_La_law_1504 _ _ _ _, d_t (show v_Mo_thrown I2 = k from h4)]
    by_cases e : k = 0
    · rw [d_t e, d_t ((lg_cmp_eq _ _).mpr (hk e))]
    · rw [d_f e]
  · refine WC_of (p1 := 5) (p2 := 8) ((y_La_brings_0 _ _).trans (y_La_brings_5 _ _ _ _ _)) ?_ ?_ ?_
    · intro I1 L1 y
      exact (y_La_brings_8 _ _ _ _).trans rfl
    · intro c I1 L1 ho
      have hc : okO (fun c => c = 0 ∨ c = 1) (sp_brings (sT S) (I 0 (Int32.toNatClampNeg (x4 + 1))) (I 0 (Int32.toNatClampNeg (x4 + 2)))) := by
        unfold sp_brings
        repeat' (first | exact okO_l | exact okO_r (Or.inl rfl) | exact okO_r (Or.inr rfl) | refine okO_c ?_ ?_)
      have hc' : c = 0 ∨ c = 1 := hc c ho
      rcases hc' with rfl | rfl
      · exact y_La_brings_15 _ _
      · exact y_La_brings_19 _ _
    · exact KCL_of (KC_of hC (C_brings hC.1 hG.1.1 (I 0 (Int32.toNatClampNeg (x4 + 1))) (I 0 (Int32.toNatClampNeg (x4 + 2)))))
  · intro g1 I1 L1 hM1
    exact KM_of hM1 (M_brings hM1.1 hG.1.1 (I 0 (Int32.toNatClampNeg (x4 + 1))) (I 0 (Int32.toNatClampNeg (x4 + 2))))
  · exact hG
  · unfold sp_brings
    repeat' (first | exact okO_l | exact okO_r (Or.inl rfl) | exact okO_r (Or.inr rfl) | refine okO_c ?_ ?_)
theorem L_23 (hL : LwS S sw I) (x4 : Int32) (w5 w6 : Value) (hi1 : am_inb (x4 + 1) N = true) (hi2 : am_inb (x4 + 2) N = true) (hi3 : am_inb (x4 + 3) N = true) (hi4 : am_inb (x4 + 4) N = true) (hi5 : am_inb (x4 + 5) N = true) : LwG g N sw lv I L x4 w5 w6 1531 := by
  obtain ⟨hC, hM, hG, hV⟩ := id hL
  refine LB_of (P1 := 1548) (P2 := 1566) (ka := 283) (ba := 4) (la := [.ref 75, .int (I 0 (Int32.toNatClampNeg (x4 + 1))), .int (I 0 (Int32.toNatClampNeg (x4 + 2))), .ref 185, am_u]) (kb := 237) (bb := 3) (lb := [.ref 147, .int (I 0 (Int32.toNatClampNeg (x4 + 1))), .int (I 0 (Int32.toNatClampNeg (x4 + 2)))]) (S' := S) (fb := Int32.toInt64) (kk := k1) (o := (sp_agree (sT S) (I 0 (Int32.toNatClampNeg (x4 + 1))) (I 0 (Int32.toNatClampNeg (x4 + 2))))) hL ?_ ?_ ?_ rfl rfl ?_ ?_ ?_ ?_
  · rw [z_La_law_1531 _ _ _, hi1, cond_true, hi2, cond_true]
  · intro g1 I1 L1 y0 h0
    rw [z_La_law_1548 _ _ _ _, hi1, cond_true, hi2, cond_true, h0]
  · intro g1 I2 L1 k b h4 hk
    rw [z_La_law_1566 _ _ _ _, e_Mo_thrown, am_bd_ok, am_tl, z_La_law_1572 _ _ _ _, d_t (show v_Mo_thrown I2 = k from h4)]
    by_cases e : k = 0
    · rw [d_t e, d_t ((lg_cmp_eq _ _).mpr (hk e))]
    · rw [d_f e]
  · refine WC_of (p1 := 5) (p2 := 8) ((y_La_agree_0 _ _).trans (y_La_agree_5 _ _ _ _ _)) ?_ ?_ ?_
    · intro I1 L1 y
      exact (y_La_agree_8 _ _ _ _).trans rfl
    · intro c I1 L1 ho
      have hc : okO (fun c => c = 0) (sp_agree (sT S) (I 0 (Int32.toNatClampNeg (x4 + 1))) (I 0 (Int32.toNatClampNeg (x4 + 2)))) := by
        unfold sp_agree
        repeat' (first | exact okO_l | exact okO_r (rfl) | refine okO_c ?_ ?_)
      have hc' : c = 0 := hc c ho
      subst hc'
      exact y_La_agree_15 _ _
    · exact KCL_of (KC_of hC (C_agree hC.1 hG.1.1 (I 0 (Int32.toNatClampNeg (x4 + 1))) (I 0 (Int32.toNatClampNeg (x4 + 2)))))
  · intro g1 I1 L1 hM1
    exact KM_of hM1 (M_agree hM1.1 hG.1.1 (I 0 (Int32.toNatClampNeg (x4 + 1))) (I 0 (Int32.toNatClampNeg (x4 + 2))))
  · exact hG
  · unfold sp_agree
    repeat' (first | exact okO_l | exact okO_r (Or.inl rfl) | exact okO_r (Or.inr rfl) | refine okO_c ?_ ?_)
theorem L_24 (hL : LwS S sw I) (x4 : Int32) (w5 w6 : Value) (hi1 : am_inb (x4 + 1) N = true) (hi2 : am_inb (x4 + 2) N = true) (hi3 : am_inb (x4 + 3) N = true) (hi4 : am_inb (x4 + 4) N = true) (hi5 : am_inb (x4 + 5) N = true) : LwG g N sw lv I L x4 w5 w6 1599 := by
  obtain ⟨hC, hM, hG, hV⟩ := id hL
  refine LB_of (P1 := 1616) (P2 := 1634) (ka := 284) (ba := 4) (la := [.ref 75, .int (I 0 (Int32.toNatClampNeg (x4 + 1))), .int (I 0 (Int32.toNatClampNeg (x4 + 2))), .ref 185, am_u]) (kb := 239) (bb := 3) (lb := [.ref 147, .int (I 0 (Int32.toNatClampNeg (x4 + 1))), .int (I 0 (Int32.toNatClampNeg (x4 + 2))), am_u, am_u]) (S' := S) (fb := Int32.toInt64) (kk := k12) (o := (sp_party (sT S) (I 0 (Int32.toNatClampNeg (x4 + 1))) (I 0 (Int32.toNatClampNeg (x4 + 2))))) hL ?_ ?_ ?_ rfl rfl ?_ ?_ ?_ ?_
  · rw [z_La_law_1599 _ _ _, hi1, cond_true, hi2, cond_true]
  · intro g1 I1 L1 y0 h0
    rw [z_La_law_1616 _ _ _ _, hi1, cond_true, hi2, cond_true, h0]
  · intro g1 I2 L1 k b h4 hk
    rw [z_La_law_1634 _ _ _ _, e_Mo_thrown, am_bd_ok, am_tl, z_La_law_1640 _ _ _ _, d_t (show v_Mo_thrown I2 = k from h4)]
    by_cases e : k = 0
    · rw [d_t e, d_t ((lg_cmp_eq _ _).mpr (hk e))]
    · rw [d_f e]
  · refine WC_of (p1 := 5) (p2 := 8) ((y_La_party_0 _ _).trans (y_La_party_5 _ _ _ _ _)) ?_ ?_ ?_
    · intro I1 L1 y
      exact (y_La_party_8 _ _ _ _).trans rfl
    · intro c I1 L1 ho
      have hc : okO (fun c => c = 0 ∨ c = 1) (sp_party (sT S) (I 0 (Int32.toNatClampNeg (x4 + 1))) (I 0 (Int32.toNatClampNeg (x4 + 2)))) := by
        unfold sp_party
        repeat' (first | exact okO_l | exact okO_r (Or.inl rfl) | exact okO_r (Or.inr rfl) | refine okO_c ?_ ?_)
      have hc' : c = 0 ∨ c = 1 := hc c ho
      rcases hc' with rfl | rfl
      · exact y_La_party_15 _ _
      · exact y_La_party_19 _ _
    · exact KCL_of (KC_of hC (C_party hC.1 hG.1.1 (I 0 (Int32.toNatClampNeg (x4 + 1))) (I 0 (Int32.toNatClampNeg (x4 + 2)))))
  · intro g1 I1 L1 hM1
    exact KM_of hM1 (M_party hM1.1 hG.1.1 (I 0 (Int32.toNatClampNeg (x4 + 1))) (I 0 (Int32.toNatClampNeg (x4 + 2))))
  · exact hG
  · unfold sp_party
    repeat' (first | exact okO_l | exact okO_r (Or.inl rfl) | exact okO_r (Or.inr rfl) | refine okO_c ?_ ?_)
theorem L_25 (hL : LwS S sw I) (x4 : Int32) (w5 w6 : Value) (hi1 : am_inb (x4 + 1) N = true) (hi2 : am_inb (x4 + 2) N = true) (hi3 : am_inb (x4 + 3) N = true) (hi4 : am_inb (x4 + 4) N = true) (hi5 : am_inb (x4 + 5) N = true) : LwG g N sw lv I L x4 w5 w6 1667 := by
  obtain ⟨hC, hM, hG, hV⟩ := id hL
  refine LB_of (P1 := 1678) (P2 := 1690) (ka := 285) (ba := 3) (la := [.ref 75, .int (I 0 (Int32.toNatClampNeg (x4 + 1))), .ref 185, am_u]) (kb := 241) (bb := 3) (lb := [.ref 147, .int (I 0 (Int32.toNatClampNeg (x4 + 1))), am_u, am_u, am_u, am_u]) (S' := S) (fb := Int32.toInt64) (kk := k1) (o := (sp_rooms (sT S) (I 0 (Int32.toNatClampNeg (x4 + 1))))) hL ?_ ?_ ?_ rfl rfl ?_ ?_ ?_ ?_
  · rw [z_La_law_1667 _ _ _, hi1, cond_true]
  · intro g1 I1 L1 y0 h0
    rw [z_La_law_1678 _ _ _ _, hi1, cond_true, h0]
  · intro g1 I2 L1 k b h4 hk
    rw [z_La_law_1690 _ _ _ _, e_Mo_thrown, am_bd_ok, am_tl, z_La_law_1696 _ _ _ _, d_t (show v_Mo_thrown I2 = k from h4)]
    by_cases e : k = 0
    · rw [d_t e, d_t ((lg_cmp_eq _ _).mpr (hk e))]
    · rw [d_f e]
  · refine WC_of (p1 := 4) (p2 := 7) ((y_La_rooms_0 _).trans (y_La_rooms_4 _ _ _)) ?_ ?_ ?_
    · intro I1 L1 y
      exact (y_La_rooms_7 _ _ _).trans rfl
    · intro c I1 L1 ho
      have hc : okO (fun c => c = 0) (sp_rooms (sT S) (I 0 (Int32.toNatClampNeg (x4 + 1)))) := by
        unfold sp_rooms
        repeat' (first | exact okO_l | exact okO_r (rfl) | refine okO_c ?_ ?_)
      have hc' : c = 0 := hc c ho
      subst hc'
      exact y_La_rooms_13 _
    · exact KCL_of (KC_of hC (C_rooms hC.1 hG.1.1 (I 0 (Int32.toNatClampNeg (x4 + 1)))))
  · intro g1 I1 L1 hM1
    exact KM_of hM1 (M_rooms hM1.1 hG.1.1 (I 0 (Int32.toNatClampNeg (x4 + 1))))
  · exact hG
  · unfold sp_rooms
    repeat' (first | exact okO_l | exact okO_r (Or.inl rfl) | exact okO_r (Or.inr rfl) | refine okO_c ?_ ?_)
theorem L_26 (hL : LwS S sw I) (x4 : Int32) (w5 w6 : Value) (hi1 : am_inb (x4 + 1) N = true) (hi2 : am_inb (x4 + 2) N = true) (hi3 : am_inb (x4 + 3) N = true) (hi4 : am_inb (x4 + 4) N = true) (hi5 : am_inb (x4 + 5) N = true) : LwG g N sw lv I L x4 w5 w6 1723 := by
  obtain ⟨hC, hM, hG, hV⟩ := id hL
  refine LA_of (P1 := 1727) (P2 := 1731) (ka := 36) (ba := 8) (la := [.ref 75, am_u, am_u, am_u, am_u, am_u]) (kb := 243) (bb := 8) (lb := [.ref 147, am_u, am_u, am_u, am_u, am_u]) (S' := S) (kk := k1) (o := (sp_better (sT S))) hL ?_ ?_ ?_ rfl rfl ?_ ?_ ?_ ?_
  · rw [z_La_law_1723 _ _ _]
  · intro I1 y0 h0
    rw [z_La_law_1727 _ _ _ _]
  · intro I2 y
    rw [z_La_law_1731 _ _ _ _ _, d_t rfl]
  · exact KC_of hC (C_better hC.1 hG.1.1 (hd_1000 hG))
  · intro I1 hM1
    exact KM_of hM1 (M_better hM1.1 hG.1.1)
  · exact hG
  · unfold sp_better
    repeat' (first | exact okO_l | refine okO_c ?_ ?_)
theorem L_27 (hL : LwS S sw I) (x4 : Int32) (w5 w6 : Value) (hi1 : am_inb (x4 + 1) N = true) (hi2 : am_inb (x4 + 2) N = true) (hi3 : am_inb (x4 + 3) N = true) (hi4 : am_inb (x4 + 4) N = true) (hi5 : am_inb (x4 + 5) N = true) : LwG g N sw lv I L x4 w5 w6 1736 := by
  obtain ⟨hC, hM, hG, hV⟩ := id hL
  refine LB_of (P1 := 1747) (P2 := 1759) (ka := 286) (ba := 9) (la := [.ref 75, .int (I 0 (Int32.toNatClampNeg (x4 + 1))), .ref 185, am_u]) (kb := 222) (bb := 8) (lb := [.ref 147, .int (I 0 (Int32.toNatClampNeg (x4 + 1))), am_u, am_u]) (S' := S) (fb := Int32.toInt64) (kk := k1) (o := (sp_heaviest (sE S) (sT S) (I 0 (Int32.toNatClampNeg (x4 + 1))))) hL ?_ ?_ ?_ rfl rfl ?_ ?_ ?_ ?_
  · rw [z_La_law_1736 _ _ _, hi1, cond_true]
  · intro g1 I1 L1 y0 h0
    rw [z_La_law_1747 _ _ _ _, hi1, cond_true, h0]
  · intro g1 I2 L1 k b h4 hk
    rw [z_La_law_1759 _ _ _ _, e_Mo_thrown, am_bd_ok, am_tl, z_La_law_1765 _ _ _ _, d_t (show v_Mo_thrown I2 = k from h4)]
    by_cases e : k = 0
    · rw [d_t e, d_t ((lg_cmp_eq _ _).mpr (hk e))]
    · rw [d_f e]
  · refine WC_of (p1 := 4) (p2 := 7) ((y_La_heaviest_0 _).trans (y_La_heaviest_4 _ _ _)) ?_ ?_ ?_
    · intro I1 L1 y
      exact (y_La_heaviest_7 _ _ _).trans rfl
    · intro c I1 L1 ho
      have hc : okO (fun c => c = 1) (sp_heaviest (sE S) (sT S) (I 0 (Int32.toNatClampNeg (x4 + 1)))) := by
        unfold sp_heaviest
        repeat' (first | exact okO_l | exact okO_r (rfl) | refine okO_c ?_ ?_)
      have hc' : c = 1 := hc c ho
      subst hc'
      exact y_La_heaviest_13 _
    · exact KCL_of (KC_of hC (C_heaviest hC.1 hG.1.1 hG.1.2.2.2 (hd_1000 hG) (I 0 (Int32.toNatClampNeg (x4 + 1)))))
  · intro g1 I1 L1 hM1
    exact KM_of hM1 (M_heaviest hM1.1 hG.1.1 (hd_1000 hG) (I 0 (Int32.toNatClampNeg (x4 + 1))))
  · exact hG
  · unfold sp_heaviest
    repeat' (first | exact okO_l | exact okO_r (Or.inl rfl) | exact okO_r (Or.inr rfl) | refine okO_c ?_ ?_)
theorem L_28 (hL : LwS S sw I) (x4 : Int32) (w5 w6 : Value) (hi1 : am_inb (x4 + 1) N = true) (hi2 : am_inb (x4 + 2) N = true) (hi3 : am_inb (x4 + 3) N = true) (hi4 : am_inb (x4 + 4) N = true) (hi5 : am_inb (x4 + 5) N = true) : LwG g N sw lv I L x4 w5 w6 1792 := by
  obtain ⟨hC, hM, hG, hV⟩ := id hL
  refine LB_of (P1 := 1803) (P2 := 1815) (ka := 287) (ba := 9) (la := [.ref 75, .int (I 0 (Int32.toNatClampNeg (x4 + 1))), .ref 185, am_u]) (kb := 223) (bb := 8) (lb := [.ref 147, .int (I 0 (Int32.toNatClampNeg (x4 + 1))), am_u, am_u]) (S' := S) (fb := Int32.toInt64) (kk := k1) (o := (sp_melted (sE S) (sT S) (I 0 (Int32.toNatClampNeg (x4 + 1))))) hL ?_ ?_ ?_ rfl rfl ?_ ?_ ?_ ?_
  · rw [z_La_law_1792 _ _ _, hi1, cond_true]
  · intro g1 I1 L1 y0 h0
    rw [z_La_law_1803 _ _ _ _, hi1, cond_true, h0]
  · intro g1 I2 L1 k b h4 hk
    rw [z_La_law_1815 _ _ _ _, e_Mo_thrown, am_bd_ok, am_tl, z_La_law_1821 _ _ _ _, d_t (show v_Mo_thrown I2 = k from h4)]
    by_cases e : k = 0
    · rw [d_t e, d_t ((lg_cmp_eq _ _).mpr (hk e))]
    · rw [d_f e]
  · refine WC_of (p1 := 4) (p2 := 7) ((y_La_melted_0 _).trans (y_La_melted_4 _ _ _)) ?_ ?_ ?_
    · intro I1 L1 y
      exact (y_La_melted_7 _ _ _).trans rfl
    · intro c I1 L1 ho
      have hc : okO (fun c => c = 1) (sp_melted (sE S) (sT S) (I 0 (Int32.toNatClampNeg (x4 + 1)))) := by
        unfold sp_melted
        repeat' (first | exact okO_l | exact okO_r (rfl) | refine okO_c ?_ ?_)
      have hc' : c = 1 := hc c ho
      subst hc'
      exact y_La_melted_13 _
    · exact KCL_of (KC_of hC (C_melted hC.1 hG.1.1 (hd_1000 hG) (I 0 (Int32.toNatClampNeg (x4 + 1)))))
  · intro g1 I1 L1 hM1
    exact KM_of hM1 (M_melted hM1.1 hG.1.1 (hd_1000 hG) (I 0 (Int32.toNatClampNeg (x4 + 1))))
  · exact hG
  · unfold sp_melted
    repeat' (first | exact okO_l | exact okO_r (Or.inl rfl) | exact okO_r (Or.inr rfl) | refine okO_c ?_ ?_)
theorem L_29 (hL : LwS S sw I) (x4 : Int32) (w5 w6 : Value) (hi1 : am_inb (x4 + 1) N = true) (hi2 : am_inb (x4 + 2) N = true) (hi3 : am_inb (x4 + 3) N = true) (hi4 : am_inb (x4 + 4) N = true) (hi5 : am_inb (x4 + 5) N = true) : LwG g N sw lv I L x4 w5 w6 1848 := by
  obtain ⟨hC, hM, hG, hV⟩ := id hL
  refine LB_of (P1 := 1859) (P2 := 1871) (ka := 288) (ba := 4) (la := [.ref 75, .int (I 0 (Int32.toNatClampNeg (x4 + 1))), .ref 185, am_u]) (kb := 224) (bb := 2) (lb := [.ref 147, .int (I 0 (Int32.toNatClampNeg (x4 + 1))), am_u, am_u, am_u]) (S' := S) (fb := Int32.toInt64) (kk := k1) (o := (sp_hottest (sE S) (sT S) (I 0 (Int32.toNatClampNeg (x4 + 1))))) hL ?_ ?_ ?_ rfl rfl ?_ ?_ ?_ ?_
  · rw [z_La_law_1848 _ _ _, hi1, cond_true]
  · intro g1 I1 L1 y0 h0
    rw [z_La_law_1859 _ _ _ _, hi1, cond_true, h0]
  · intro g1 I2 L1 k b h4 hk
    rw [z_La_law_1871 _ _ _ _, e_Mo_thrown, am_bd_ok, am_tl, z_La_law_1877 _ _ _ _, d_t (show v_Mo_thrown I2 = k from h4)]
    by_cases e : k = 0
    · rw [d_t e, d_t ((lg_cmp_eq _ _).mpr (hk e))]
    · rw [d_f e]
  · refine WC_of (p1 := 4) (p2 := 7) ((y_La_hottest_0 _).trans (y_La_hottest_4 _ _ _)) ?_ ?_ ?_
    · intro I1 L1 y
      exact (y_La_hottest_7 _ _ _).trans rfl
    · intro c I1 L1 ho
      have hc : okO (fun c => c = 1) (sp_hottest (sE S) (sT S) (I 0 (Int32.toNatClampNeg (x4 + 1)))) := by
        unfold sp_hottest
        repeat' (first | exact okO_l | exact okO_r (rfl) | refine okO_c ?_ ?_)
      have hc' : c = 1 := hc c ho
      subst hc'
      exact y_La_hottest_13 _
    · exact KCL_of (KC_of hC (C_hottest hC.1 hG.1.1 (hd_1000 hG) (I 0 (Int32.toNatClampNeg (x4 + 1)))))
  · intro g1 I1 L1 hM1
    exact KM_of hM1 (M_hottest hM1.1 hG.1.1 hG.2.2.2.2.1 (hd_1000 hG) (I 0 (Int32.toNatClampNeg (x4 + 1))))
  · exact hG
  · unfold sp_hottest
    repeat' (first | exact okO_l | exact okO_r (Or.inl rfl) | exact okO_r (Or.inr rfl) | refine okO_c ?_ ?_)
theorem L_30 (hL : LwS S sw I) (x4 : Int32) (w5 w6 : Value) (hi1 : am_inb (x4 + 1) N = true) (hi2 : am_inb (x4 + 2) N = true) (hi3 : am_inb (x4 + 3) N = true) (hi4 : am_inb (x4 + 4) N = true) (hi5 : am_inb (x4 + 5) N = true) : LwG g N sw lv I L x4 w5 w6 1904 := by
  obtain ⟨hC, hM, hG, hV⟩ := id hL
  refine LB_of (P1 := 1921) (P2 := 1939) (ka := 289) (ba := 4) (la := [.ref 75, .int (I 0 (Int32.toNatClampNeg (x4 + 1))), .int (I 0 (Int32.toNatClampNeg (x4 + 2))), .ref 185, am_u]) (kb := 236) (bb := 6) (lb := [.ref 147, .int (I 0 (Int32.toNatClampNeg (x4 + 1))), .int (I 0 (Int32.toNatClampNeg (x4 + 2))), am_u, am_u, am_u, am_u]) (S' := S) (fb := Int32.toInt64) (kk := k12) (o := (sp_worst (sT S) (I 0 (Int32.toNatClampNeg (x4 + 1))) (I 0 (Int32.toNatClampNeg (x4 + 2))))) hL ?_ ?_ ?_ rfl rfl ?_ ?_ ?_ ?_
  · rw [z_La_law_1904 _ _ _, hi1, cond_true, hi2, cond_true]
  · intro g1 I1 L1 y0 h0
    rw [z_La_law_1921 _ _ _ _, hi1, cond_true, hi2, cond_true, h0]
  · intro g1 I2 L1 k b h4 hk
    rw [z_La_law_1939 _ _ _ _, e_Mo_thrown, am_bd_ok, am_tl, z_La_law_1945 _ _ _ _, d_t (show v_Mo_thrown I2 = k from h4)]
    by_cases e : k = 0
    · rw [d_t e, d_t ((lg_cmp_eq _ _).mpr (hk e))]
    · rw [d_f e]
  · refine WC_of (p1 := 5) (p2 := 8) ((y_La_worst_0 _ _).trans (y_La_worst_5 _ _ _ _ _)) ?_ ?_ ?_
    · intro I1 L1 y
      exact (y_La_worst_8 _ _ _ _).trans rfl
    · intro c I1 L1 ho
      have hc : okO (fun c => c = 0 ∨ c = 1) (sp_worst (sT S) (I 0 (Int32.toNatClampNeg (x4 + 1))) (I 0 (Int32.toNatClampNeg (x4 + 2)))) := by
        unfold sp_worst
        repeat' (first | exact okO_l | exact okO_r (Or.inl rfl) | exact okO_r (Or.inr rfl) | refine okO_c ?_ ?_)
      have hc' : c = 0 ∨ c = 1 := hc c ho
      rcases hc' with rfl | rfl
      · exact y_La_worst_15 _ _
      · exact y_La_worst_19 _ _
    · exact KCL_of (KC_of hC (C_worst hC.1 hG.1.1 (I 0 (Int32.toNatClampNeg (x4 + 1))) (I 0 (Int32.toNatClampNeg (x4 + 2)))))
  · intro g1 I1 L1 hM1
    exact KM_of hM1 (M_worst hM1.1 hG.1.1 (I 0 (Int32.toNatClampNeg (x4 + 1))) (I 0 (Int32.toNatClampNeg (x4 + 2))))
  · exact hG
  · unfold sp_worst
    repeat' (first | exact okO_l | exact okO_r (Or.inl rfl) | exact okO_r (Or.inr rfl) | refine okO_c ?_ ?_)
theorem L_31 (hL : LwS S sw I) (x4 : Int32) (w5 w6 : Value) (hi1 : am_inb (x4 + 1) N = true) (hi2 : am_inb (x4 + 2) N = true) (hi3 : am_inb (x4 + 3) N = true) (hi4 : am_inb (x4 + 4) N = true) (hi5 : am_inb (x4 + 5) N = true) : LwG g N sw lv I L x4 w5 w6 1972 := by
  obtain ⟨hC, hM, hG, hV⟩ := id hL
  refine LB_of (P1 := 1989) (P2 := 2007) (ka := 290) (ba := 9) (la := [.ref 75, .int (I 0 (Int32.toNatClampNeg (x4 + 1))), .int (I 0 (Int32.toNatClampNeg (x4 + 2))), .ref 185, am_u]) (kb := 225) (bb := 8) (lb := [.ref 147, .int (I 0 (Int32.toNatClampNeg (x4 + 1))), .int (I 0 (Int32.toNatClampNeg (x4 + 2))), am_u, am_u]) (S' := S) (fb := Int32.toInt64) (kk := k12) (o := (sp_toCast (sE S) (sT S) (I 0 (Int32.toNatClampNeg (x4 + 1))) (I 0 (Int32.toNatClampNeg (x4 + 2))))) hL ?_ ?_ ?_ rfl rfl ?_ ?_ ?_ ?_
  · rw [z_La_law_1972 _ _ _, hi1, cond_true, hi2, cond_true]
  · intro g1 I1 L1 y0 h0
    rw [z_La_law_1989 _ _ _ _, hi1, cond_true, hi2, cond_true, h0]
  · intro g1 I2 L1 k b h4 hk
    rw [z_La_law_2007 _ _ _ _, e_Mo_thrown, am_bd_ok, am_tl, z_La_law_2013 _ _ _ _, d_t (show v_Mo_thrown I2 = k from h4)]
    by_cases e : k = 0
    · rw [d_t e, d_t ((lg_cmp_eq _ _).mpr (hk e))]
    · rw [d_f e]
  · refine WC_of (p1 := 5) (p2 := 8) ((y_La_toCast_0 _ _).trans (y_La_toCast_5 _ _ _ _ _)) ?_ ?_ ?_
    · intro I1 L1 y
      exact (y_La_toCast_8 _ _ _ _).trans rfl
    · intro c I1 L1 ho
      have hc : okO (fun c => c = 0 ∨ c = 1) (sp_toCast (sE S) (sT S) (I 0 (Int32.toNatClampNeg (x4 + 1))) (I 0 (Int32.toNatClampNeg (x4 + 2)))) := by
        unfold sp_toCast
        repeat' (first | exact okO_l | exact okO_r (Or.inl rfl) | exact okO_r (Or.inr rfl) | refine okO_c ?_ ?_)
      have hc' : c = 0 ∨ c = 1 := hc c ho
      rcases hc' with rfl | rfl
      · exact y_La_toCast_15 _ _
      · exact y_La_toCast_19 _ _
    · exact KCL_of (KC_of hC (C_toCast hC.1 hG.1.1 (hd_1000 hG) (I 0 (Int32.toNatClampNeg (x4 + 1))) (I 0 (Int32.toNatClampNeg (x4 + 2)))))
  · intro g1 I1 L1 hM1
    exact KM_of hM1 (M_toCast hM1.1 hG.1.1 (hd_1000 hG) (I 0 (Int32.toNatClampNeg (x4 + 1))) (I 0 (Int32.toNatClampNeg (x4 + 2))))
  · exact hG
  · unfold sp_toCast
    repeat' (first | exact okO_l | exact okO_r (Or.inl rfl) | exact okO_r (Or.inr rfl) | refine okO_c ?_ ?_)
theorem L_32 (hL : LwS S sw I) (x4 : Int32) (w5 w6 : Value) (hi1 : am_inb (x4 + 1) N = true) (hi2 : am_inb (x4 + 2) N = true) (hi3 : am_inb (x4 + 3) N = true) (hi4 : am_inb (x4 + 4) N = true) (hi5 : am_inb (x4 + 5) N = true) : LwG g N sw lv I L x4 w5 w6 2040 := by
  obtain ⟨hC, hM, hG, hV⟩ := id hL
  refine LB_of (P1 := 2051) (P2 := 2063) (ka := 291) (ba := 7) (la := [.ref 75, .int (I 0 (Int32.toNatClampNeg (x4 + 1))), .ref 185, am_u]) (kb := 227) (bb := 6) (lb := [.ref 147, .int (I 0 (Int32.toNatClampNeg (x4 + 1)))]) (S' := S) (fb := Int32.toInt64) (kk := k1) (o := (sp_margin (sT S) (I 0 (Int32.toNatClampNeg (x4 + 1))))) hL ?_ ?_ ?_ rfl rfl ?_ ?_ ?_ ?_
  · rw [z_La_law_2040 _ _ _, hi1, cond_true]
  · intro g1 I1 L1 y0 h0
    rw [z_La_law_2051 _ _ _ _, hi1, cond_true, h0]
  · intro g1 I2 L1 k b h4 hk
    rw [z_La_law_2063 _ _ _ _, e_Mo_thrown, am_bd_ok, am_tl, z_La_law_2069 _ _ _ _, d_t (show v_Mo_thrown I2 = k from h4)]
    by_cases e : k = 0
    · rw [d_t e, d_t ((lg_cmp_eq _ _).mpr (hk e))]
    · rw [d_f e]
  · refine WC_of (p1 := 4) (p2 := 7) ((y_La_margin_0 _).trans (y_La_margin_4 _ _ _)) ?_ ?_ ?_
    · intro I1 L1 y
      exact (y_La_margin_7 _ _ _).trans rfl
    · intro c I1 L1 ho
      have hc : okO (fun c => c = 0) (sp_margin (sT S) (I 0 (Int32.toNatClampNeg (x4 + 1)))) := by
        unfold sp_margin
        repeat' (first | exact okO_l | exact okO_r (rfl) | refine okO_c ?_ ?_)
      have hc' : c = 0 := hc c ho
      subst hc'
      exact y_La_margin_13 _
    · exact KCL_of (KC_of hC (C_margin hC.1 hG.1.1 (I 0 (Int32.toNatClampNeg (x4 + 1)))))
  · intro g1 I1 L1 hM1
    exact KM_of hM1 (M_margin hM1.1 hG.1.1 (I 0 (Int32.toNatClampNeg (x4 + 1))))
  · exact hG
  · unfold sp_margin
    repeat' (first | exact okO_l | exact okO_r (Or.inl rfl) | exact okO_r (Or.inr rfl) | refine okO_c ?_ ?_)
theorem L_33 (hL : LwS S sw I) (x4 : Int32) (w5 w6 : Value) (hi1 : am_inb (x4 + 1) N = true) (hi2 : am_inb (x4 + 2) N = true) (hi3 : am_inb (x4 + 3) N = true) (hi4 : am_inb (x4 + 4) N = true) (hi5 : am_inb (x4 + 5) N = true) : LwG g N sw lv I L x4 w5 w6 2096 := by
  obtain ⟨hC, hM, hG, hV⟩ := id hL
  refine LA_of (P1 := 2100) (P2 := 2104) (ka := 42) (ba := 5) (la := [.ref 75, am_u, am_u, am_u]) (kb := 228) (bb := 6) (lb := [.ref 147, am_u, am_u]) (S' := S) (kk := k1) (o := (sp_agreed (sT S))) hL ?_ ?_ ?_ rfl rfl ?_ ?_ ?_ ?_
  · rw [z_La_law_2096 _ _ _]
  · intro I1 y0 h0
    rw [z_La_law_2100 _ _ _ _]
  · intro I2 y
    rw [z_La_law_2104 _ _ _ _ _, d_t rfl]
  · exact KC_of hC (C_agreed hC.1 hG.1.1)
  · intro I1 hM1
    exact KM_of hM1 (M_agreed hM1.1 hG.1.1)
  · exact hG
  · unfold sp_agreed
    repeat' (first | exact okO_l | refine okO_c ?_ ?_)
theorem L_34 (hL : LwS S sw I) (x4 : Int32) (w5 w6 : Value) (hi1 : am_inb (x4 + 1) N = true) (hi2 : am_inb (x4 + 2) N = true) (hi3 : am_inb (x4 + 3) N = true) (hi4 : am_inb (x4 + 4) N = true) (hi5 : am_inb (x4 + 5) N = true) : LwG g N sw lv I L x4 w5 w6 2109 := by
  obtain ⟨hC, hM, hG, hV⟩ := id hL
  refine LA_of (P1 := 2113) (P2 := 2117) (ka := 46) (ba := 2) (la := [.ref 75, am_u, am_u, am_u]) (kb := 240) (bb := 3) (lb := [.ref 147, am_u, am_u, am_u, am_u]) (S' := S) (kk := k1) (o := (sp_factions (sT S))) hL ?_ ?_ ?_ rfl rfl ?_ ?_ ?_ ?_
  · rw [z_La_law_2109 _ _ _]
  · intro I1 y0 h0
    rw [z_La_law_2113 _ _ _ _]
  · intro I2 y
    rw [z_La_law_2117 _ _ _ _ _, d_t rfl]
  · exact KC_of hC (C_factions hC.1 hG.1.1)
  · intro I1 hM1
    exact KM_of hM1 (M_factions hM1.1 hG.1.1)
  · exact hG
  · unfold sp_factions
    repeat' (first | exact okO_l | refine okO_c ?_ ?_)
theorem L_35 (hL : LwS S sw I) (x4 : Int32) (w5 w6 : Value) (hi1 : am_inb (x4 + 1) N = true) (hi2 : am_inb (x4 + 2) N = true) (hi3 : am_inb (x4 + 3) N = true) (hi4 : am_inb (x4 + 4) N = true) (hi5 : am_inb (x4 + 5) N = true) : LwG g N sw lv I L x4 w5 w6 2122 := by
  obtain ⟨hC, hM, hG, hV⟩ := id hL
  refine LB_of (P1 := 2133) (P2 := 2145) (ka := 292) (ba := 6) (la := [.ref 75, .int (I 0 (Int32.toNatClampNeg (x4 + 1))), .ref 185, am_u]) (kb := 229) (bb := 8) (lb := [.ref 147, .int (I 0 (Int32.toNatClampNeg (x4 + 1)))]) (S' := S) (fb := Int32.toInt64) (kk := k1) (o := (sp_wins (sT S) (I 0 (Int32.toNatClampNeg (x4 + 1))))) hL ?_ ?_ ?_ rfl rfl ?_ ?_ ?_ ?_
  · rw [z_La_law_2122 _ _ _, hi1, cond_true]
  · intro g1 I1 L1 y0 h0
    rw [z_La_law_2133 _ _ _ _, hi1, cond_true, h0]
  · intro g1 I2 L1 k b h4 hk
    rw [z_La_law_2145 _ _ _ _, e_Mo_thrown, am_bd_ok, am_tl, z_La_law_2151 _ _ _ _, d_t (show v_Mo_thrown I2 = k from h4)]
    by_cases e : k = 0
    · rw [d_t e, d_t ((lg_cmp_eq _ _).mpr (hk e))]
    · rw [d_f e]
  · refine WC_of (p1 := 4) (p2 := 7) ((y_La_wins_0 _).trans (y_La_wins_4 _ _ _)) ?_ ?_ ?_
    · intro I1 L1 y
      exact (y_La_wins_7 _ _ _).trans rfl
    · intro c I1 L1 ho
      have hc : okO (fun c => c = 0) (sp_wins (sT S) (I 0 (Int32.toNatClampNeg (x4 + 1)))) := by
        unfold sp_wins
        repeat' (first | exact okO_l | exact okO_r (rfl) | refine okO_c ?_ ?_)
      have hc' : c = 0 := hc c ho
      subst hc'
      exact y_La_wins_13 _
    · exact KCL_of (KC_of hC (C_wins hC.1 hG.1.1 (I 0 (Int32.toNatClampNeg (x4 + 1)))))
  · intro g1 I1 L1 hM1
    exact KM_of hM1 (M_wins hM1.1 hG.1.1 (I 0 (Int32.toNatClampNeg (x4 + 1))))
  · exact hG
  · unfold sp_wins
    repeat' (first | exact okO_l | exact okO_r (Or.inl rfl) | exact okO_r (Or.inr rfl) | refine okO_c ?_ ?_)
theorem L_36 (hL : LwS S sw I) (x4 : Int32) (w5 w6 : Value) (hi1 : am_inb (x4 + 1) N = true) (hi2 : am_inb (x4 + 2) N = true) (hi3 : am_inb (x4 + 3) N = true) (hi4 : am_inb (x4 + 4) N = true) (hi5 : am_inb (x4 + 5) N = true) : LwG g N sw lv I L x4 w5 w6 2178 := by
  obtain ⟨hC, hM, hG, hV⟩ := id hL
  refine LA_of (P1 := 2182) (P2 := 2186) (ka := 47) (ba := 2) (la := [.ref 75, am_u, am_u]) (kb := 244) (bb := 3) (lb := [.ref 147, am_u, am_u]) (S' := S) (kk := k1) (o := (sp_middle (sT S))) hL ?_ ?_ ?_ rfl rfl ?_ ?_ ?_ ?_
  · rw [z_La_law_2178 _ _ _]
  · intro I1 y0 h0
    rw [z_La_law_2182 _ _ _ _]
  · intro I2 y
    rw [z_La_law_2186 _ _ _ _ _, d_t rfl]
  · exact KC_of hC (C_middle hC.1 hG.1.1)
  · intro I1 hM1
    exact KM_of hM1 (M_middle hM1.1 hG.1.1)
  · exact hG
  · unfold sp_middle
    repeat' (first | exact okO_l | refine okO_c ?_ ?_)
theorem L_37 (hL : LwS S sw I) (x4 : Int32) (w5 w6 : Value) (hi1 : am_inb (x4 + 1) N = true) (hi2 : am_inb (x4 + 2) N = true) (hi3 : am_inb (x4 + 3) N = true) (hi4 : am_inb (x4 + 4) N = true) (hi5 : am_inb (x4 + 5) N = true) : LwG g N sw lv I L x4 w5 w6 2191 := by
  obtain ⟨hC, hM, hG, hV⟩ := id hL
  refine LB_of (P1 := 2208) (P2 := 2226) (ka := 293) (ba := 3) (la := [.ref 75, .int (I 0 (Int32.toNatClampNeg (x4 + 1))), .int (I 0 (Int32.toNatClampNeg (x4 + 2))), .ref 185, am_u]) (kb := 245) (bb := 4) (lb := [.ref 147, .int (I 0 (Int32.toNatClampNeg (x4 + 1))), .int (I 0 (Int32.toNatClampNeg (x4 + 2)))]) (S' := S) (fb := Int32.toInt64) (kk := k12) (o := (sp_neighbour (sT S) (I 0 (Int32.toNatClampNeg (x4 + 1))) (I 0 (Int32.toNatClampNeg (x4 + 2))))) hL ?_ ?_ ?_ rfl rfl ?_ ?_ ?_ ?_
  · rw [z_La_law_2191 _ _ _, hi1, cond_true, hi2, cond_true]
  · intro g1 I1 L1 y0 h0
    rw [z_La_law_2208 _ _ _ _, hi1, cond_true, hi2, cond_true, h0]
  · intro g1 I2 L1 k b h4 hk
    rw [z_La_law_2226 _ _ _ _, e_Mo_thrown, am_bd_ok, am_tl, z_La_law_2232 _ _ _ _, d_t (show v_Mo_thrown I2 = k from h4)]
    by_cases e : k = 0
    · rw [d_t e, d_t ((lg_cmp_eq _ _).mpr (hk e))]
    · rw [d_f e]
  · refine WC_of (p1 := 5) (p2 := 8) ((y_La_neighbour_0 _ _).trans (y_La_neighbour_5 _ _ _ _ _)) ?_ ?_ ?_
    · intro I1 L1 y
      exact (y_La_neighbour_8 _ _ _ _).trans rfl
    · intro c I1 L1 ho
      have hc : okO (fun c => c = 0 ∨ c = 1) (sp_neighbour (sT S) (I 0 (Int32.toNatClampNeg (x4 + 1))) (I 0 (Int32.toNatClampNeg (x4 + 2)))) := by
        unfold sp_neighbour
        repeat' (first | exact okO_l | exact okO_r (Or.inl rfl) | exact okO_r (Or.inr rfl) | refine okO_c ?_ ?_)
      have hc' : c = 0 ∨ c = 1 := hc c ho
      rcases hc' with rfl | rfl
      · exact y_La_neighbour_15 _ _
      · exact y_La_neighbour_19 _ _
    · exact KCL_of (KC_of hC (C_neighbour hC.1 hG.1.1 (I 0 (Int32.toNatClampNeg (x4 + 1))) (I 0 (Int32.toNatClampNeg (x4 + 2)))))
  · intro g1 I1 L1 hM1
    exact KM_of hM1 (M_neighbour hM1.1 hG.1.1 (I 0 (Int32.toNatClampNeg (x4 + 1))) (I 0 (Int32.toNatClampNeg (x4 + 2))))
  · exact hG
  · unfold sp_neighbour
    repeat' (first | exact okO_l | exact okO_r (Or.inl rfl) | exact okO_r (Or.inr rfl) | refine okO_c ?_ ?_)
theorem L_38 (hL : LwS S sw I) (x4 : Int32) (w5 w6 : Value) (hi1 : am_inb (x4 + 1) N = true) (hi2 : am_inb (x4 + 2) N = true) (hi3 : am_inb (x4 + 3) N = true) (hi4 : am_inb (x4 + 4) N = true) (hi5 : am_inb (x4 + 5) N = true) : LwG g N sw lv I L x4 w5 w6 2259 := by
  obtain ⟨hC, hM, hG, hV⟩ := id hL
  refine LA_of (P1 := 2263) (P2 := 2267) (ka := 48) (ba := 6) (la := [.ref 75, am_u, am_u]) (kb := 246) (bb := 6) (lb := [.ref 147, am_u, am_u]) (S' := S) (kk := k1) (o := (sp_ties (sT S))) hL ?_ ?_ ?_ rfl rfl ?_ ?_ ?_ ?_
  · rw [z_La_law_2259 _ _ _]
  · intro I1 y0 h0
    rw [z_La_law_2263 _ _ _ _]
  · intro I2 y
    rw [z_La_law_2267 _ _ _ _ _, d_t rfl]
  · exact KC_of hC (C_ties hC.1 hG.1.1)
  · intro I1 hM1
    exact KM_of hM1 (M_ties hM1.1 hG.1.1)
  · exact hG
  · unfold sp_ties
    repeat' (first | exact okO_l | refine okO_c ?_ ?_)
theorem L_39 (hL : LwS S sw I) (x4 : Int32) (w5 w6 : Value) (hi1 : am_inb (x4 + 1) N = true) (hi2 : am_inb (x4 + 2) N = true) (hi3 : am_inb (x4 + 3) N = true) (hi4 : am_inb (x4 + 4) N = true) (hi5 : am_inb (x4 + 5) N = true) : LwG g N sw lv I L x4 w5 w6 2272 := by
  obtain ⟨hC, hM, hG, hV⟩ := id hL
  refine LA_of (P1 := 2276) (P2 := 2280) (ka := 50) (ba := 2) (la := [.ref 75, am_u, am_u]) (kb := 247) (bb := 3) (lb := [.ref 147, am_u, am_u]) (S' := S) (kk := k1) (o := (sp_leaning (sT S))) hL ?_ ?_ ?_ rfl rfl ?_ ?_ ?_ ?_
  · rw [z_La_law_2272 _ _ _]
  · intro I1 y0 h0
    rw [z_La_law_2276 _ _ _ _]
  · intro I2 y
    rw [z_La_law_2280 _ _ _ _ _, d_t rfl]
  · exact KC_of hC (C_leaning hC.1 hG.1.1)
  · intro I1 hM1
    exact KM_of hM1 (M_leaning hM1.1 hG.1.1)
  · exact hG
  · unfold sp_leaning
    repeat' (first | exact okO_l | refine okO_c ?_ ?_)
theorem L_40 (hL : LwS S sw I) (x4 : Int32) (w5 w6 : Value) (hi1 : am_inb (x4 + 1) N = true) (hi2 : am_inb (x4 + 2) N = true) (hi3 : am_inb (x4 + 3) N = true) (hi4 : am_inb (x4 + 4) N = true) (hi5 : am_inb (x4 + 5) N = true) : LwG g N sw lv I L x4 w5 w6 2285 := by
  obtain ⟨hC, hM, hG, hV⟩ := id hL
  refine LB_of (P1 := 2302) (P2 := 2320) (ka := 294) (ba := 3) (la := [.ref 75, .int (I 0 (Int32.toNatClampNeg (x4 + 1))), .int (I 0 (Int32.toNatClampNeg (x4 + 2))), .ref 185, am_u]) (kb := 248) (bb := 3) (lb := [.ref 147, .int (I 0 (Int32.toNatClampNeg (x4 + 1))), .int (I 0 (Int32.toNatClampNeg (x4 + 2))), am_u, am_u]) (S' := S) (fb := Int32.toInt64) (kk := k1) (o := (sp_between (sT S) (I 0 (Int32.toNatClampNeg (x4 + 1))) (I 0 (Int32.toNatClampNeg (x4 + 2))))) hL ?_ ?_ ?_ rfl rfl ?_ ?_ ?_ ?_
  · rw [z_La_law_2285 _ _ _, hi1, cond_true, hi2, cond_true]
  · intro g1 I1 L1 y0 h0
    rw [z_La_law_2302 _ _ _ _, hi1, cond_true, hi2, cond_true, h0]
  · intro g1 I2 L1 k b h4 hk
    rw [z_La_law_2320 _ _ _ _, e_Mo_thrown, am_bd_ok, am_tl, z_La_law_2326 _ _ _ _, d_t (show v_Mo_thrown I2 = k from h4)]
    by_cases e : k = 0
    · rw [d_t e, d_t ((lg_cmp_eq _ _).mpr (hk e))]
    · rw [d_f e]
  · refine WC_of (p1 := 5) (p2 := 8) ((y_La_between_0 _ _).trans (y_La_between_5 _ _ _ _ _)) ?_ ?_ ?_
    · intro I1 L1 y
      exact (y_La_between_8 _ _ _ _).trans rfl
    · intro c I1 L1 ho
      have hc : okO (fun c => c = 0) (sp_between (sT S) (I 0 (Int32.toNatClampNeg (x4 + 1))) (I 0 (Int32.toNatClampNeg (x4 + 2)))) := by
        unfold sp_between
        repeat' (first | exact okO_l | exact okO_r (rfl) | refine okO_c ?_ ?_)
      have hc' : c = 0 := hc c ho
      subst hc'
      exact y_La_between_15 _ _
    · exact KCL_of (KC_of hC (C_between hC.1 hG.1.1 (I 0 (Int32.toNatClampNeg (x4 + 1))) (I 0 (Int32.toNatClampNeg (x4 + 2)))))
  · intro g1 I1 L1 hM1
    exact KM_of hM1 (M_between hM1.1 hG.1.1 (I 0 (Int32.toNatClampNeg (x4 + 1))) (I 0 (Int32.toNatClampNeg (x4 + 2))))
  · exact hG
  · unfold sp_between
    repeat' (first | exact okO_l | exact okO_r (Or.inl rfl) | exact okO_r (Or.inr rfl) | refine okO_c ?_ ?_)
theorem L_41 (hL : LwS S sw I) (x4 : Int32) (w5 w6 : Value) (hi1 : am_inb (x4 + 1) N = true) (hi2 : am_inb (x4 + 2) N = true) (hi3 : am_inb (x4 + 3) N = true) (hi4 : am_inb (x4 + 4) N = true) (hi5 : am_inb (x4 + 5) N = true) : LwG g N sw lv I L x4 w5 w6 2353 := by
  obtain ⟨hC, hM, hG, hV⟩ := id hL
  refine LB_of (P1 := 2384) (P2 := 2416) (ka := 295) (ba := 3) (la := [.ref 75, .int (I 0 (Int32.toNatClampNeg (x4 + 1))), .int (I 0 (Int32.toNatClampNeg (x4 + 2))), .int (cond (!decide ((I 0 (Int32.toNatClampNeg (x4 + 3))) = 0)) 1 0), .ref 185, am_u]) (kb := 249) (bb := 3) (lb := [.ref 147, .int (I 0 (Int32.toNatClampNeg (x4 + 1))), .int (I 0 (Int32.toNatClampNeg (x4 + 2))), .int (cond (!decide ((I 0 (Int32.toNatClampNeg (x4 + 3))) = 0)) 1 0)]) (S' := (sp_see S (I 0 (Int32.toNatClampNeg (x4 + 1))) (I 0 (Int32.toNatClampNeg (x4 + 2))) (!decide ((I 0 (Int32.toNatClampNeg (x4 + 3))) = 0))).2) (fb := Int32.toInt64) (kk := k1) (o := (sp_see S (I 0 (Int32.toNatClampNeg (x4 + 1))) (I 0 (Int32.toNatClampNeg (x4 + 2))) (!decide ((I 0 (Int32.toNatClampNeg (x4 + 3))) = 0))).1) hL ?_ ?_ ?_ rfl rfl ?_ ?_ ?_ ?_
  · rw [z_La_law_2353 _ _ _, hi1, cond_true, hi2, cond_true, hi3, cond_true]
    cases decide ((I 0 (Int32.toNatClampNeg (x4 + 3))) = 0) <;> rfl
  · intro g1 I1 L1 y0 h0
    rw [z_La_law_2384 _ _ _ _, hi1, cond_true, hi2, cond_true, hi3, cond_true, h0]
    cases decide ((I 0 (Int32.toNatClampNeg (x4 + 3))) = 0) <;> rfl
  · intro g1 I2 L1 k b h4 hk
    rw [z_La_law_2416 _ _ _ _, e_Mo_thrown, am_bd_ok, am_tl, z_La_law_2422 _ _ _ _, d_t (show v_Mo_thrown I2 = k from h4)]
    by_cases e : k = 0
    · rw [d_t e, d_t ((lg_cmp_eq _ _).mpr (hk e))]
    · rw [d_f e]
  · refine WC_of (p1 := 7) (p2 := 10) ((y_La_see_0 _ _ _).trans (y_La_see_7 _ _ _ _ _ _ _)) ?_ ?_ ?_
    · intro I1 L1 y
      exact (y_La_see_10 _ _ _ _ _).trans rfl
    · intro c I1 L1 ho
      have hc : okO (fun c => c = 0) (sp_see S (I 0 (Int32.toNatClampNeg (x4 + 1))) (I 0 (Int32.toNatClampNeg (x4 + 2))) (!decide ((I 0 (Int32.toNatClampNeg (x4 + 3))) = 0))).1 := by
        show okS _ (sp_see S (I 0 (Int32.toNatClampNeg (x4 + 1))) (I 0 (Int32.toNatClampNeg (x4 + 2))) (!decide ((I 0 (Int32.toNatClampNeg (x4 + 3))) = 0)))
        unfold sp_see
        repeat' (first | exact okS_p okO_l | exact okS_p (okO_r (rfl)) | refine okS_c ?_ ?_)
      have hc' : c = 0 := hc c ho
      subst hc'
      exact y_La_see_17 _ _ _
    · exact KCL_of (C_see hC hG (I 0 (Int32.toNatClampNeg (x4 + 1))) (I 0 (Int32.toNatClampNeg (x4 + 2))) (!decide ((I 0 (Int32.toNatClampNeg (x4 + 3))) = 0)))
  · intro g1 I1 L1 hM1
    exact M_see hM1 hG (I 0 (Int32.toNatClampNeg (x4 + 1))) (I 0 (Int32.toNatClampNeg (x4 + 2))) (!decide ((I 0 (Int32.toNatClampNeg (x4 + 3))) = 0))
  · exact G_see hG (I 0 (Int32.toNatClampNeg (x4 + 1))) (I 0 (Int32.toNatClampNeg (x4 + 2))) (!decide ((I 0 (Int32.toNatClampNeg (x4 + 3))) = 0))
  · show okS _ (sp_see S (I 0 (Int32.toNatClampNeg (x4 + 1))) (I 0 (Int32.toNatClampNeg (x4 + 2))) (!decide ((I 0 (Int32.toNatClampNeg (x4 + 3))) = 0)))
    unfold sp_see
    repeat' (first | exact okS_p okO_l | exact okS_p (okO_r (Or.inl rfl)) | exact okS_p (okO_r (Or.inr rfl)) | refine okS_c ?_ ?_)
theorem L_42 (hL : LwS S sw I) (x4 : Int32) (w5 w6 : Value) (hi1 : am_inb (x4 + 1) N = true) (hi2 : am_inb (x4 + 2) N = true) (hi3 : am_inb (x4 + 3) N = true) (hi4 : am_inb (x4 + 4) N = true) (hi5 : am_inb (x4 + 5) N = true) : LwG g N sw lv I L x4 w5 w6 2449 := by
  obtain ⟨hC, hM, hG, hV⟩ := id hL
  refine LB_of (P1 := 2460) (P2 := 2472) (ka := 296) (ba := 10) (la := [.ref 75, .int (I 0 (Int32.toNatClampNeg (x4 + 1))), .ref 185, am_u]) (kb := 250) (bb := 9) (lb := [.ref 147, .int (I 0 (Int32.toNatClampNeg (x4 + 1)))]) (S' := S) (fb := Int32.toInt64) (kk := k1) (o := (sp_leant (sE S) (sW S) (sT S) (I 0 (Int32.toNatClampNeg (x4 + 1))))) hL ?_ ?_ ?_ rfl rfl ?_ ?_ ?_ ?_
  · rw [z_La_law_2449 _ _ _, hi1, cond_true]
  · intro g1 I1 L1 y0 h0
    rw [z_La_law_2460 _ _ _ _, hi1, cond_true, h0]
  · intro g1 I2 L1 k b h4 hk
    rw [z_La_law_2472 _ _ _ _, e_Mo_thrown, am_bd_ok, am_tl, z_La_law_2478 _ _ _ _, d_t (show v_Mo_thrown I2 = k from h4)]
    by_cases e : k = 0
    · rw [d_t e, d_t ((lg_cmp_eq _ _).mpr (hk e))]
    · rw [d_f e]
  · refine WC_of (p1 := 4) (p2 := 7) ((y_La_leant_0 _).trans (y_La_leant_4 _ _ _)) ?_ ?_ ?_
    · intro I1 L1 y
      exact (y_La_leant_7 _ _ _).trans rfl
    · intro c I1 L1 ho
      have hc : okO (fun c => c = 0) (sp_leant (sE S) (sW S) (sT S) (I 0 (Int32.toNatClampNeg (x4 + 1)))) := by
        unfold sp_leant
        repeat' (first | exact okO_l | exact okO_r (rfl) | refine okO_c ?_ ?_)
      have hc' : c = 0 := hc c ho
      subst hc'
      exact y_La_leant_13 _
    · exact KCL_of (KC_of hC (C_leant hC.1 hG.1.1 (hd_1000 hG) hC.2.2.1 hG.2.2.1 (I 0 (Int32.toNatClampNeg (x4 + 1)))))
  · intro g1 I1 L1 hM1
    exact KM_of hM1 (M_leant hM1.1 hG.1.1 (hd_1000 hG) hM1.2.2.1 hG.2.2.1 (I 0 (Int32.toNatClampNeg (x4 + 1))))
  · exact hG
  · unfold sp_leant
    repeat' (first | exact okO_l | exact okO_r (Or.inl rfl) | exact okO_r (Or.inr rfl) | refine okO_c ?_ ?_)
theorem L_43 (hL : LwS S sw I) (x4 : Int32) (w5 w6 : Value) (hi1 : am_inb (x4 + 1) N = true) (hi2 : am_inb (x4 + 2) N = true) (hi3 : am_inb (x4 + 3) N = true) (hi4 : am_inb (x4 + 4) N = true) (hi5 : am_inb (x4 + 5) N = true) : LwG g N sw lv I L x4 w5 w6 2505 := by
  obtain ⟨hC, hM, hG, hV⟩ := id hL
  refine LB_of (P1 := 2516) (P2 := 2528) (ka := 297) (ba := 10) (la := [.ref 75, .int (I 0 (Int32.toNatClampNeg (x4 + 1))), .ref 185, am_u]) (kb := 253) (bb := 9) (lb := [.ref 147, .int (I 0 (Int32.toNatClampNeg (x4 + 1))), am_u, am_u, am_u, am_u]) (S' := S) (fb := Int32.toInt64) (kk := k1) (o := (sp_look (sE S) (sW S) (sT S) (I 0 (Int32.toNatClampNeg (x4 + 1))))) hL ?_ ?_ ?_ rfl rfl ?_ ?_ ?_ ?_
  · rw [z_La_law_2505 _ _ _, hi1, cond_true]
  · intro g1 I1 L1 y0 h0
    rw [z_La_law_2516 _ _ _ _, hi1, cond_true, h0]
  · intro g1 I2 L1 k b h4 hk
    rw [z_La_law_2528 _ _ _ _, e_Mo_thrown, am_bd_ok, am_tl, z_La_law_2534 _ _ _ _, d_t (show v_Mo_thrown I2 = k from h4)]
    by_cases e : k = 0
    · rw [d_t e, d_t ((lg_cmp_eq _ _).mpr (hk e))]
    · rw [d_f e]
  · refine WC_of (p1 := 4) (p2 := 7) ((y_La_look_0 _).trans (y_La_look_4 _ _ _)) ?_ ?_ ?_
    · intro I1 L1 y
      exact (y_La_look_7 _ _ _).trans rfl
    · intro c I1 L1 ho
      have hc : okO (fun c => c = 0) (sp_look (sE S) (sW S) (sT S) (I 0 (Int32.toNatClampNeg (x4 + 1)))) := by
        unfold sp_look
        repeat' (first | exact okO_l | exact okO_r (rfl) | refine okO_c ?_ ?_)
      have hc' : c = 0 := hc c ho
      subst hc'
      exact y_La_look_13 _
    · exact KCL_look hC hG _
  · intro g1 I1 L1 hM1
    exact KM_of hM1 (M_look hM1.1 hG.1.1 (hd_1000 hG) hM1.2.2.1 hG.2.2.1 (I 0 (Int32.toNatClampNeg (x4 + 1))))
  · exact hG
  · unfold sp_look
    repeat' (first | exact okO_l | exact okO_r (Or.inl rfl) | exact okO_r (Or.inr rfl) | refine okO_c ?_ ?_)
theorem L_44 (hL : LwS S sw I) (x4 : Int32) (w5 w6 : Value) (hi1 : am_inb (x4 + 1) N = true) (hi2 : am_inb (x4 + 2) N = true) (hi3 : am_inb (x4 + 3) N = true) (hi4 : am_inb (x4 + 4) N = true) (hi5 : am_inb (x4 + 5) N = true) : LwG g N sw lv I L x4 w5 w6 2561 := by
  obtain ⟨hC, hM, hG, hV⟩ := id hL
  refine LV_of (P1 := 2565) (P2 := 2569) (ka := 51) (ba := 2) (la := [.ref 75]) (kb := 255) (bb := 1) (lb := [.ref 147]) (S' := (s_for S)) hL ?_ ?_ ?_ rfl rfl ?_ ?_ ?_
  · rw [z_La_law_2561 _ _ _]
  · intro I1
    rw [z_La_law_2565 _ _ _]
  · intro I2
    rw [z_La_law_2569 _ _ _]
  · exact C_forget hC
  · intro I1 hM1
    exact M_forget hM1
  · exact G_forget hG
theorem L_45 (hL : LwS S sw I) (x4 : Int32) (w5 w6 : Value) (hi1 : am_inb (x4 + 1) N = true) (hi2 : am_inb (x4 + 2) N = true) (hi3 : am_inb (x4 + 3) N = true) (hi4 : am_inb (x4 + 4) N = true) (hi5 : am_inb (x4 + 5) N = true) : LwG g N sw lv I L x4 w5 w6 2572 := by
  obtain ⟨hC, hM, hG, hV⟩ := id hL
  refine LB_of (P1 := 2601) (P2 := 2631) (ka := 298) (ba := 8) (la := [.ref 75, .int (I 0 (Int32.toNatClampNeg (x4 + 1))), .int (I 0 (Int32.toNatClampNeg (x4 + 2))), .int (I 0 (Int32.toNatClampNeg (x4 + 3))), .int (I 0 (Int32.toNatClampNeg (x4 + 4))), .ref 185, am_u]) (kb := 256) (bb := 9) (lb := [.ref 147, .int (I 0 (Int32.toNatClampNeg (x4 + 1))), .int (I 0 (Int32.toNatClampNeg (x4 + 2))), .int (I 0 (Int32.toNatClampNeg (x4 + 3))), .int (I 0 (Int32.toNatClampNeg (x4 + 4))), am_u, am_u, am_u]) (S' := S) (fb := Int32.toInt64) (kk := k12) (o := (sp_game (sT S) (I 0 (Int32.toNatClampNeg (x4 + 1))) (I 0 (Int32.toNatClampNeg (x4 + 2))) (I 0 (Int32.toNatClampNeg (x4 + 3))) (I 0 (Int32.toNatClampNeg (x4 + 4))))) hL ?_ ?_ ?_ rfl rfl ?_ ?_ ?_ ?_
  · rw [z_La_law_2572 _ _ _, hi1, cond_true, hi2, cond_true, hi3, cond_true, hi4, cond_true]
  · intro g1 I1 L1 y0 h0
    rw [z_La_law_2601 _ _ _ _, hi1, cond_true, hi2, cond_true, hi3, cond_true, hi4, cond_true, h0]
  · intro g1 I2 L1 k b h4 hk
    rw [z_La_law_2631 _ _ _ _, e_Mo_thrown, am_bd_ok, am_tl, z_La_law_2637 _ _ _ _, d_t (show v_Mo_thrown I2 = k from h4)]
    by_cases e : k = 0
    · rw [d_t e, d_t ((lg_cmp_eq _ _).mpr (hk e))]
    · rw [d_f e]
  · refine WC_of (p1 := 9) (p2 := 12) ((y_La_game_0 _ _ _ _).trans (y_La_game_9 _ _ _ _ _ _ _ _ _)) ?_ ?_ ?_
    · intro I1 L1 y
      exact (y_La_game_12 _ _ _ _ _ _).trans rfl
    · intro c I1 L1 ho
      have hc : okO (fun c => c = 0 ∨ c = 1) (sp_game (sT S) (I 0 (Int32.toNatClampNeg (x4 + 1))) (I 0 (Int32.toNatClampNeg (x4 + 2))) (I 0 (Int32.toNatClampNeg (x4 + 3))) (I 0 (Int32.toNatClampNeg (x4 + 4)))) := by
        unfold sp_game
        repeat' (first | exact okO_l | exact okO_r (Or.inl rfl) | exact okO_r (Or.inr rfl) | refine okO_c ?_ ?_)
      have hc' : c = 0 ∨ c = 1 := hc c ho
      rcases hc' with rfl | rfl
      · exact y_La_game_19 _ _ _ _
      · exact y_La_game_23 _ _ _ _
    · exact KCL_of (KC_of hC (C_game hC.1 hG.1.1 (I 0 (Int32.toNatClampNeg (x4 + 1))) (I 0 (Int32.toNatClampNeg (x4 + 2))) (I 0 (Int32.toNatClampNeg (x4 + 3))) (I 0 (Int32.toNatClampNeg (x4 + 4)))))
  · intro g1 I1 L1 hM1
    exact KM_of hM1 (M_game hM1.1 hG.1.1 (I 0 (Int32.toNatClampNeg (x4 + 1))) (I 0 (Int32.toNatClampNeg (x4 + 2))) (I 0 (Int32.toNatClampNeg (x4 + 3))) (I 0 (Int32.toNatClampNeg (x4 + 4))))
  · exact hG
  · unfold sp_game
    repeat' (first | exact okO_l | exact okO_r (Or.inl rfl) | exact okO_r (Or.inr rfl) | refine okO_c ?_ ?_)
theorem L_46 (hL : LwS S sw I) (x4 : Int32) (w5 w6 : Value) (hi1 : am_inb (x4 + 1) N = true) (hi2 : am_inb (x4 + 2) N = true) (hi3 : am_inb (x4 + 3) N = true) (hi4 : am_inb (x4 + 4) N = true) (hi5 : am_inb (x4 + 5) N = true) : LwG g N sw lv I L x4 w5 w6 2664 := by
  obtain ⟨hC, hM, hG, hV⟩ := id hL
  refine LB_of (P1 := 2687) (P2 := 2711) (ka := 299) (ba := 9) (la := [.ref 75, .int (I 0 (Int32.toNatClampNeg (x4 + 1))), .int (I 0 (Int32.toNatClampNeg (x4 + 2))), .int (I 0 (Int32.toNatClampNeg (x4 + 3))), .ref 185, am_u]) (kb := 259) (bb := 8) (lb := [.ref 147, .int (I 0 (Int32.toNatClampNeg (x4 + 1))), .int (I 0 (Int32.toNatClampNeg (x4 + 2))), .int (I 0 (Int32.toNatClampNeg (x4 + 3))), am_u]) (S' := S) (fb := Int32.toInt64) (kk := k12) (o := (sp_years (sE S) (sT S) (I 0 (Int32.toNatClampNeg (x4 + 1))) (I 0 (Int32.toNatClampNeg (x4 + 2))) (I 0 (Int32.toNatClampNeg (x4 + 3))))) hL ?_ ?_ ?_ rfl rfl ?_ ?_ ?_ ?_
  · rw [z_La_law_2664 _ _ _, hi1, cond_true, hi2, cond_true, hi3, cond_true]
  · intro g1 I1 L1 y0 h0
    rw [z_La_law_2687 _ _ _ _, hi1, cond_true, hi2, cond_true, hi3, cond_true, h0]
  · intro g1 I2 L1 k b h4 hk
    rw [z_La_law_2711 _ _ _ _, e_Mo_thrown, am_bd_ok, am_tl, z_La_law_2717 _ _ _ _, d_t (show v_Mo_thrown I2 = k from h4)]
    by_cases e : k = 0
    · rw [d_t e, d_t ((lg_cmp_eq _ _).mpr (hk e))]
    · rw [d_f e]
  · refine WC_of (p1 := 7) (p2 := 10) ((y_La_years_0 _ _ _).trans (y_La_years_7 _ _ _ _ _ _ _)) ?_ ?_ ?_
    · intro I1 L1 y
      exact (y_La_years_10 _ _ _ _ _).trans rfl
    · intro c I1 L1 ho
      have hc : okO (fun c => c = 0 ∨ c = 1) (sp_years (sE S) (sT S) (I 0 (Int32.toNatClampNeg (x4 + 1))) (I 0 (Int32.toNatClampNeg (x4 + 2))) (I 0 (Int32.toNatClampNeg (x4 + 3)))) := by
        unfold sp_years
        repeat' (first | exact okO_l | exact okO_r (Or.inl rfl) | exact okO_r (Or.inr rfl) | refine okO_c ?_ ?_)
      have hc' : c = 0 ∨ c = 1 := hc c ho
      rcases hc' with rfl | rfl
      · exact y_La_years_17 _ _ _
      · exact y_La_years_21 _ _ _
    · exact KCL_of (KC_of hC (C_years hC.1 hG.1.1 (hd_1000 hG) (I 0 (Int32.toNatClampNeg (x4 + 1))) (I 0 (Int32.toNatClampNeg (x4 + 2))) (I 0 (Int32.toNatClampNeg (x4 + 3)))))
  · intro g1 I1 L1 hM1
    exact KM_of hM1 (M_years hM1.1 hG.1.1 (hd_1000 hG) (I 0 (Int32.toNatClampNeg (x4 + 1))) (I 0 (Int32.toNatClampNeg (x4 + 2))) (I 0 (Int32.toNatClampNeg (x4 + 3))))
  · exact hG
  · unfold sp_years
    repeat' (first | exact okO_l | exact okO_r (Or.inl rfl) | exact okO_r (Or.inr rfl) | refine okO_c ?_ ?_)
theorem L_47 (hL : LwS S sw I) (x4 : Int32) (w5 w6 : Value) (hi1 : am_inb (x4 + 1) N = true) (hi2 : am_inb (x4 + 2) N = true) (hi3 : am_inb (x4 + 3) N = true) (hi4 : am_inb (x4 + 4) N = true) (hi5 : am_inb (x4 + 5) N = true) : LwG g N sw lv I L x4 w5 w6 2744 := by
  obtain ⟨hC, hM, hG, hV⟩ := id hL
  refine LV_of (P1 := 2748) (P2 := 2752) (ka := 53) (ba := 2) (la := [.ref 75]) (kb := 262) (bb := 2) (lb := [.ref 147, am_u]) (S' := (s_im S)) hL ?_ ?_ ?_ rfl rfl ?_ ?_ ?_
  · rw [z_La_law_2744 _ _ _]
  · intro I1
    rw [z_La_law_2748 _ _ _]
  · intro I2
    rw [z_La_law_2752 _ _ _]
  · exact C_image hC hG
  · intro I1 hM1
    exact M_image hM1 hG
  · exact G_image hG
theorem L_48 (hL : LwS S sw I) (x4 : Int32) (w5 w6 : Value) (hi1 : am_inb (x4 + 1) N = true) (hi2 : am_inb (x4 + 2) N = true) (hi3 : am_inb (x4 + 3) N = true) (hi4 : am_inb (x4 + 4) N = true) (hi5 : am_inb (x4 + 5) N = true) : LwG g N sw lv I L x4 w5 w6 2755 := by
  obtain ⟨hC, hM, hG, hV⟩ := id hL
  refine LA_of (P1 := 2759) (P2 := 2763) (ka := 56) (ba := 2) (la := [.ref 75]) (kb := 264) (bb := 2) (lb := [.ref 147, am_u]) (S' := (sp_restore S).2) (kk := k1) (o := (sp_restore S).1) hL ?_ ?_ ?_ rfl rfl ?_ ?_ ?_ ?_
  · rw [z_La_law_2755 _ _ _]
  · intro I1 y0 h0
    rw [z_La_law_2759 _ _ _ _]
  · intro I2 y
    rw [z_La_law_2763 _ _ _ _ _, d_t rfl]
  · exact C_restore hC hG
  · intro I1 hM1
    exact M_restore hM1 hG
  · exact G_restore hG
  · show okS _ (sp_restore S)
    unfold sp_restore
    cases sI S with
    | none => exact okS_p okO_l
    | some y => exact okS_p okO_l
end CALLS
