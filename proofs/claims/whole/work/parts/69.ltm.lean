/-! LINES: the heat's whole line, reference -/
section MLT
variable {g N : Nat} {sw lv : Bool} {I : Nat → Nat → Int32} {L : Nat → Nat → Int64} {X : x_X} {q : Nat} {Q : s_Q}
/-- given twice -/
theorem M_tw (hx : x_ok X) (hs : sO I) {w : Bool} {k : s_K} (hG : mG X w q k I) (x1 x3 : Int32) (h3 : ¬ x3 ≤ 0) : ∃ I', am_R 150 101 63 [.ref 147, .int x1, .int (-1), .int x3] [] (am_hp g N sw lv (am_up (am_up I 147 (upd (I 147) 23 (Int32.ofNat 5))) 147 (upd (upd (I 147) 23 (Int32.ofNat 5)) 24 ((upd (I 147) 23 (Int32.ofNat 5)) 21))) L) = some (.inl (some (.int (x1 ||| x3))), (am_hp g N sw lv I' L)) ∧ fK I I' ∧ kE X (.inl (5, x_S X q)) I' := by
  obtain ⟨f1, f2⟩ := M_fail hG 5
  have hb := mF_ne f1 (by decide) (by decide)
  obtain ⟨I2, b1, b2, b3⟩ := M_end (g := g) (N := N) (sw := sw) (lv := lv) (L := L) (r := .inl (5, x_S X q)) hx (sO_fD f2 hs) ⟨by show 0 < 5; decide, by show 5 < 100; decide⟩ f1 x1 (-1) x3
  refine ⟨I2, ?_, fK_tr (fK_fD f2) b2, b3⟩
  rw [y_Mo_readLine_63 _ _ _, d_f h3, d_f hb, y_Mo_readLine_82 _ _ _, d_t rfl, d_f hb]
  exact b1
theorem M_lt (hx : x_ok X) (hs : sO I) (hq : q ≤ X.1) (hl : lM X q Q I) (hw : wd (st_l 26) X q = true) : ∃ I', am_R 150 101 0 [.ref 147, .int (q_k Q), am_u, am_u] [] (am_hp g N sw lv I L) = some (.inl (some (.int (q_k Q ||| 1))), (am_hp g N sw lv I' L)) ∧ fK I I' ∧ kE X (lT X Q q) I' := by
  obtain ⟨w, hG, hd⟩ := id hl
  have h18 : wd (st_l 18) X q = false := wd_x hw (by decide)
  have h20 : wd (st_l 20) X q = false := wd_x hw (by decide)
  rw [lT_s, M_pre hx hs hq hG, fs_no h18 h20, hw, y_Mo_readLine_15 _ _ _, d_f (by decide), (q_k_and Q).1]
  by_cases e : 0 < q_c Q
  · rw [d_t e, decide_eq_true e, Bool.not_true, cond_false, d_t hG.2.1]
    exact M_tw hx hs hG _ 1 (by decide)
  · rw [d_f e, decide_eq_false e, Bool.not_false, cond_true]
    obtain ⟨I1, a1, a2, a3⟩ := M_hts (g := g) (N := N) (sw := sw) (lv := lv) (L := L) hx hs hq hl
    obtain ⟨I2, b1, b2, b3⟩ := M_end (g := g) (N := N) (sw := sw) (lv := lv) (L := L) hx (sO_fK a2 hs) (gK_T hq) a3 (q_k Q) (-1) 1
    refine ⟨I2, ?_, fK_tr a2 b2, b3⟩
    rw [y_Mo_readLine_63 _ _ _, d_f (by decide), d_t hG.2.1, a1, am_bd_ok, am_tn, y_Mo_readLine_79 _ _ _, b1]
end MLT
