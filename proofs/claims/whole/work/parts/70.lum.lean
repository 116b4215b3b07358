/-! LINES: a rule's whole line, reference -/
section MLU
variable {g N : Nat} {sw lv : Bool} {I : Nat → Nat → Int32} {L : Nat → Nat → Int64} {X : x_X} {q : Nat} {Q : s_Q}
theorem M_lu0 (hx : x_ok X) (hs : sO I) (hq : q ≤ X.1) (hl : lM X q Q I) (hw : wd (st_l 36) X q = true) {r : p_R} (hg : gd X false (x_E X q) 31 0 r) (hc : mSp X false 157 0 (10 * (7 - 0) + 6 + 20) [.int (Int32.ofNat 0), am_u] (x_E X q) r) : ∃ I' lv', am_R 150 101 0 [.ref 147, .int (q_k Q), am_u, am_u] [] (am_hp g N sw lv I L) = some (.inl (some (.int (q_k Q ||| 2))), am_hp g N sw lv' I' L) ∧ fK I I' ∧ kE X (lU X Q false r q) I' := by
  obtain ⟨w, hG, hd⟩ := id hl
  have h18 : wd (st_l 18) X q = false := wd_x hw (by decide)
  have h20 : wd (st_l 20) X q = false := wd_x hw (by decide)
  have h26 : wd (st_l 26) X q = false := wd_x hw (by decide)
  rw [M_pre hx hs hq hG, fs_no h18 h20, h26, y_Mo_readLine_15 _ _ _, d_t (show (cond false 1 0 : Int32) = 0 from rfl), M_is hx hG.1 hG.2.1 hq hs ist_36, hw, am_bd_ok, am_tl, y_Mo_readLine_29 _ _ _, d_f (by decide), (q_k_and Q).2.1]
  unfold lU
  cases e : (q_r Q false).isSome with
  | true =>
    rw [Bool.not_true, cond_false, d_t hG.2.1]
    obtain ⟨I2, b1, b2, b3⟩ := M_tw (g := g) (N := N) (sw := sw) (lv := lv) (L := L) hx hs hG (q_k Q) 2 (by decide)
    exact ⟨I2, lv, b1, b2, b3⟩
  | false =>
    rw [Bool.not_false, cond_true, cond_false, lU2_s]
    have hn : q_r Q false = none := by
      cases h : q_r Q false with
      | none => rfl
      | some x =>
        rw [h] at e
        cases e
    obtain ⟨I1, a1, a2, a3⟩ := M_rul (g := g) (N := N) (sw := sw) (lv := lv) (L := L) hx hs hq hl hn hc
    obtain ⟨I2, b1, b2, b3⟩ := M_end (g := g) (N := N) (sw := sw) (lv := false) (L := L) hx (sO_fK a2 hs) (gK_U hg) a3 (q_k Q) (-1) 2
    refine ⟨I2, false, ?_, fK_tr a2 b2, b3⟩
    rw [y_Mo_readLine_63 _ _ _, d_f (by decide), d_t hG.2.1]
    refine Eq.trans (congrArg (fun z => am_bd z _ _) a1) ?_
    rw [am_bd_ok, am_tn, y_Mo_readLine_79 _ _ _, b1]
theorem M_lu1 (hx : x_ok X) (hs : sO I) (hq : q ≤ X.1) (hl : lM X q Q I) (hw : wd (st_l 38) X q = true) {r : p_R} (hg : gd X true (x_E X q) 31 0 r) (hc : mSp X true 157 0 (10 * (7 - 0) + 6 + 20) [.int (Int32.ofNat 0), am_u] (x_E X q) r) : ∃ I' lv', am_R 150 101 0 [.ref 147, .int (q_k Q), am_u, am_u] [] (am_hp g N sw lv I L) = some (.inl (some (.int (q_k Q ||| 4))), am_hp g N sw lv' I' L) ∧ fK I I' ∧ kE X (lU X Q true r q) I' := by
  obtain ⟨w, hG, hd⟩ := id hl
  have h18 : wd (st_l 18) X q = false := wd_x hw (by decide)
  have h20 : wd (st_l 20) X q = false := wd_x hw (by decide)
  have h26 : wd (st_l 26) X q = false := wd_x hw (by decide)
  have h36 : wd (st_l 36) X q = false := wd_x hw (by decide)
  rw [M_pre hx hs hq hG, fs_no h18 h20, h26, y_Mo_readLine_15 _ _ _, d_t (show (cond false 1 0 : Int32) = 0 from rfl), M_is hx hG.1 hG.2.1 hq hs ist_36, h36, am_bd_ok, am_tl, y_Mo_readLine_29 _ _ _, d_t (show (cond false 1 0 : Int32) = 0 from rfl), M_is hx hG.1 hG.2.1 hq hs ist_38, hw, am_bd_ok, am_tl, y_Mo_readLine_43 _ _ _, d_f (by decide), (q_k_and Q).2.2]
  unfold lU
  cases e : (q_r Q true).isSome with
  | true =>
    rw [Bool.not_true, cond_false, d_t hG.2.1]
    obtain ⟨I2, b1, b2, b3⟩ := M_tw (g := g) (N := N) (sw := sw) (lv := lv) (L := L) hx hs hG (q_k Q) 4 (by decide)
    exact ⟨I2, lv, b1, b2, b3⟩
  | false =>
    rw [Bool.not_false, cond_true, cond_false, lU2_s]
    have hn : q_r Q true = none := by
      cases h : q_r Q true with
      | none => rfl
      | some x =>
        rw [h] at e
        cases e
    obtain ⟨I1, a1, a2, a3⟩ := M_rul (g := g) (N := N) (sw := sw) (lv := lv) (L := L) hx hs hq hl hn hc
    obtain ⟨I2, b1, b2, b3⟩ := M_end (g := g) (N := N) (sw := sw) (lv := true) (L := L) hx (sO_fK a2 hs) (gK_U hg) a3 (q_k Q) (-1) 4
    refine ⟨I2, true, ?_, fK_tr a2 b2, b3⟩
    rw [y_Mo_readLine_63 _ _ _, d_f (by decide), d_t hG.2.1]
    refine Eq.trans (congrArg (fun z => am_bd z _ _) a1) ?_
    rw [am_bd_ok, am_tn, y_Mo_readLine_79 _ _ _, b1]
end MLU
