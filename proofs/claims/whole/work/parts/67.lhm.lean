/-! LINES: a head's whole line, reference -/
section MLH
variable {g N : Nat} {sw lv : Bool} {I : Nat → Nat → Int32} {L : Nat → Nat → Int64} {X : x_X} {q : Nat} {Q : s_Q}
theorem M_lh (hx : x_ok X) (hs : sO I) (hq : q ≤ X.1) (hQ : gQ Q) (hl : lM X q Q I) (b : Bool) (hw : wd (st_l (cond b 20 18)) X q = true) (x1 : Int32) : ∃ I', am_R 150 101 0 [.ref 147, .int x1, am_u, am_u] [] (am_hp g N sw lv I L) = some (.inl (some (.int (x1 ||| 0))), (am_hp g N sw lv I' L)) ∧ fK I I' ∧ kE X (lH X Q b q) I' := by
  obtain ⟨w, hG, hd⟩ := id hl
  have h26 : wd (st_l 26) X q = false := wd_x hw (by cases b <;> decide)
  have h36 : wd (st_l 36) X q = false := wd_x hw (by cases b <;> decide)
  have h38 : wd (st_l 38) X q = false := wd_x hw (by cases b <;> decide)
  have hf : oi (fs (fun k => wd (st_l (18 + 2 * k)) X q) 2 0) = cond b 1 0 := by
    cases b with
    | false =>
      have : fs (fun k => wd (st_l (18 + 2 * k)) X q) 2 0 = some 0 := fs_at (Nat.le_refl _) (by decide) hw (fun i _ h => absurd h (Nat.not_lt_zero _))
      rw [this]
      rfl
    | true =>
      have h0 : wd (st_l 18) X q = false := wd_x hw (by decide)
      have : fs (fun k => wd (st_l (18 + 2 * k)) X q) 2 0 = some 1 := fs_at (Nat.zero_le _) (by decide) hw (fun i _ h => by
        have : i = 0 := by omega
        subst this
        exact h0)
      rw [this]
      rfl
  obtain ⟨I1, a1, a2, a3, a4⟩ := M_hd (g := g) (N := N) (sw := sw) (lv := lv) (L := L) hx hs hq hQ hl b
  obtain ⟨I2, b1, b2, b3⟩ := M_end (g := g) (N := N) (sw := sw) (lv := lv) (L := L) hx a3 (gK_H hq b) a4 x1 (cond b 1 0) 0
  refine ⟨I2, ?_, fK_tr a2 b2, by rw [lH_s]; exact b3⟩
  rw [M_pre hx hs hq hG x1, M_pr3 hx hs hq hG _ _ h26 h36 h38, hf, y_Mo_readLine_82 _ _ _, d_f (by cases b <;> decide), a1, am_bd_ok, am_tn, y_Mo_readLine_92 _ _ _, b1]
end MLH
