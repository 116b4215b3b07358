/-! LINES: a line that is none, reference -/
section MLZ
variable {g N : Nat} {sw lv : Bool} {I : Nat → Nat → Int32} {L : Nat → Nat → Int64} {X : x_X} {q : Nat} {Q : s_Q}
theorem fs_no (h18 : wd (st_l 18) X q = false) (h20 : wd (st_l 20) X q = false) : oi (fs (fun k => wd (st_l (18 + 2 * k)) X q) 2 0) = -1 := by
  have : fs (fun k => wd (st_l (18 + 2 * k)) X q) 2 0 = none := fs_none (fun i _ h => by
    match i, h with
    | 0, _ => exact h18
    | 1, _ => exact h20)
  rw [this]
  rfl
theorem M_lz (hx : x_ok X) (hs : sO I) (hq : q ≤ X.1) (hl : lM X q Q I) (h18 : wd (st_l 18) X q = false) (h20 : wd (st_l 20) X q = false) (h26 : wd (st_l 26) X q = false) (h36 : wd (st_l 36) X q = false) (h38 : wd (st_l 38) X q = false) (x1 : Int32) : ∃ I', am_R 150 101 0 [.ref 147, .int x1, am_u, am_u] [] (am_hp g N sw lv I L) = some (.inl (some (.int (x1 ||| 0))), (am_hp g N sw lv I' L)) ∧ fK I I' ∧ kE X (.inl (1, x_S X q)) I' := by
  obtain ⟨w, hG, hd⟩ := id hl
  obtain ⟨f1, f2⟩ := M_fail hG 1
  obtain ⟨I2, b1, b2, b3⟩ := M_end (g := g) (N := N) (sw := sw) (lv := lv) (L := L) (r := .inl (1, x_S X q)) hx (sO_fD f2 hs) ⟨by show 0 < 1; decide, by show 1 < 100; decide⟩ f1 x1 (-1) 0
  refine ⟨I2, ?_, fK_tr (fK_fD f2) b2, b3⟩
  rw [M_pre hx hs hq hG x1, M_pr3 hx hs hq hG _ _ h26 h36 h38, fs_no h18 h20, y_Mo_readLine_82 _ _ _, d_t rfl, d_t hG.2.1]
  exact b1
end MLZ
