/-! LINES: any line, reference -/
theorem wd_x {l m : List Nat} {X : x_X} {q : Nat} (h : wd l X q = true) (hne : l ≠ m) : wd m X q = false := by
  cases e : wd m X q with
  | false => rfl
  | true => exact absurd (wd_inj h e) hne
def lB (X : x_X) (q : Nat) : Int32 := cond (wd (st_l 26) X q) 1 (cond (wd (st_l 36) X q) 2 (cond (wd (st_l 38) X q) 4 0))
theorem ist_26 : am_ist 26 := by
  unfold am_ist
  decide
theorem ist_36 : am_ist 36 := by
  unfold am_ist
  decide
theorem ist_38 : am_ist 38 := by
  unfold am_ist
  decide
section MANY
variable {g N : Nat} {sw lv : Bool} {I : Nat → Nat → Int32} {L : Nat → Nat → Int64} {X : x_X} {q : Nat} {Q : s_Q}
/-- up to which line it is -/
theorem M_pre (hx : x_ok X) (hs : sO I) (hq : q ≤ X.1) {w : Bool} {k : s_K} (hG : mG X w q k I) (x1 : Int32) : am_R 150 101 0 [.ref 147, .int x1, am_u, am_u] [] (am_hp g N sw lv I L) = am_R 150 101 15 [.ref 147, .int x1, .int (oi (fs (fun k => wd (st_l (18 + 2 * k)) X q) 2 0)), am_u] [.int (cond (wd (st_l 26) X q) 1 0)] (am_hp g N sw lv I L) := by
  rw [y_Mo_readLine_0 _, M_wha hx hG.1 hG.2.1 hq hs, am_bd_ok, am_tl, y_Mo_readLine_8 _ _, M_is hx hG.1 hG.2.1 hq hs ist_26, am_bd_ok, am_tl]
theorem M_pr3 (hx : x_ok X) (hs : sO I) (hq : q ≤ X.1) {w : Bool} {k : s_K} (hG : mG X w q k I) (x1 x2 : Int32) (h1 : wd (st_l 26) X q = false) (h2 : wd (st_l 36) X q = false) (h3 : wd (st_l 38) X q = false) : am_R 150 101 15 [.ref 147, .int x1, .int x2, am_u] [.int (cond (wd (st_l 26) X q) 1 0)] (am_hp g N sw lv I L) = am_R 150 101 82 [.ref 147, .int x1, .int x2, .int 0] [] (am_hp g N sw lv I L) := by
  rw [y_Mo_readLine_15 _ _ _, h1, d_t (show (cond false 1 0 : Int32) = 0 from rfl), M_is hx hG.1 hG.2.1 hq hs ist_36, am_bd_ok, am_tl, y_Mo_readLine_29 _ _ _, h2, d_t (show (cond false 1 0 : Int32) = 0 from rfl), M_is hx hG.1 hG.2.1 hq hs ist_38, am_bd_ok, am_tl, y_Mo_readLine_43 _ _ _, h3, d_t (show (cond false 1 0 : Int32) = 0 from rfl), d_t (Int32.zero_and), y_Mo_readLine_63 _ _ _, d_t (by decide)]
end MANY
