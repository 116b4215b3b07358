/-! LINES: any line, class -/
def lAny (X : x_X) (Q : s_Q) (q : Nat) (ra rb : p_R) : p_L := cond (wd (st_l 18) X q) (lH X Q false q) (cond (wd (st_l 20) X q) (lH X Q true q) (cond (wd (st_l 26) X q) (lT X Q q) (cond (wd (st_l 36) X q) (lU X Q false ra q) (cond (wd (st_l 38) X q) (lU X Q true rb q) (.inl (1, x_S X q))))))
section LINE
variable {g N : Nat} {sw lv : Bool} {I : Nat → Nat → Int32} {L : Nat → Nat → Int64} {X : x_X} {rc q : Nat} {Q : s_Q}
theorem C_line (hx : x_ok X) (hr : am_isc rc) (hs : sO I) (hq : q ≤ X.1) (hQ : gQ Q) (hl : lC X rc q Q I) {ra rb : p_R} (ga : gd X false (x_E X q) 31 0 ra) (gb : gd X true (x_E X q) 31 0 rb) (ca : cSp X rc (rc + 6) false 74 0 (10 * (7 - 0) + 9 + 20) [.int (Int32.ofNat 0), am_u] (x_E X q) ra) (cb : cSp X rc (rc + 7) true 74 0 (10 * (7 - 0) + 9 + 20) [.int (Int32.ofNat 0), am_u] (x_E X q) rb) : ∃ I', am_R 63 101 0 [.ref 76, .ref rc] [] (am_hp g N sw lv I L) = some (.inl none, (am_hp g N sw lv I' L)) ∧ fL rc I I' ∧ lE X rc (lAny X Q q ra rb) I' := by
  obtain ⟨k, hk, hG, hH, hR⟩ := id hl
  have hn := hx.1
  obtain ⟨w1, w2, w3, w4, -, -, -, -, -, w10, -⟩ := w_is
  unfold lAny
  have t0 : am_R 63 101 0 [.ref 76, .ref rc] [] (am_hp g N sw lv I L) = am_R 63 101 10 [.ref 76, .ref rc] [.int (cond (wd (st_l 18) X q) 1 0)] (am_hp g N sw lv I L) := by
    rw [y_Rd_readLine_0 hr, C_isW hx hG.1 hq hs w1, am_bd_ok, am_tl]
    rfl
  cases e1 : wd (st_l 18) X q with
  | true =>
    rw [e1] at t0
    obtain ⟨I', a1, a2, a3⟩ := C_hdl (g := g) (N := N) (sw := sw) (lv := lv) (L := L) hx hr hs hq hQ hl false
    refine ⟨I', ?_, a2, a3⟩
    rw [t0, y_Rd_readLine_10 _ hr, d_f (by decide)]
    refine Eq.trans (congrArg (fun z => am_bd z _ _) a1) ?_
    rw [am_bd_ok, am_tn, y_Rd_readLine_19 hr, y_Rd_readLine_120 hr]
  | false =>
    rw [e1] at t0
    have t1 : am_R 63 101 0 [.ref 76, .ref rc] [] (am_hp g N sw lv I L) = am_R 63 101 32 [.ref 76, .ref rc] [.int (cond (wd (st_l 20) X q) 1 0)] (am_hp g N sw lv I L) := by
      rw [t0, y_Rd_readLine_10 _ hr, d_t (show (cond false 1 0 : Int32) = 0 from rfl), C_isW hx hG.1 hq hs w2, am_bd_ok, am_tl]
      rfl
    cases e2 : wd (st_l 20) X q with
    | true =>
      rw [e2] at t1
      obtain ⟨I', a1, a2, a3⟩ := C_hdl (g := g) (N := N) (sw := sw) (lv := lv) (L := L) hx hr hs hq hQ hl true
      refine ⟨I', ?_, a2, a3⟩
      rw [t1, y_Rd_readLine_32 _ hr, d_f (by decide)]
      refine Eq.trans (congrArg (fun z => am_bd z _ _) a1) ?_
      rw [am_bd_ok, am_tn, y_Rd_readLine_41 hr, y_Rd_readLine_120 hr]
    | false =>
      rw [e2] at t1
      have t2 : am_R 63 101 0 [.ref 76, .ref rc] [] (am_hp g N sw lv I L) = am_R 63 101 54 [.ref 76, .ref rc] [.int (cond (wd (st_l 26) X q) 1 0)] (am_hp g N sw lv I L) := by
        rw [t1, y_Rd_readLine_32 _ hr, d_t (show (cond false 1 0 : Int32) = 0 from rfl), C_isW hx hG.1 hq hs w10, am_bd_ok, am_tl]
        rfl
      cases e3 : wd (st_l 26) X q with
      | true =>
        rw [e3] at t2
        obtain ⟨I', a1, a2, a3⟩ := C_htl2 (g := g) (N := N) (sw := sw) (lv := lv) (L := L) hx hr hs hq hQ hl
        refine ⟨I', ?_, a2, a3⟩
        rw [t2, y_Rd_readLine_54 _ hr, d_f (by decide)]
        refine Eq.trans (congrArg (fun z => am_bd z _ _) a1) ?_
        rw [am_bd_ok, am_tn, y_Rd_readLine_62 hr, y_Rd_readLine_120 hr]
      | false =>
        rw [e3] at t2
        have t3 : am_R 63 101 0 [.ref 76, .ref rc] [] (am_hp g N sw lv I L) = am_R 63 101 75 [.ref 76, .ref rc] [.int (cond (wd (st_l 36) X q) 1 0)] (am_hp g N sw lv I L) := by
          rw [t2, y_Rd_readLine_54 _ hr, d_t (show (cond false 1 0 : Int32) = 0 from rfl), C_isW hx hG.1 hq hs w3, am_bd_ok, am_tl]
          rfl
        cases e4 : wd (st_l 36) X q with
        | true =>
          rw [e4] at t3
          obtain ⟨I', a1, a2, a3⟩ := C_rul (g := g) (N := N) (sw := sw) (lv := lv) (L := L) hx hr (w := false) rfl hs hq hl ga ca
          refine ⟨I', ?_, a2, a3⟩
          rw [t3, y_Rd_readLine_75 _ hr, d_f (by decide)]
          refine Eq.trans (congrArg (fun z => am_bd z _ _) a1) ?_
          rw [am_bd_ok, am_tn, y_Rd_readLine_87 hr, y_Rd_readLine_120 hr]
        | false =>
          rw [e4] at t3
          have t4 : am_R 63 101 0 [.ref 76, .ref rc] [] (am_hp g N sw lv I L) = am_R 63 101 100 [.ref 76, .ref rc] [.int (cond (wd (st_l 38) X q) 1 0)] (am_hp g N sw lv I L) := by
            rw [t3, y_Rd_readLine_75 _ hr, d_t (show (cond false 1 0 : Int32) = 0 from rfl), C_isW hx hG.1 hq hs w4, am_bd_ok, am_tl]
            rfl
          cases e5 : wd (st_l 38) X q with
          | true =>
            rw [e5] at t4
            obtain ⟨I', a1, a2, a3⟩ := C_rul (g := g) (N := N) (sw := sw) (lv := lv) (L := L) hx hr (w := true) rfl hs hq hl gb cb
            refine ⟨I', ?_, a2, a3⟩
            rw [t4, y_Rd_readLine_100 _ hr, d_f (by decide)]
            refine Eq.trans (congrArg (fun z => am_bd z _ _) a1) ?_
            rw [am_bd_ok, am_tn, y_Rd_readLine_112 hr, y_Rd_readLine_120 hr]
          | false =>
            rw [e5] at t4
            obtain ⟨f1, f2⟩ := P_fail hr hq (by omega) hG 1
            refine ⟨_, ?_, fL_fP f2, ⟨f1.2.1, f1.2.2.1⟩⟩
            rw [t4, y_Rd_readLine_100 _ hr, d_t (show (cond false 1 0 : Int32) = 0 from rfl), d_t hG.2.1, y_Rd_readLine_120 hr]
            rfl
end LINE
