/-! LINES: a head's line, class -/
theorem nR_ge {X : x_X} {lo hi q0 : Nat} {r : p_E} (hg : gE X r) (h : ∀ q, r = .inr q → q0 ≤ q) : ∀ q, nR X lo hi r = .inr q → q0 ≤ q := by
  cases r with
  | inl fp => exact fun q e => by cases e
  | inr q1 =>
    intro q e
    by_cases e0 : nf X q1 lo hi = 0
    · rw [(nR_t e0).1] at e
      cases e
      exact Nat.le_trans (h q1 rfl) (x_E_le (show q1 ≤ X.1 from hg)).1
    · rw [(nR_f e0).1] at e
      cases e
theorem sR_ge {X : x_X} {c q0 : Nat} {r : p_E} (hg : gE X r) (h : ∀ q, r = .inr q → q0 ≤ q) : ∀ q, sR X c r = .inr q → q0 ≤ q := by
  cases r with
  | inl fp => exact fun q e => by cases e
  | inr q1 =>
    intro q e
    by_cases e0 : x_K X q1 = c
    · rw [sR_t e0] at e
      cases e
      exact Nat.le_trans (h q1 rfl) (x_E_le (show q1 ≤ X.1 from hg)).1
    · rw [sR_f e0] at e
      cases e
section HEAD3
variable {g N : Nat} {sw lv : Bool} {I : Nat → Nat → Int32} {L : Nat → Nat → Int64} {X : x_X} {rc q : Nat} {Q : s_Q}
theorem lH_g (hq : q ≤ X.1) (b : Bool) : gE X (cond b (nR X 0 63 (nR X 0 63 (nR X 0 9 (nR X 1 99 (.inr (x_E X q)))))) (nR X 0 63 (nR X 0 9 (nR X 1 99 (.inr (x_E X q)))))) ∧ ∀ q', (cond b (nR X 0 63 (nR X 0 63 (nR X 0 9 (nR X 1 99 (.inr (x_E X q)))))) (nR X 0 63 (nR X 0 9 (nR X 1 99 (.inr (x_E X q)))))) = .inr q' → x_E X q ≤ q' := by
  have hE := x_E_le hq
  have g0 : gE X (.inr (x_E X q)) := hE.2.1
  have g1 := gE_n (lo := 1) (hi := 99) g0
  have g2 := gE_n (lo := 0) (hi := 9) g1
  have g3 := gE_n (lo := 0) (hi := 63) g2
  have m0 : ∀ q', (Sum.inr (x_E X q) : p_E) = .inr q' → x_E X q ≤ q' := fun q' e => by cases e; exact Nat.le_refl _
  have m1 := nR_ge (lo := 1) (hi := 99) g0 m0
  have m2 := nR_ge (lo := 0) (hi := 9) g1 m1
  have m3 := nR_ge (lo := 0) (hi := 63) g2 m2
  cases b with
  | true => exact ⟨gE_n g3, nR_ge g3 m3⟩
  | false => exact ⟨g3, m3⟩
theorem C_hdl (hx : x_ok X) (hr : am_isc rc) (hs : sO I) (hq : q ≤ X.1) (hQ : gQ Q) (hl : lC X rc q Q I) (b : Bool) : ∃ I', am_R 66 10 0 [.ref 76, .ref rc, .int (cond b 1 0), am_u, am_u, am_u, am_u] [] (am_hp g N sw lv I L) = some (.inl none, (am_hp g N sw lv I' L)) ∧ fL rc I I' ∧ lE X rc (lH X Q b q) I' := by
  obtain ⟨k, hk, hG, hH, hR⟩ := id hl
  have hn := hx.1
  have h8 := hQ.1
  have hE := x_E_le hq
  have d8 : decide (Int32.ofNat (q_n Q) < 8) = decide (q_n Q < 8) := nb_dlt (b := 8) (by omega) (by decide)
  obtain ⟨g4, m4⟩ := lH_g hq b
  unfold lH
  by_cases e8 : q_n Q = 8
  · rw [d_t e8]
    obtain ⟨f1, f2⟩ := P_fail hr hq (by omega) hG 2
    refine ⟨_, ?_, fL_fP f2, ⟨f1.2.1, f1.2.2.1⟩⟩
    rw [y_Rd_readHead_0 _ hr, hH.1, d8, d_f (by omega), d_t hG.2.1]
    rfl
  · rw [d_f e8]
    obtain ⟨I0, z1, z2, z3, z4⟩ := P_step (g := g) (N := N) (sw := sw) (lv := lv) (L := L) hx hr hs hq hG
    have g0 : gE X (.inr (x_E X q)) := hE.2.1
    obtain ⟨I1, a1, a2, a3, a4⟩ := C_nE (g := g) (N := N) (sw := sw) (lv := lv) (L := L) (r := .inr (x_E X q)) hx hr z4 (by omega) g0 z2 (lo := 1) (hi := 99) (by decide) (by decide)
    have g1 := gE_n (lo := 1) (hi := 99) g0
    obtain ⟨I2, b1, b2, b3, b4⟩ := C_nE (g := g) (N := N) (sw := sw) (lv := lv) (L := L) hx hr a4 (by omega) g1 a2 (lo := 0) (hi := 9) (by decide) (by decide)
    have g2 := gE_n (lo := 0) (hi := 9) g1
    obtain ⟨I3, c1, c2, c3, c4⟩ := C_nE (g := g) (N := N) (sw := sw) (lv := lv) (L := L) hx hr b4 (by omega) g2 b2 (lo := 0) (hi := 63) (by decide) (by decide)
    have g3 := gE_n (lo := 0) (hi := 63) g2
    obtain ⟨I4, d1, d2, d3, d4⟩ : ∃ I4, am_R 66 10 46 [.ref 76, .ref rc, .int (cond b 1 0), .int (Int32.ofNat (nV X 1 99 (.inr (x_E X q)))), .int (Int32.ofNat (nV X 0 9 (nR X 1 99 (.inr (x_E X q))))), am_u, am_u] [.int (Int32.ofNat (nV X 0 63 (nR X 0 9 (nR X 1 99 (.inr (x_E X q))))))] (am_hp g N sw lv I3 L) = am_bd (am_R 69 9 0 [.ref 76, .int 59] [] (am_hp g N sw lv I4 L)) (fun v h => am_R 66 10 72 [.ref 76, .ref rc, .int (cond b 1 0), .int (Int32.ofNat (nV X 1 99 (.inr (x_E X q)))), .int (Int32.ofNat (nV X 0 9 (nR X 1 99 (.inr (x_E X q))))), .int (Int32.ofNat (nV X 0 63 (nR X 0 9 (nR X 1 99 (.inr (x_E X q)))))), .int (Int32.ofNat (cond b (nV X 0 63 (nR X 0 63 (nR X 0 9 (nR X 1 99 (.inr (x_E X q)))))) (nV X 0 63 (nR X 0 9 (nR X 1 99 (.inr (x_E X q)))))))] (v.toList ++ []) h) (fun c h => some (.inr c, h)) ∧ stC X rc k (cond b (nR X 0 63 (nR X 0 63 (nR X 0 9 (nR X 1 99 (.inr (x_E X q)))))) (nR X 0 63 (nR X 0 9 (nR X 1 99 (.inr (x_E X q)))))) I4 ∧ fP rc I3 I4 ∧ sO I4 := by
      cases b with
      | false =>
        refine ⟨I3, ?_, c2, fP_rfl, c4⟩
        rw [y_Rd_readHead_46 _ _ _ _ hr, d_t (show (cond false 1 0 : Int32) = 0 from rfl)]
        rfl
      | true =>
        obtain ⟨I4, e1, e2, e3, e4⟩ := C_nE (g := g) (N := N) (sw := sw) (lv := lv) (L := L) hx hr c4 (by omega) g3 c2 (lo := 0) (hi := 63) (by decide) (by decide)
        refine ⟨I4, ?_, e2, e3, e4⟩
        rw [y_Rd_readHead_46 _ _ _ _ hr, d_f (by decide)]
        refine Eq.trans (congrArg (fun z => am_bd z _ _) e1) ?_
        rw [am_bd_ok, am_tl]
        exact y_Rd_readHead_59 _ _ _ _ _ hr
    obtain ⟨I5, f1, f2, f3, f4⟩ := C_sE (g := g) (N := N) (sw := sw) (lv := lv) (L := L) hx hr d4 (by omega) g4 d2 (c := 59) (by decide)
    have fr : fP rc I I5 := fP_tr z3 (fP_tr a3 (fP_tr b3 (fP_tr c3 (fP_tr d3 f3))))
    have run : am_R 66 10 0 [.ref 76, .ref rc, .int (cond b 1 0), am_u, am_u, am_u, am_u] [] (am_hp g N sw lv I L) = am_R 66 10 72 [.ref 76, .ref rc, .int (cond b 1 0), .int (Int32.ofNat (nV X 1 99 (.inr (x_E X q)))), .int (Int32.ofNat (nV X 0 9 (nR X 1 99 (.inr (x_E X q))))), .int (Int32.ofNat (nV X 0 63 (nR X 0 9 (nR X 1 99 (.inr (x_E X q)))))), .int (Int32.ofNat (cond b (nV X 0 63 (nR X 0 63 (nR X 0 9 (nR X 1 99 (.inr (x_E X q)))))) (nV X 0 63 (nR X 0 9 (nR X 1 99 (.inr (x_E X q)))))))] [] (am_hp g N sw lv I5 L) := by
      rw [y_Rd_readHead_0 _ hr, hH.1, d8, d_t (by omega), z1, am_bd_ok, am_tn, y_Rd_readHead_22 _ hr]
      refine Eq.trans (congrArg (fun z => am_bd z _ _) a1) ?_
      rw [am_bd_ok, am_tl, y_Rd_readHead_29 _ _ hr]
      refine Eq.trans (congrArg (fun z => am_bd z _ _) b1) ?_
      rw [am_bd_ok, am_tl, y_Rd_readHead_37 _ _ _ hr]
      refine Eq.trans (congrArg (fun z => am_bd z _ _) c1) ?_
      rw [am_bd_ok, am_tl, d1]
      refine Eq.trans (congrArg (fun z => am_bd z _ _) f1) ?_
      rw [am_bd_ok, am_tn]
    have g5 := gE_s (c := 59) g4
    have m5 := sR_ge (c := 59) g4 m4
    cases h5 : sR X 59 (cond b (nR X 0 63 (nR X 0 63 (nR X 0 9 (nR X 1 99 (.inr (x_E X q)))))) (nR X 0 63 (nR X 0 9 (nR X 1 99 (.inr (x_E X q)))))) with
    | inl fp =>
      rw [h5] at f2 g5
      have f2' : pF X rc fp.1 fp.2 I5 := f2
      refine ⟨I5, ?_, fL_fP fr, ⟨f2'.2.1, f2'.2.2.1⟩⟩
      rw [run, y_Rd_readHead_72 _ _ _ _ _ hr, d_f (pF_ne f2' g5.1 g5.2.1), y_Rd_readHead_91 _ _ _ _ _ hr]
    | inr q' =>
      rw [h5] at f2
      have hq' := m5 q' h5
      obtain ⟨I6, k1, k2, k3⟩ := C_addh (g := g) (N := N) (sw := sw) (lv := lv) (L := L) (X := X) (q := q') (I := I5) hr hQ ⟨k, by omega, f2, dH_fP hr hH fr, fun w => dR_fP hr (hR w) fr⟩ e8 b ((nV X 1 99 (.inr (x_E X q))), (nV X 0 9 (nR X 1 99 (.inr (x_E X q)))), (nV X 0 63 (nR X 0 9 (nR X 1 99 (.inr (x_E X q))))), (cond b (nV X 0 63 (nR X 0 63 (nR X 0 9 (nR X 1 99 (.inr (x_E X q)))))) (nV X 0 63 (nR X 0 9 (nR X 1 99 (.inr (x_E X q)))))))
      exact ⟨I6, run.trans k1, fL_tr (fL_fP fr) k2, k3⟩
end HEAD3
