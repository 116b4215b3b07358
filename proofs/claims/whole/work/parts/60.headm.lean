/-! LINES: a head's line, reference -/
theorem tb_or : ∀ m, m < 256 → ∀ n, n < 8 → m < 2 ^ n → ∀ b : Bool, ∀ i, i < 8 → (cond b (m ||| 2 ^ n) m).testBit i = if i = n then b else m.testBit i := by decide +kernel
def kE (X : x_X) (r : p_L) (I : Nat → Nat → Int32) : Prop := match r with
  | .inl fp => mF fp.1 fp.2 I
  | .inr y => lM X y.1 y.2 I
def lHq (Q : s_Q) (b : Bool) (h : s_H) (r : p_E) : p_L := match r with
  | .inl fp => .inl fp
  | .inr q4 => .inr (q4, q_add Q b h)
def lHp (X : x_X) (Q : s_Q) (b : Bool) (q : Nat) : p_L := cond (decide (q_n Q = 8)) (.inl (2, x_S X q)) (lHq Q b ((nV X 1 99 (.inr (x_E X q))), (nV X 0 9 (nR X 1 99 (.inr (x_E X q)))), (nV X 0 63 (nR X 0 9 (nR X 1 99 (.inr (x_E X q))))), (cond b (nV X 0 63 (nR X 0 63 (nR X 0 9 (nR X 1 99 (.inr (x_E X q)))))) (nV X 0 63 (nR X 0 9 (nR X 1 99 (.inr (x_E X q))))))) (cond b (nR X 0 63 (nR X 0 63 (nR X 0 9 (nR X 1 99 (.inr (x_E X q)))))) (nR X 0 63 (nR X 0 9 (nR X 1 99 (.inr (x_E X q)))))))
theorem lH_s (X : x_X) (Q : s_Q) (b : Bool) (q : Nat) : lH X Q b q = sgL X 59 (lHp X Q b q) := by
  unfold lH lHp
  by_cases e8 : q_n Q = 8
  · rw [d_t e8, d_t e8]
    rfl
  · rw [d_f e8, d_f e8]
    cases (cond b (nR X 0 63 (nR X 0 63 (nR X 0 9 (nR X 1 99 (.inr (x_E X q)))))) (nR X 0 63 (nR X 0 9 (nR X 1 99 (.inr (x_E X q)))))) with
    | inl fp => rfl
    | inr q4 =>
      by_cases e : x_K X q4 = 59
      · rw [sR_t e]
        show _ = cond (decide (x_K X q4 = 59)) _ _
        rw [d_t e]
      · rw [sR_f e]
        show _ = cond (decide (x_K X q4 = 59)) _ _
        rw [d_f e]
section MHEAD
variable {g N : Nat} {sw lv : Bool} {I : Nat → Nat → Int32} {L : Nat → Nat → Int64} {X : x_X} {q : Nat} {Q : s_Q}
/-- what reading does to the heads' tables: nothing -/
theorem fD_t {w : Bool} {I I' : Nat → Nat → Int32} (h : fDm w I I') {a : Nat} (ha : 152 ≤ a ∧ a ≤ 157) : I' a = I a := by
  obtain ⟨w1, w2⟩ := w158 w
  exact h.1 a (by omega) (by omega) (by omega)
theorem M_hd (hx : x_ok X) (hs : sO I) (hq : q ≤ X.1) (hQ : gQ Q) (hl : lM X q Q I) (b : Bool) : ∃ I', am_R 166 4 0 [.ref 147, .int (cond b 1 0), am_u] [] (am_hp g N sw lv I L) = some (.inl none, (am_hp g N sw lv I' L)) ∧ fK I I' ∧ sO I' ∧ kE X (lHp X Q b q) I' := by
  obtain ⟨w, hG, hd⟩ := hl
  obtain ⟨w1, w2⟩ := w158 w
  have hn := hx.1
  have h8 := hQ.1
  have hE := x_E_le hq
  have d8 : decide (Int32.ofNat (q_n Q) = 8) = decide (q_n Q = 8) := nb_deq (b := 8) (by omega) (by decide)
  obtain ⟨g4, m4⟩ := lH_g hq b
  unfold lHp
  by_cases e8 : q_n Q = 8
  · rw [d_t e8]
    obtain ⟨f1, f2⟩ := M_fail hG 2
    have hb := mF_ne f1 (by decide) (by decide)
    refine ⟨_, ?_, fK_fD f2, sO_fD f2 hs, f1⟩
    rw [y_Mo_sayHead_0 _, hd.1, d8, d_t e8, d_t hG.2.1]
    refine Eq.trans (y_Mo_sayHead_16 (I := (am_up (am_up I 147 (upd (I 147) 23 (Int32.ofNat 2))) 147 (upd (upd (I 147) 23 (Int32.ofNat 2)) 24 ((upd (I 147) 23 (Int32.ofNat 2)) 21)))) _) ?_
    rw [d_f hb]
  · rw [d_f e8]
    have i16 : am_inb (Int32.ofNat (8 + q_n Q)) 16 = true := nb_inb (by omega) (by omega)
    have t16 : Int32.toNatClampNeg (Int32.ofNat (8 + q_n Q)) = 8 + q_n Q := nb_tn (by omega)
    obtain ⟨I0, z1, z2, z3, z4⟩ := M_stp (g := g) (N := N) (sw := sw) (lv := lv) (L := L) hx hs hq hG
    have n0 : (8 : Int32) + I0 151 4 = Int32.ofNat (8 + q_n Q) := by
      rw [z3.2.2.1 4 (by omega), hd.1]
      exact nb_add 8 (q_n Q)
    have g0 : gE X (.inr (x_E X q)) := hE.2.1
    obtain ⟨I1, a1, a2, a3, a4⟩ := M_nE (g := g) (N := N) (sw := sw) (lv := lv) (L := L) (r := .inr (x_E X q)) hx (sO_up (a := 152) (i := 8 + q_n Q) (x := cond b 1 0) (by decide) z4) g0 (stM_up (a := 152) (by decide) (show stM X w (k_of (q_l Q w)) (.inr (x_E X q)) I0 from z2)) (lo := 1) (hi := 99) (by decide) (by decide)
    have g1 := gE_n (lo := 1) (hi := 99) g0
    obtain ⟨I2, b1, b2, b3, b4⟩ := M_nE (g := g) (N := N) (sw := sw) (lv := lv) (L := L) hx (sO_up (a := 153) (i := 8 + q_n Q) (x := (Int32.ofNat (nV X 1 99 (.inr (x_E X q))))) (by decide) a4) g1 (stM_up (a := 153) (by decide) a2) (lo := 0) (hi := 9) (by decide) (by decide)
    have g2 := gE_n (lo := 0) (hi := 9) g1
    obtain ⟨I3, c1, c2, c3, c4⟩ := M_nE (g := g) (N := N) (sw := sw) (lv := lv) (L := L) hx (sO_up (a := 154) (i := 8 + q_n Q) (x := (Int32.ofNat (nV X 0 9 (nR X 1 99 (.inr (x_E X q)))))) (by decide) b4) g2 (stM_up (a := 154) (by decide) b2) (lo := 0) (hi := 63) (by decide) (by decide)
    have g3 := gE_n (lo := 0) (hi := 63) g2
    have s3 := stM_up (a := 155) (i := 8 + q_n Q) (x := (Int32.ofNat (nV X 0 63 (nR X 0 9 (nR X 1 99 (.inr (x_E X q))))))) (by decide) c2
    have run : am_R 166 4 0 [.ref 147, .int (cond b 1 0), am_u] [] (am_hp g N sw lv I L) = am_R 166 4 83 [.ref 147, .int (cond b 1 0), .int (Int32.ofNat (8 + q_n Q))] [.int (Int32.ofNat (nV X 0 63 (nR X 0 9 (nR X 1 99 (.inr (x_E X q)))))), .int (Int32.ofNat (8 + q_n Q)), .ref 155] (am_hp g N sw lv I3 L) := by
      rw [y_Mo_sayHead_0 _, hd.1, d8, d_f e8, y_Mo_sayHead_16 _, d_t hG.2.1, z1, am_bd_ok, am_tn, y_Mo_sayHead_28 _, n0, i16, cond_true, t16]
      refine Eq.trans (congrArg (fun z => am_bd z _ _) a1) ?_
      rw [am_bd_ok, am_tl, y_Mo_sayHead_57 _ _ _ _, i16, cond_true, t16]
      refine Eq.trans (congrArg (fun z => am_bd z _ _) b1) ?_
      rw [am_bd_ok, am_tl, y_Mo_sayHead_70 _ _ _ _, i16, cond_true, t16]
      refine Eq.trans (congrArg (fun z => am_bd z _ _) c1) ?_
      rw [am_bd_ok, am_tl]
    have fK3 : fK I (am_up I3 155 (upd (I3 155) (8 + q_n Q) (Int32.ofNat (nV X 0 63 (nR X 0 9 (nR X 1 99 (.inr (x_E X q)))))))) := fK_tr (fK_fD z3) (fK_tr (fK_up (a := 152) (by decide) (by omega)) (fK_tr (fK_fD a3) (fK_tr (fK_up (a := 153) (by decide) (by omega)) (fK_tr (fK_fD b3) (fK_tr (fK_up (a := 154) (by decide) (by omega)) (fK_tr (fK_fD c3) (fK_up (a := 155) (by decide) (by omega))))))))
    obtain ⟨I4, d1, d2, d3, d4⟩ : ∃ I4, am_R 166 4 83 [.ref 147, .int (cond b 1 0), .int (Int32.ofNat (8 + q_n Q))] [.int (Int32.ofNat (nV X 0 63 (nR X 0 9 (nR X 1 99 (.inr (x_E X q)))))), .int (Int32.ofNat (8 + q_n Q)), .ref 155] (am_hp g N sw lv I3 L) = some (.inl none, (am_hp g N sw lv (am_up (am_up I4 156 (upd (I4 156) (8 + q_n Q) (Int32.ofNat (cond b (nV X 0 63 (nR X 0 63 (nR X 0 9 (nR X 1 99 (.inr (x_E X q)))))) (nV X 0 63 (nR X 0 9 (nR X 1 99 (.inr (x_E X q))))))))) 151 (upd (I4 151) 4 (I4 151 4 + 1))) L)) ∧ stM X w (k_of (q_l Q w)) (cond b (nR X 0 63 (nR X 0 63 (nR X 0 9 (nR X 1 99 (.inr (x_E X q)))))) (nR X 0 63 (nR X 0 9 (nR X 1 99 (.inr (x_E X q)))))) I4 ∧ fDm w (am_up I3 155 (upd (I3 155) (8 + q_n Q) (Int32.ofNat (nV X 0 63 (nR X 0 9 (nR X 1 99 (.inr (x_E X q)))))))) I4 ∧ sO I4 := by
      cases b with
      | false =>
        refine ⟨(am_up I3 155 (upd (I3 155) (8 + q_n Q) (Int32.ofNat (nV X 0 63 (nR X 0 9 (nR X 1 99 (.inr (x_E X q)))))))), ?_, s3, fDm_rfl, sO_up (by decide) c4⟩
        rw [y_Mo_sayHead_83 _ _ _ _, i16, cond_true, d_f (by decide), cond_true, cond_true, t16, upd_same]
        rfl
      | true =>
        obtain ⟨I4, e1, e2, e3, e4⟩ := M_nE (g := g) (N := N) (sw := sw) (lv := lv) (L := L) hx (sO_up (a := 155) (i := 8 + q_n Q) (x := (Int32.ofNat (nV X 0 63 (nR X 0 9 (nR X 1 99 (.inr (x_E X q))))))) (by decide) c4) g3 s3 (lo := 0) (hi := 63) (by decide) (by decide)
        refine ⟨I4, ?_, e2, e3, e4⟩
        rw [y_Mo_sayHead_83 _ _ _ _, i16, cond_true, d_t (show (cond true 1 0 : Int32) = 1 from rfl), t16]
        refine Eq.trans (congrArg (fun z => am_bd z _ _) e1) ?_
        rw [am_bd_ok, am_tl, y_Mo_sayHead_101 _ _ _ _, i16, cond_true, t16]
        rfl
    have e151 : ∀ j, j ≠ cond w 7 6 → I4 151 j = I 151 j := fun j p => by
      rw [d3.2.2.1 j p, up_ne (by decide), c3.2.2.1 j p, up_ne (by decide), b3.2.2.1 j p, up_ne (by decide), a3.2.2.1 j p, up_ne (by decide), z3.2.2.1 j p]
    have t152 : I4 152 = upd (I 152) (8 + q_n Q) (cond b 1 0) := by
      rw [fD_t d3 (by decide), up_ne (by decide), fD_t c3 (by decide), up_ne (by decide), fD_t b3 (by decide), up_ne (by decide), fD_t a3 (by decide), up_same, fD_t z3 (by decide)]
    have t153 : I4 153 = upd (I 153) (8 + q_n Q) (Int32.ofNat (nV X 1 99 (.inr (x_E X q)))) := by
      rw [fD_t d3 (by decide), up_ne (by decide), fD_t c3 (by decide), up_ne (by decide), fD_t b3 (by decide), up_same, fD_t a3 (by decide), up_ne (by decide), fD_t z3 (by decide)]
    have t154 : I4 154 = upd (I 154) (8 + q_n Q) (Int32.ofNat (nV X 0 9 (nR X 1 99 (.inr (x_E X q))))) := by
      rw [fD_t d3 (by decide), up_ne (by decide), fD_t c3 (by decide), up_same, fD_t b3 (by decide), up_ne (by decide), fD_t a3 (by decide), up_ne (by decide), fD_t z3 (by decide)]
    have t155 : I4 155 = upd (I 155) (8 + q_n Q) (Int32.ofNat (nV X 0 63 (nR X 0 9 (nR X 1 99 (.inr (x_E X q)))))) := by
      rw [fD_t d3 (by decide), up_same, fD_t c3 (by decide), up_ne (by decide), fD_t b3 (by decide), up_ne (by decide), fD_t a3 (by decide), up_ne (by decide), fD_t z3 (by decide)]
    have t156 : I4 156 = I 156 := by
      rw [fD_t d3 (by decide), up_ne (by decide), fD_t c3 (by decide), up_ne (by decide), fD_t b3 (by decide), up_ne (by decide), fD_t a3 (by decide), up_ne (by decide), fD_t z3 (by decide)]
    have t157 : I4 157 = I 157 := by
      rw [fD_t d3 (by decide), up_ne (by decide), fD_t c3 (by decide), up_ne (by decide), fD_t b3 (by decide), up_ne (by decide), fD_t a3 (by decide), up_ne (by decide), fD_t z3 (by decide)]
    have n4 : I4 151 4 + 1 = Int32.ofNat (q_n Q + 1) := by
      rw [e151 4 (by omega), hd.1, nb_s]
    have fK4 : fK I (am_up (am_up I4 156 (upd (I4 156) (8 + q_n Q) (Int32.ofNat (cond b (nV X 0 63 (nR X 0 63 (nR X 0 9 (nR X 1 99 (.inr (x_E X q)))))) (nV X 0 63 (nR X 0 9 (nR X 1 99 (.inr (x_E X q))))))))) 151 (upd (I4 151) 4 (I4 151 4 + 1))) := by
      refine fK_tr fK3 (fK_tr (fK_fD d3) (fK_tr (fK_up (a := 156) (i := 8 + q_n Q) (x := (Int32.ofNat (cond b (nV X 0 63 (nR X 0 63 (nR X 0 9 (nR X 1 99 (.inr (x_E X q)))))) (nV X 0 63 (nR X 0 9 (nR X 1 99 (.inr (x_E X q)))))))) (by decide) (by omega)) ⟨fun a p r => up_ne (by omega), fun j p => by rw [up_ne (by decide)], fun j p => ?_, fun a p r i u => by rw [up_ne (by omega)], fun a p r i u => by rw [up_ne (by omega)]⟩))
      rw [up_same, upd_ne (by omega), up_ne (by decide)]
    refine ⟨_, run.trans d1, fK4, sO_lo hs fun a p => fK4.1 a (by omega) (by omega), ?_⟩
    cases h4 : (cond b (nR X 0 63 (nR X 0 63 (nR X 0 9 (nR X 1 99 (.inr (x_E X q)))))) (nR X 0 63 (nR X 0 9 (nR X 1 99 (.inr (x_E X q)))))) with
    | inl fp =>
      rw [h4] at d2
      have d2' : mF fp.1 fp.2 I4 := d2
      exact ⟨by rw [up_ne (by decide), up_ne (by decide)]; exact d2'.1, by rw [up_ne (by decide), up_ne (by decide)]; exact d2'.2⟩
    | inr q4 =>
      rw [h4] at d2
      have d2' : mG X w q4 (k_of (q_l Q w)) I4 := d2
      obtain ⟨a1', a2', a3', a4', a5'⟩ := hd
      have hm : q_m Q < 256 := Nat.lt_of_lt_of_le hQ.2.1 (Nat.pow_le_pow_right (by decide) h8 : 2 ^ q_n Q ≤ 2 ^ 8)
      have tb := tb_or (q_m Q) hm (q_n Q) (by omega) hQ.2.1 b
      refine ⟨w, ⟨mT_fr d2'.1 (fun j _ _ => by rw [up_ne (by decide), up_ne (by decide)]) (by rw [up_ne (by decide), up_ne (by decide)]), by rw [up_ne (by decide), up_ne (by decide)]; exact d2'.2.1, by rw [up_ne (by decide), up_ne (by decide)]; exact d2'.2.2.1, ?_, ?_⟩, ⟨?_, ?_, fun i hi => ?_, ?_, fun w' => ⟨?_, ?_⟩⟩⟩
      · rw [up_same, upd_ne (by omega)]
        exact d2'.2.2.2.1
      · rw [up_ne (by omega), up_ne (by omega)]
        exact d2'.2.2.2.2
      · rw [up_same, upd_same, n4]
        rfl
      · rw [up_same, upd_ne (by decide), e151 5 (by omega)]
        exact a2'
      · have hi2 : i < q_n Q + 1 := hi
        rw [up_ne (by decide), up_ne (by decide), up_ne (by decide), up_ne (by decide), up_ne (by decide), up_ne (by decide), up_ne (by decide), up_ne (by decide), up_ne (by decide), up_same, t152, t153, t154, t155, t156]
        show _ = cond ((cond b (q_m Q ||| 2 ^ q_n Q) (q_m Q)).testBit i) 1 0 ∧ _ = Int32.ofNat (if i = q_n Q then _ else q_h Q i).1 ∧ _ = Int32.ofNat (if i = q_n Q then _ else q_h Q i).2.1 ∧ _ = Int32.ofNat (if i = q_n Q then _ else q_h Q i).2.2.1 ∧ _ = Int32.ofNat (if i = q_n Q then _ else q_h Q i).2.2.2
        rw [tb i (by omega)]
        by_cases ei : i = q_n Q
        · rw [if_pos ei, if_pos ei, ei, upd_same, upd_same, upd_same, upd_same, upd_same]
          exact ⟨rfl, rfl, rfl, rfl, rfl⟩
        · rw [if_neg ei, if_neg ei, upd_ne (by omega), upd_ne (by omega), upd_ne (by omega), upd_ne (by omega), upd_ne (by omega)]
          exact a3' i (by omega)
      · rw [up_ne (by decide), up_ne (by decide), t157]
        exact a4'
      · obtain ⟨w3, w4⟩ := w158 w'
        rw [up_same, upd_ne (by omega)]
        by_cases ew : w' = w
        · subst ew
          exact d2'.2.2.2.1
        · rw [e151 _ (by cases w <;> cases w' <;> first | decide | exact absurd rfl ew)]
          exact (a5' w').1
      · obtain ⟨w3, w4⟩ := w158 w'
        rw [up_ne (by omega), up_ne (by omega)]
        by_cases ew : w' = w
        · subst ew
          exact d2'.2.2.2.2
        · have n2 : (cond w' 159 158 : Nat) ≠ cond w 159 158 := by cases w <;> cases w' <;> first | decide | exact absurd rfl ew
          rw [d3.1 _ (by omega) (by omega) n2, up_ne (by omega), c3.1 _ (by omega) (by omega) n2, up_ne (by omega), b3.1 _ (by omega) (by omega) n2, up_ne (by omega), a3.1 _ (by omega) (by omega) n2, up_ne (by omega), z3.1 _ (by omega) (by omega) n2]
          exact (a5' w').2
end MHEAD
