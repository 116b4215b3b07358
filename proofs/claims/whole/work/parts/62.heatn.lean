/-! LINES: the heat's line, reference -/
def lTq (X : x_X) (Q : s_Q) (q : Nat) : p_L := cond (decide (nf X (x_E X q) 0 9 = 0)) (lTp Q (hL X 7 1 (fun i => if i = 0 then x_N X (x_E X q) else 0) (x_E X (x_E X q)))) (.inl (nf X (x_E X q) 0 9, x_S X (x_E X q)))
theorem lT_s (X : x_X) (Q : s_Q) (q : Nat) : lT X Q q = cond (decide (0 < q_c Q)) (.inl (5, x_S X q)) (sgL X 59 (lTq X Q q)) := by
  unfold lT lTq
  by_cases e : nf X (x_E X q) 0 9 = 0
  · rw [d_t e, d_t e, lT2_s]
  · rw [d_f e, d_f e]
    rfl
section MHEATL
variable {g N : Nat} {sw lv : Bool} {I : Nat → Nat → Int32} {L : Nat → Nat → Int64} {X : x_X} {q : Nat} {Q : s_Q}
theorem M_hts (hx : x_ok X) (hs : sO I) (hq : q ≤ X.1) (hl : lM X q Q I) : ∃ I', am_R 154 100 0 [.ref 147, .int 1] [] (am_hp g N sw lv I L) = some (.inl none, (am_hp g N sw lv I' L)) ∧ fK I I' ∧ kE X (lTq X Q q) I' := by
  obtain ⟨w, hG, hd⟩ := hl
  obtain ⟨w1, w2⟩ := w158 w
  have hE := x_E_le hq
  obtain ⟨I0, z1, z2, z3, z4⟩ := M_stp (g := g) (N := N) (sw := sw) (lv := lv) (L := L) hx hs hq hG
  have st : ∀ J, am_R 155 4 0 [.ref 147, am_u, am_u] [] (am_hp g N sw lv I0 L) = some (.inl none, (am_hp g N sw lv J L)) → am_R 154 100 0 [.ref 147, .int 1] [] (am_hp g N sw lv I L) = some (.inl none, (am_hp g N sw lv J L)) := fun J h => by
    rw [y_Mo_sayOnce_0 _, z1, am_bd_ok, am_tn, y_Mo_sayOnce_4 _, d_t rfl, h, am_bd_ok, am_tn, y_Mo_sayOnce_13 _]
  unfold lTq
  by_cases e2 : x_K X (x_E X q) = 2
  · obtain ⟨I1, a1, a2, a3⟩ := M_htl (g := g) (N := N) (sw := sw) (lv := lv) (L := L) hx 8 0 (fun _ => 0) (x_E X q) I0 am_u rfl hE.2.1 z4 z2 (fun j hj => absurd hj (Nat.not_lt_zero _))
    have fr := fW_tr (fW_fD z3) a2
    refine ⟨I1, st I1 ?_, fr.1, ?_⟩
    · rw [y_Mo_sayHeats_0, d_t z2.2.1, z2.1.2.2.2.1, (mk_1 _).2, d_t e2]
      exact a1
    · by_cases e0 : nf X (x_E X q) 0 9 = 0
      · rw [d_t e0]
        unfold hL at a3
        rw [d_t e2, d_t e0] at a3
        cases hh : (hL X 7 1 (fun i => if i = 0 then x_N X (x_E X q) else 0) (x_E X (x_E X q))) with
        | inl fp =>
          rw [hh] at a3
          exact a3
        | inr y =>
          rw [hh] at a3
          obtain ⟨b1, b2, b3⟩ := a3
          obtain ⟨c1, c2, c3, c4, c5⟩ := hd
          refine ⟨w, b1, (fr.2.2.1 4 (by decide) (by omega)).trans c1, b2, ?_, b3, fun w' => ?_⟩
          · rw [fr.2.1 152 (by decide) (by decide), fr.2.1 153 (by decide) (by decide), fr.2.1 154 (by decide) (by decide), fr.2.1 155 (by decide) (by decide), fr.2.1 156 (by decide) (by decide)]
            exact c3
          · by_cases ew : w' = w
            · rw [ew]
              exact kMs_mR b1.2.2
            · have n1 : (cond w' 7 6 : Nat) ≠ cond w 7 6 := by cases w <;> cases w' <;> first | decide | exact absurd rfl ew
              have n2 : (cond w' 159 158 : Nat) ≠ cond w 159 158 := by cases w <;> cases w' <;> first | decide | exact absurd rfl ew
              obtain ⟨w3, w4⟩ := w158 w'
              refine ⟨(fr.2.2.1 _ (by omega) n1).trans (c5 w').1, ?_⟩
              rw [fr.2.2.2 (cond w' 159 158) (by omega) (by omega) n2]
              exact (c5 w').2
      · rw [d_f e0]
        unfold hL at a3
        rw [d_t e2, d_f e0] at a3
        have n2 : nf X (x_E X q) 0 9 = 2 := by
          rcases nf_n e0 with z | z
          · exact absurd e2 z.1
          · exact z.2.1
        rw [n2]
        exact a3
  · have e0 : nf X (x_E X q) 0 9 = 1 := by
      unfold nf
      rw [d_f e2]
    rw [e0, d_f (by decide)]
    obtain ⟨f1, f2⟩ := M_fail z2 1
    have hb := mF_ne f1 (by decide) (by decide)
    refine ⟨_, st _ ?_, fK_tr (fK_fD z3) (fK_tr (fK_fD f2) (fW_5 (w := w) (x := 0)).1), ⟨by rw [up_ne (by decide)]; exact f1.1, by rw [up_ne (by decide)]; exact f1.2⟩⟩
    rw [y_Mo_sayHeats_0, d_t z2.2.1, z2.1.2.2.2.1, (mk_1 _).2, d_f e2, d_t z2.2.1]
    refine Eq.trans (y_Mo_sayHeats_22 (I := (am_up (am_up I0 147 (upd (I0 147) 23 (Int32.ofNat 1))) 147 (upd (upd (I0 147) 23 (Int32.ofNat 1)) 24 ((upd (I0 147) 23 (Int32.ofNat 1)) 21)))) _ _) ?_
    rw [d_f hb, y_Mo_sayHeats_80 _ _]
end MHEATL
