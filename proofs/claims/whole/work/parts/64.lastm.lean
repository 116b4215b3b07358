/-! LINES: any line, reference: its end -/
def gK (X : x_X) (r : p_L) : Prop := match r with
  | .inl fp => 0 < fp.1 ∧ fp.1 < 100
  | .inr y => y.1 ≤ X.1
section MLAST
variable {g N : Nat} {sw lv : Bool} {I : Nat → Nat → Int32} {L : Nat → Nat → Int64} {X : x_X} {r : p_L}
theorem M_end (hx : x_ok X) (hs : sO I) (hg : gK X r) (h : kE X r I) (x1 x2 x3 : Int32) : ∃ I', am_R 150 101 100 [.ref 147, .int x1, .int x2, .int x3] [] (am_hp g N sw lv I L) = some (.inl (some (.int (x1 ||| x3))), (am_hp g N sw lv I' L)) ∧ fK I I' ∧ kE X (sgL X 59 r) I' := by
  have fin : ∀ J, am_R 165 3 0 [.ref 147, .int (Int32.ofNat 59)] [] (am_hp g N sw lv I L) = some (.inl none, (am_hp g N sw lv J L)) → am_R 150 101 100 [.ref 147, .int x1, .int x2, .int x3] [] (am_hp g N sw lv I L) = some (.inl (some (.int (x1 ||| x3))), (am_hp g N sw lv J L)) := fun J hJ => by
    rw [y_Mo_readLine_100 _ _ _]
    refine Eq.trans (congrArg (fun z => am_bd z _ _) hJ) ?_
    rw [am_bd_ok, am_tn, y_Mo_readLine_106 _ _ _]
  cases r with
  | inl fp =>
    have h' : mF fp.1 fp.2 I := h
    exact ⟨I, fin I (M_sgb (mF_ne h' hg.1 hg.2) _), fK_rfl, h⟩
  | inr y =>
    obtain ⟨w, hG, hd⟩ := h
    have hy : y.1 ≤ X.1 := hg
    by_cases e : x_K X y.1 = 59
    · obtain ⟨I1, a1, a2, a3, a4⟩ := M_sg1 (g := g) (N := N) (sw := sw) (lv := lv) (L := L) hx hs hy hG (c := 59) (by decide) (by decide) e
      refine ⟨I1, fin I1 a1, fK_fD a3, ?_⟩
      show kE X (cond (decide (x_K X y.1 = 59)) (.inr (x_E X y.1, y.2)) (.inl (1, x_S X y.1))) I1
      rw [d_t e]
      exact ⟨w, a2, dM_fD hd a3 a2⟩
    · obtain ⟨I1, a1, a2, a3⟩ := M_sg0 (g := g) (N := N) (sw := sw) (lv := lv) (L := L) hx hy hG (c := 59) (by decide) (by decide) e
      refine ⟨I1, fin I1 a1, fK_fD a3, ?_⟩
      show kE X (cond (decide (x_K X y.1 = 59)) (.inr (x_E X y.1, y.2)) (.inl (1, x_S X y.1))) I1
      rw [d_f e]
      exact a2
theorem sO_fK {I' : Nat → Nat → Int32} (h : fK I I') (hs : sO I) : sO I' := sO_lo hs fun a p => h.1 a (by omega) (by omega)
end MLAST
/-- what has been given -/
def q_k (Q : s_Q) : Int32 := cond (decide (0 < q_c Q)) 1 0 ||| (cond (q_r Q false).isSome 2 0 ||| cond (q_r Q true).isSome 4 0)
theorem q_k_and (Q : s_Q) : decide (1 &&& q_k Q = 0) = !decide (0 < q_c Q) ∧ decide (2 &&& q_k Q = 0) = !(q_r Q false).isSome ∧ decide (4 &&& q_k Q = 0) = !(q_r Q true).isSome := by
  unfold q_k
  cases decide (0 < q_c Q) <;> cases (q_r Q false).isSome <;> cases (q_r Q true).isSome <;> decide
