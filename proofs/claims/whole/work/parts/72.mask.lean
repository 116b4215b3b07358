/-! LINES: the mask of the new draft -/
section MASK
variable {X : x_X} {q c : Nat} {Q : s_Q}
theorem sgL_i {r : p_L} {y : Nat × s_Q} (h : sgL X c r = .inr y) : ∃ z, r = .inr z ∧ y.2 = z.2 := by
  cases r with
  | inl fp =>
    have h' : (Sum.inl fp : p_L) = .inr y := h
    cases h'
  | inr z =>
    refine ⟨z, rfl, ?_⟩
    have h' : cond (decide (x_K X z.1 = c)) (.inr (x_E X z.1, z.2)) (.inl (1, x_S X z.1)) = (.inr y : p_L) := h
    by_cases e : x_K X z.1 = c
    · rw [d_t e] at h'
      cases h'
      rfl
    · rw [d_f e] at h'
      cases h'
theorem lH_k {b : Bool} {y : Nat × s_Q} (h : lH X Q b q = .inr y) : q_k y.2 = q_k Q := by
  rw [lH_s] at h
  obtain ⟨z, h1, h2⟩ := sgL_i h
  unfold lHp at h1
  by_cases e8 : q_n Q = 8
  · rw [d_t e8] at h1
    cases h1
  · rw [d_f e8] at h1
    revert h1
    generalize (cond b (nR X 0 63 (nR X 0 63 (nR X 0 9 (nR X 1 99 (.inr (x_E X q)))))) (nR X 0 63 (nR X 0 9 (nR X 1 99 (.inr (x_E X q)))))) = r
    intro h1
    cases r with
    | inl fp =>
      have h' : (Sum.inl fp : p_L) = .inr z := h1
      cases h'
    | inr q4 =>
      have h' : (Sum.inr (q4, q_add Q b _) : p_L) = .inr z := h1
      cases h'
      rw [h2]
      rfl
theorem lT_k (hq : q ≤ X.1) {y : Nat × s_Q} (h : lT X Q q = .inr y) : q_k y.2 = q_k Q ||| 1 := by
  have hE := x_E_le hq
  have hE2 := x_E_le (X := X) hE.2.1
  unfold lT at h
  by_cases e0 : 0 < q_c Q
  · rw [d_t e0] at h
    cases h
  · rw [d_f e0] at h
    by_cases e1 : nf X (x_E X q) 0 9 = 0
    · rw [d_t e1, lT2_s] at h
      obtain ⟨z, h1, h2⟩ := sgL_i h
      have hg := hL_g 7 1 (fun i => if i = 0 then x_N X (x_E X q) else 0) (x_E X (x_E X q)) hE2.2.1 (fun j hj => by
        show (if j = 0 then x_N X (x_E X q) else 0) ≤ 9
        rw [if_pos (by omega)]
        exact (nf_0 e1).2.2)
      revert h1 hg
      generalize hL X 7 1 (fun i => if i = 0 then x_N X (x_E X q) else 0) (x_E X (x_E X q)) = r
      intro h1 hg
      cases r with
      | inl fp =>
        have h' : (Sum.inl fp : p_L) = .inr z := h1
        cases h'
      | inr u =>
        have h' : (Sum.inr (u.1, (Q.1, (u.2.1, u.2.2), Q.2.2)) : p_L) = .inr z := h1
        cases h'
        rw [h2]
        have hu : 1 ≤ u.2.1 := hg.2.2.1
        show cond (decide (0 < u.2.1)) 1 0 ||| (cond (q_r Q false).isSome 2 0 ||| cond (q_r Q true).isSome 4 0) = (cond (decide (0 < q_c Q)) 1 0 ||| (cond (q_r Q false).isSome 2 0 ||| cond (q_r Q true).isSome 4 0)) ||| (1 : Int32)
        rw [decide_eq_true (show 0 < u.2.1 by omega), decide_eq_false e0]
        cases (q_r Q false).isSome <;> cases (q_r Q true).isSome <;> decide
    · rw [d_f e1] at h
      cases h
theorem lU_k {w : Bool} {r : p_R} {y : Nat × s_Q} (h : lU X Q w r q = .inr y) : q_k y.2 = q_k Q ||| cond w 4 2 := by
  unfold lU at h
  cases e : (q_r Q w).isSome with
  | true =>
    rw [e] at h
    cases h
  | false =>
    rw [e, cond_false, lU2_s] at h
    obtain ⟨z, h1, h2⟩ := sgL_i h
    cases r with
    | inl fp =>
      have h' : (Sum.inl fp : p_L) = .inr z := h1
      cases h'
    | inr u =>
      have h' : (Sum.inr (u.1, q_set Q w u.2) : p_L) = .inr z := h1
      cases h'
      rw [h2]
      unfold q_k
      cases w with
      | true =>
        show cond (decide (0 < q_c Q)) 1 0 ||| (cond (q_r Q false).isSome 2 0 ||| 4) = (cond (decide (0 < q_c Q)) 1 0 ||| (cond (q_r Q false).isSome 2 0 ||| cond (q_r Q true).isSome 4 0)) ||| (4 : Int32)
        rw [e]
        cases decide (0 < q_c Q) <;> cases (q_r Q false).isSome <;> decide
      | false =>
        show cond (decide (0 < q_c Q)) 1 0 ||| (2 ||| cond (q_r Q true).isSome 4 0) = (cond (decide (0 < q_c Q)) 1 0 ||| (cond (q_r Q false).isSome 2 0 ||| cond (q_r Q true).isSome 4 0)) ||| (2 : Int32)
        rw [e]
        cases decide (0 < q_c Q) <;> cases (q_r Q true).isSome <;> decide
theorem lAny_k (hq : q ≤ X.1) {ra rb : p_R} {y : Nat × s_Q} (h : lAny X Q q ra rb = .inr y) : q_k y.2 = q_k Q ||| lB X q := by
  unfold lAny at h
  unfold lB
  cases e1 : wd (st_l 18) X q with
  | true =>
    rw [wd_x e1 (by decide : st_l 18 ≠ st_l 26), wd_x e1 (by decide : st_l 18 ≠ st_l 36), wd_x e1 (by decide : st_l 18 ≠ st_l 38)]
    rw [e1] at h
    rw [lH_k h]
    exact Int32.or_zero.symm
  | false =>
    rw [e1, cond_false] at h
    cases e2 : wd (st_l 20) X q with
    | true =>
      rw [wd_x e2 (by decide : st_l 20 ≠ st_l 26), wd_x e2 (by decide : st_l 20 ≠ st_l 36), wd_x e2 (by decide : st_l 20 ≠ st_l 38)]
      rw [e2] at h
      rw [lH_k h]
      exact Int32.or_zero.symm
    | false =>
      rw [e2, cond_false] at h
      cases e3 : wd (st_l 26) X q with
      | true =>
        rw [e3] at h
        exact lT_k hq h
      | false =>
        rw [e3, cond_false] at h
        cases e4 : wd (st_l 36) X q with
        | true =>
          rw [e4] at h
          exact lU_k h
        | false =>
          rw [e4, cond_false] at h
          cases e5 : wd (st_l 38) X q with
          | true =>
            rw [e5] at h
            exact lU_k h
          | false =>
            rw [e5] at h
            cases h
end MASK
