/-! LINES: before the sign, good -/
section GK
variable {X : x_X} {q : Nat} {Q : s_Q}
theorem gK_H (hq : q ≤ X.1) (b : Bool) : gK X (lHp X Q b q) := by
  obtain ⟨g4, -⟩ := lH_g hq b
  unfold lHp
  by_cases e8 : q_n Q = 8
  · rw [d_t e8]
    exact ⟨by show 0 < 2; decide, by show 2 < 100; decide⟩
  · rw [d_f e8]
    cases h4 : (cond b (nR X 0 63 (nR X 0 63 (nR X 0 9 (nR X 1 99 (.inr (x_E X q)))))) (nR X 0 63 (nR X 0 9 (nR X 1 99 (.inr (x_E X q)))))) with
    | inl fp =>
      rw [h4] at g4
      exact ⟨g4.1, g4.2.1⟩
    | inr q4 =>
      rw [h4] at g4
      exact g4
theorem gK_T (hq : q ≤ X.1) : gK X (lTq X Q q) := by
  have hE := x_E_le hq
  have hE2 := x_E_le (X := X) hE.2.1
  unfold lTq
  by_cases e1 : nf X (x_E X q) 0 9 = 0
  · rw [d_t e1]
    have hg := hL_g 7 1 (fun i => if i = 0 then x_N X (x_E X q) else 0) (x_E X (x_E X q)) hE2.2.1 (fun j hj => by
      show (if j = 0 then x_N X (x_E X q) else 0) ≤ 9
      rw [if_pos (by omega)]
      exact (nf_0 e1).2.2)
    cases hh : hL X 7 1 (fun i => if i = 0 then x_N X (x_E X q) else 0) (x_E X (x_E X q)) with
    | inl fp =>
      rw [hh] at hg
      exact ⟨hg.1, hg.2.1⟩
    | inr y =>
      rw [hh] at hg
      exact hg.2.1
  · rw [d_f e1]
    refine ⟨?_, ?_⟩
    · show 0 < nf X (x_E X q) 0 9
      omega
    · show nf X (x_E X q) 0 9 < 100
      rcases nf_n e1 with z | z <;> omega
theorem gK_U {w : Bool} {m : Nat} {r : p_R} (hg : gd X w (x_E X q) m 0 r) : gK X (lUp Q w r) := by
  cases r with
  | inl fp => exact ⟨hg.1, hg.2.1⟩
  | inr y => exact hg.2.1
end GK
