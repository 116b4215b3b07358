/-! LINES: what a line leaves is good -/
def lG (X : x_X) (q : Nat) (r : p_L) : Prop := match r with
  | .inl fp => 0 < fp.1 ∧ fp.1 < 100 ∧ fp.2 ≤ X.1
  | .inr y => x_E X q ≤ y.1 ∧ y.1 ≤ X.1 ∧ gQ y.2
theorem nR_i {X : x_X} {lo hi q : Nat} {r : p_E} (h : nR X lo hi r = .inr q) : ∃ q0, r = .inr q0 := by
  cases r with
  | inl fp => cases h
  | inr q0 => exact ⟨q0, rfl⟩
theorem sR_i {X : x_X} {c q : Nat} {r : p_E} (h : sR X c r = .inr q) : ∃ q0, r = .inr q0 := by
  cases r with
  | inl fp => cases h
  | inr q0 => exact ⟨q0, rfl⟩
section LGOOD
variable {X : x_X} {q : Nat} {Q : s_Q}
theorem gQ_add {b : Bool} {h : s_H} (hQ : gQ Q) (h8 : q_n Q ≠ 8) (hh : gH_ h) : gQ (q_add Q b h) := by
  obtain ⟨a1, a2, a3, a4, a5⟩ := hQ
  have e2 : 2 ^ (q_n Q + 1) = 2 ^ q_n Q * 2 := Nat.pow_succ ..
  have hp : 0 < 2 ^ q_n Q := Nat.pow_pos (by decide)
  refine ⟨by show q_n Q + 1 ≤ 8; omega, ?_, fun i hi => ?_, a4, a5⟩
  · show cond b (q_m Q ||| 2 ^ q_n Q) (q_m Q) < 2 ^ (q_n Q + 1)
    cases b with
    | true => exact Nat.or_lt_two_pow (by omega) (by omega)
    | false => exact (by omega : q_m Q < 2 ^ (q_n Q + 1))
  · have hi2 : i < q_n Q + 1 := hi
    show gH_ (if i = q_n Q then h else q_h Q i)
    by_cases e : i = q_n Q
    · rw [if_pos e]
      exact hh
    · rw [if_neg e]
      exact a3 i (by omega)
theorem lH_ok (hq : q ≤ X.1) (hQ : gQ Q) (b : Bool) : lG X q (lH X Q b q) := by
  obtain ⟨g4, m4⟩ := lH_g hq b
  have g5 := gE_s (c := 59) g4
  have m5 := sR_ge (c := 59) g4 m4
  unfold lH
  by_cases e8 : q_n Q = 8
  · rw [d_t e8]
    exact ⟨by show 0 < 2; decide, by show 2 < 100; decide, (x_S_le hq).2⟩
  · rw [d_f e8]
    cases h5 : sR X 59 (cond b (nR X 0 63 (nR X 0 63 (nR X 0 9 (nR X 1 99 (.inr (x_E X q)))))) (nR X 0 63 (nR X 0 9 (nR X 1 99 (.inr (x_E X q)))))) with
    | inl fp =>
      rw [h5] at g5
      exact g5
    | inr q' =>
      rw [h5] at g5
      obtain ⟨q4, h4⟩ := sR_i h5
      have h3 : ∃ q3, (nR X 0 63 (nR X 0 9 (nR X 1 99 (.inr (x_E X q))))) = .inr q3 := by
        cases b with
        | true => exact nR_i h4
        | false => exact ⟨q4, h4⟩
      obtain ⟨q3, h3⟩ := h3
      obtain ⟨q2, h2⟩ := nR_i h3
      obtain ⟨q1, h1⟩ := nR_i h2
      refine ⟨m5 q' h5, g5, gQ_add hQ e8 ?_⟩
      refine ⟨nV_le.2 q1 h1, ?_, ?_, ?_, ?_⟩
      · show nV X 1 99 (.inr (x_E X q)) ≤ 99
        exact nV_le.1
      · show nV X 0 9 (nR X 1 99 (.inr (x_E X q))) ≤ 9
        exact nV_le.1
      · show nV X 0 63 (nR X 0 9 (nR X 1 99 (.inr (x_E X q)))) ≤ 63
        exact nV_le.1
      · cases b with
        | true =>
          show nV X 0 63 (nR X 0 63 (nR X 0 9 (nR X 1 99 (.inr (x_E X q))))) ≤ 63
          exact nV_le.1
        | false =>
          show nV X 0 63 (nR X 0 9 (nR X 1 99 (.inr (x_E X q)))) ≤ 63
          exact nV_le.1
theorem lT_ok (hq : q ≤ X.1) (hQ : gQ Q) : lG X q (lT X Q q) := by
  have hE := x_E_le hq
  have hE2 := x_E_le (X := X) hE.2.1
  unfold lT
  by_cases e0 : 0 < q_c Q
  · rw [d_t e0]
    exact ⟨by show 0 < 5; decide, by show 5 < 100; decide, (x_S_le hq).2⟩
  · rw [d_f e0]
    by_cases e1 : nf X (x_E X q) 0 9 = 0
    · rw [d_t e1]
      have hg := hL_g 7 1 (fun i => if i = 0 then x_N X (x_E X q) else 0) (x_E X (x_E X q)) hE2.2.1 (fun j hj => by
        show (if j = 0 then x_N X (x_E X q) else 0) ≤ 9
        rw [if_pos (by omega)]
        exact (nf_0 e1).2.2)
      cases hh : hL X 7 1 (fun i => if i = 0 then x_N X (x_E X q) else 0) (x_E X (x_E X q)) with
      | inl fp =>
        rw [hh] at hg
        exact hg
      | inr y =>
        rw [hh] at hg
        obtain ⟨i1, i2, i3, i4, i5⟩ := hg
        have hEy := x_E_le (X := X) i2
        show lG X q (cond (decide (x_K X y.1 = 59)) (.inr (x_E X y.1, (Q.1, (y.2.1, y.2.2), Q.2.2))) (.inl (1, x_S X y.1)))
        by_cases e59 : x_K X y.1 = 59
        · rw [d_t e59]
          exact ⟨by show x_E X q ≤ x_E X y.1; omega, hEy.2.1, hQ.1, hQ.2.1, hQ.2.2.1, ⟨by show y.2.1 ≤ 8; omega, i5⟩, hQ.2.2.2.2⟩
        · rw [d_f e59]
          exact ⟨by show 0 < 1; decide, by show 1 < 100; decide, (x_S_le i2).2⟩
    · rw [d_f e1]
      refine ⟨?_, ?_, (x_S_le hE.2.1).2⟩
      · show 0 < nf X (x_E X q) 0 9
        omega
      · show nf X (x_E X q) 0 9 < 100
        rcases nf_n e1 with z | z <;> omega
theorem lU_ok (hx : x_ok X) (hq : q ≤ X.1) (hQ : gQ Q) {w : Bool} {r : p_R} (hg : gd X w (x_E X q) 31 0 r) : lG X q (lU X Q w r q) := by
  have hn := hx.1
  unfold lU
  cases (q_r Q w).isSome with
  | true => exact ⟨by show 0 < 5; decide, by show 5 < 100; decide, (x_S_le hq).2⟩
  | false =>
    rw [cond_false]
    cases r with
    | inl fp => exact hg
    | inr y =>
      obtain ⟨q2, cs⟩ := y
      obtain ⟨g1, g2, g3, g4⟩ := hg
      dsimp only at g1 g2 g3 g4
      have hEy := x_E_le (X := X) g2
      show lG X q (cond (decide (x_K X q2 = 59)) (.inr (x_E X q2, q_set Q w cs)) (.inl (1, x_S X q2)))
      by_cases e59 : x_K X q2 = 59
      · rw [d_t e59]
        have hcs : 0 < cs.length := by
          cases cs with
          | nil => exact absurd (Option.some.inj g4) (by decide)
          | cons x l => exact Nat.succ_pos _
        refine ⟨by show x_E X q ≤ x_E X q2; omega, hEy.2.1, hQ.1, hQ.2.1, hQ.2.2.1, hQ.2.2.2.1, fun w' cs' e => ?_⟩
        by_cases ew : w' = w
        · subst ew
          rw [(q_set_r Q w' cs).1] at e
          cases e
          exact ⟨g4, hcs, by omega⟩
        · have ew' : w' = !w := by cases w <;> cases w' <;> first | rfl | exact absurd rfl ew
          subst ew'
          rw [(q_set_r Q w cs).2] at e
          exact hQ.2.2.2.2 _ _ e
      · rw [d_f e59]
        exact ⟨by show 0 < 1; decide, by show 1 < 100; decide, (x_S_le g2).2⟩
theorem lAny_ok (hx : x_ok X) (hq : q ≤ X.1) (hQ : gQ Q) {ra rb : p_R} (ga : gd X false (x_E X q) 31 0 ra) (gb : gd X true (x_E X q) 31 0 rb) : lG X q (lAny X Q q ra rb) := by
  unfold lAny
  cases wd (st_l 18) X q with
  | true => exact lH_ok hq hQ false
  | false =>
    cases wd (st_l 20) X q with
    | true => exact lH_ok hq hQ true
    | false =>
      cases wd (st_l 26) X q with
      | true => exact lT_ok hq hQ
      | false =>
        cases wd (st_l 36) X q with
        | true => exact lU_ok hx hq hQ ga
        | false =>
          cases wd (st_l 38) X q with
          | true => exact lU_ok hx hq hQ gb
          | false => exact ⟨by show 0 < 1; decide, by show 1 < 100; decide, (x_S_le hq).2⟩
end LGOOD
