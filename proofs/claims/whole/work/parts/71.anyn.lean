/-! LINES: any line, reference, together -/
section MLN
variable {g N : Nat} {sw lv : Bool} {I : Nat → Nat → Int32} {L : Nat → Nat → Int64} {X : x_X} {q : Nat} {Q : s_Q}
theorem M_line (hx : x_ok X) (hs : sO I) (hq : q ≤ X.1) (hQ : gQ Q) (hl : lM X q Q I) {ra rb : p_R} (ga : gd X false (x_E X q) 31 0 ra) (gb : gd X true (x_E X q) 31 0 rb) (ca : mSp X false 157 0 (10 * (7 - 0) + 6 + 20) [.int (Int32.ofNat 0), am_u] (x_E X q) ra) (cb : mSp X true 157 0 (10 * (7 - 0) + 6 + 20) [.int (Int32.ofNat 0), am_u] (x_E X q) rb) : ∃ I' lv', am_R 150 101 0 [.ref 147, .int (q_k Q), am_u, am_u] [] (am_hp g N sw lv I L) = some (.inl (some (.int (q_k Q ||| lB X q))), am_hp g N sw lv' I' L) ∧ fK I I' ∧ kE X (lAny X Q q ra rb) I' := by
  unfold lAny lB
  cases e1 : wd (st_l 18) X q with
  | true =>
    rw [wd_x e1 (by decide : st_l 18 ≠ st_l 26), wd_x e1 (by decide : st_l 18 ≠ st_l 36), wd_x e1 (by decide : st_l 18 ≠ st_l 38)]
    obtain ⟨I', a1, a2, a3⟩ := M_lh (g := g) (N := N) (sw := sw) (lv := lv) (L := L) hx hs hq hQ hl false e1 (q_k Q)
    exact ⟨I', lv, a1, a2, a3⟩
  | false =>
    cases e2 : wd (st_l 20) X q with
    | true =>
      rw [wd_x e2 (by decide : st_l 20 ≠ st_l 26), wd_x e2 (by decide : st_l 20 ≠ st_l 36), wd_x e2 (by decide : st_l 20 ≠ st_l 38)]
      obtain ⟨I', a1, a2, a3⟩ := M_lh (g := g) (N := N) (sw := sw) (lv := lv) (L := L) hx hs hq hQ hl true e2 (q_k Q)
      exact ⟨I', lv, a1, a2, a3⟩
    | false =>
      cases e3 : wd (st_l 26) X q with
      | true =>
        obtain ⟨I', a1, a2, a3⟩ := M_lt (g := g) (N := N) (sw := sw) (lv := lv) (L := L) hx hs hq hl e3
        exact ⟨I', lv, a1, a2, a3⟩
      | false =>
        cases e4 : wd (st_l 36) X q with
        | true => exact M_lu0 hx hs hq hl e4 ga ca
        | false =>
          cases e5 : wd (st_l 38) X q with
          | true => exact M_lu1 hx hs hq hl e5 gb cb
          | false =>
            obtain ⟨I', a1, a2, a3⟩ := M_lz (g := g) (N := N) (sw := sw) (lv := lv) (L := L) hx hs hq hl e1 e2 e3 e4 e5 (q_k Q)
            exact ⟨I', lv, a1, a2, a3⟩
end MLN
