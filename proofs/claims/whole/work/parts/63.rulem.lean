/-! LINES: a rule's line, reference -/
section MRULE
variable {g N : Nat} {sw lv : Bool} {I : Nat → Nat → Int32} {L : Nat → Nat → Int64} {X : x_X} {q : Nat} {Q : s_Q} {w : Bool}
theorem mG_k {k k' : s_K} (h : mG X w q k I) (e1 : k.1 = k'.1) (e2 : ∀ i, i < k.1 → k.2 i = k'.2 i) : mG X w q k' I := by
  refine ⟨h.1, h.2.1, h.2.2.1, ?_, fun i hi => ?_⟩
  · rw [← e1]
    exact h.2.2.2.1
  · rw [← e2 i (by omega)]
    exact h.2.2.2.2 i (by omega)
/-- which rule is read -/
theorem M_flag {I0 : Nat → Nat → Int32} : am_R 154 100 4 [.ref 147, .int (cond w 4 2)] [] (am_hp g N sw lv I0 L) = am_R 154 100 50 [.ref 147, .int (cond w 4 2)] [] (am_hp g N sw w (am_up I0 147 (upd (I0 147) 26 (cond w 1 0))) L) := by
  cases w with
  | true =>
    rw [y_Mo_sayOnce_4 _, d_f (by decide), d_t (show (cond true 4 2 : Int32) = 4 from rfl), upd_same, d_f (by decide)]
    exact congrArg (fun R => am_R 154 100 50 [.ref 147, .int 4] [] ((186, g, 13606 + 6 * g), am_SH N, am_up I0 147 (upd (I0 147) 26 1), L, R)) (RR_lv sw lv true)
  | false =>
    rw [y_Mo_sayOnce_4 _, d_f (by decide), d_f (by decide), upd_same, d_t rfl]
    exact congrArg (fun R => am_R 154 100 50 [.ref 147, .int 2] [] ((186, g, 13606 + 6 * g), am_SH N, am_up I0 147 (upd (I0 147) 26 0), L, R)) (RR_lv sw lv false)
theorem M_rul (hx : x_ok X) (hs : sO I) (hq : q ≤ X.1) (hl : lM X q Q I) (hn : q_r Q w = none) {r : p_R} (hc : mSp X w 157 0 (10 * (7 - 0) + 6 + 20) [.int (Int32.ofNat 0), am_u] (x_E X q) r) : ∃ I', am_R 154 100 0 [.ref 147, .int (cond w 4 2)] [] (am_hp g N sw lv I L) = some (.inl none, am_hp g N sw w I' L) ∧ fK I I' ∧ kE X (lUp Q w r) I' := by
  obtain ⟨w0, hG, hd⟩ := hl
  obtain ⟨w1, w2⟩ := w158 w
  obtain ⟨I0, z1, z2, z3, z4⟩ := M_stp (g := g) (N := N) (sw := sw) (lv := lv) (L := L) hx hs hq hG
  have hd0 := dM_fD hd z3 z2
  obtain ⟨c1, c2, c3, c4, c5⟩ := hd0
  have hl0 : q_l Q w = [] := by
    show (q_r Q w).getD [] = []
    rw [hn]
    rfl
  have r0 := c5 w
  rw [hl0] at r0
  have gJ : mG X w (x_E X q) (k_of []) (am_up I0 147 (upd (I0 147) 26 (cond w 1 0))) := by
    refine ⟨mT_fr z2.1 (fun j p1 p2 => by rw [up_same, upd_ne (by omega)]) (by rw [up_ne (by decide)]), by rw [up_same, upd_ne (by decide)]; exact z2.2.1, by rw [up_same, upd_same], by rw [up_ne (by decide)]; exact r0.1, fun i hi => absurd hi (Nat.not_lt_zero _)⟩
  have sJ : sO (am_up I0 147 (upd (I0 147) 26 (cond w 1 0))) := sO_lo z4 fun a p => up_ne (by omega)
  obtain ⟨I1, a1, a2, a3⟩ := hc g N sw L (am_up I0 147 (upd (I0 147) 26 (cond w 1 0))) (k_of []) sJ gJ (Nat.zero_le _)
  have fJ : fK I (am_up I0 147 (upd (I0 147) 26 (cond w 1 0))) := fK_tr (fK_fD z3) ⟨fun a p _ => up_ne p, fun j p => by rw [up_same, upd_ne (by omega)], fun j p => by rw [up_ne (by decide)], fun a p r i u => by rw [up_ne (by omega)], fun a p r i u => by rw [up_ne (by omega)]⟩
  refine ⟨I1, ?_, fK_tr fJ (fK_fD a2), ?_⟩
  · rw [y_Mo_sayOnce_0 _, z1, am_bd_ok, am_tn, M_flag, y_Mo_sayOnce_50 _]
    refine Eq.trans (congrArg (fun z => am_bd z _ _) a1) ?_
    rw [am_bd_ok, am_tn, y_Mo_sayOnce_55 _]
  · cases r with
    | inl fp => exact a3
    | inr y =>
      obtain ⟨q2, cs⟩ := y
      have a3' : mG X w q2 (kap (k_of []) cs) I1 := a3
      have k1 : (kap (k_of []) cs).1 = cs.length := by
        rw [kap_1]
        show 0 + cs.length = cs.length
        omega
      have g2 : mG X w q2 (k_of cs) I1 := mG_k a3' k1 (fun i hi => by
        have := kap_at cs (k_of []) i (by omega)
        rw [show (k_of []).1 + i = i from Nat.zero_add i] at this
        exact this)
      have hqs : q_l (q_set Q w cs) w = cs := by
        show (q_r (q_set Q w cs) w).getD [] = cs
        rw [(q_set_r Q w cs).1]
        rfl
      refine ⟨w, by rw [hqs]; exact g2, (a2.2.2.1 4 (by omega)).trans (by rw [up_ne (by decide)]; exact c1), (a2.2.2.1 5 (by omega)).trans (by rw [up_ne (by decide)]; exact c2), ?_, ?_, fun w' => ?_⟩
      · rw [fD_t a2 (by decide : 152 ≤ 152 ∧ 152 ≤ 157), fD_t a2 (by decide : 152 ≤ 153 ∧ 153 ≤ 157), fD_t a2 (by decide : 152 ≤ 154 ∧ 154 ≤ 157), fD_t a2 (by decide : 152 ≤ 155 ∧ 155 ≤ 157), fD_t a2 (by decide : 152 ≤ 156 ∧ 156 ≤ 157), up_ne (by decide), up_ne (by decide), up_ne (by decide), up_ne (by decide), up_ne (by decide)]
        exact c3
      · rw [fD_t a2 (by decide : 152 ≤ 157 ∧ 157 ≤ 157), up_ne (by decide)]
        exact c4
      · by_cases ew : w' = w
        · rw [ew]
          rw [hqs]
          exact kMs_mR g2.2.2
        · have ew' : w' = !w := by cases w <;> cases w' <;> first | rfl | exact absurd rfl ew
          have n1 : (cond w' 7 6 : Nat) ≠ cond w 7 6 := by cases w <;> cases w' <;> first | decide | exact absurd rfl ew
          have n2 : (cond w' 159 158 : Nat) ≠ cond w 159 158 := by cases w <;> cases w' <;> first | decide | exact absurd rfl ew
          obtain ⟨w3, w4⟩ := w158 w'
          have e5 : q_l (q_set Q w cs) w' = q_l Q w' := by
            rw [ew']
            show (q_r (q_set Q w cs) (!w)).getD [] = _
            rw [(q_set_r Q w cs).2]
          rw [e5]
          refine ⟨(a2.2.2.1 _ n1).trans (by rw [up_ne (by decide)]; exact (c5 w').1), ?_⟩
          rw [a2.1 (cond w' 159 158) (by omega) (by omega) n2, up_ne (by omega)]
          exact (c5 w').2
end MRULE
