section HEAD2
variable {g N : Nat} {sw lv : Bool} {I : Nat → Nat → Int32} {L : Nat → Nat → Int64} {X : x_X} {rc q : Nat} {Q : s_Q} {w : Bool}
theorem mb_or : ∀ m, m < 256 → ∀ n, n < 8 → Int32.ofNat m ||| ((1 : Int32) <<< (Int32.ofNat n &&& 31)) = Int32.ofNat (m ||| 2 ^ n) ∧ Int32.ofNat m ||| ((0 : Int32) <<< (Int32.ofNat n &&& 31)) = Int32.ofNat m := by decide +kernel
/-- the class adds a head -/
theorem C_addh (hr : am_isc rc) (hq : gQ Q) (hl : lC X rc q Q I) (hn8 : q_n Q ≠ 8) (b : Bool) (h : s_H) : ∃ I', am_R 66 10 72 [.ref 76, .ref rc, .int (cond b 1 0), .int (Int32.ofNat h.1), .int (Int32.ofNat h.2.1), .int (Int32.ofNat h.2.2.1), .int (Int32.ofNat h.2.2.2)] [] (am_hp g N sw lv I L) = some (.inl none, am_hp g N sw lv I' L) ∧ fL rc I I' ∧ lC X rc q (q_add Q b h) I' := by
  obtain ⟨k, hk, hG, hH, hR⟩ := hl
  have h8 := hq.1
  have hm : q_m Q < 256 := Nat.lt_of_lt_of_le hq.2.1 (Nat.pow_le_pow_right (by decide) h8 : 2 ^ q_n Q ≤ 2 ^ 8)
  obtain ⟨o1, o2⟩ := mb_or (q_m Q) hm (q_n Q) (by omega)
  have hrn : rc ≠ 76 ∧ rc ≠ 77 ∧ rc ≠ 78 := by rcases hr with rfl | rfl <;> decide
  have hrn2 : ∀ m, m ≤ 8 → rc + m ≠ 76 ∧ rc + m ≠ 77 ∧ rc + m ≠ 78 := fun m p => by rcases hr with rfl | rfl <;> omega
  obtain ⟨a1, a2, a3, a4, a5⟩ := hH
  have e : am_R 66 10 72 [.ref 76, .ref rc, .int (cond b 1 0), .int (Int32.ofNat h.1), .int (Int32.ofNat h.2.1), .int (Int32.ofNat h.2.2.1), .int (Int32.ofNat h.2.2.2)] [] (am_hp g N sw lv I L) = some (.inl none, am_hp g N sw lv (am_up (am_up (am_up (am_up (am_up (am_up I (rc + 1) (upd (I (rc + 1)) (q_n Q) (Int32.ofNat h.1))) (rc + 2) (upd (I (rc + 2)) (q_n Q) (Int32.ofNat h.2.1))) (rc + 3) (upd (I (rc + 3)) (q_n Q) (Int32.ofNat h.2.2.1))) (rc + 4) (upd (I (rc + 4)) (q_n Q) (Int32.ofNat h.2.2.2))) rc (upd (I rc) 1 (Int32.ofNat (q_m (q_add Q b h))))) rc (upd (upd (I rc) 1 (Int32.ofNat (q_m (q_add Q b h)))) 0 (Int32.ofNat (q_n Q + 1)))) L) := by
    rw [y_Rd_readHead_72 _ _ _ _ _ hr, d_t hG.2.1, a1, show decide (Int32.ofNat (q_n Q) < 8) = decide (q_n Q < 8) from nb_dlt (b := 8) (by omega) (by decide), d_t (by omega), nb_inb (by omega : q_n Q < 8) (by omega), cond_true, cond_true, cond_true, cond_true, nb_tn (by omega : q_n Q < 100000), a2, o1, o2, y_Rd_readHead_91 _ _ _ _ _ hr, y_Rd_readHead_91 _ _ _ _ _ hr, upd_ne (by decide : (0 : Nat) ≠ 1), upd_ne (by decide : (0 : Nat) ≠ 1), a1, nb_s]
    cases b <;> rfl
  refine ⟨_, e, ⟨fun a p1 p2 p3 => by rw [up_ne (by omega), up_ne (by omega), up_ne (by omega), up_ne (by omega), up_ne (by omega), up_ne (by omega)], ?_⟩, k, hk, ?_, ?_, fun w => dR_fr (hR w) ?_⟩
  · have := hrn2 1 (by decide); have := hrn2 2 (by decide); have := hrn2 3 (by decide); have := hrn2 4 (by decide)
    rw [up_ne (by omega), up_ne (by omega), up_ne (by omega), up_ne (by omega), up_ne (by omega), up_ne (by omega)]
  · have z1 := hrn2 1 (by decide); have z2 := hrn2 2 (by decide); have z3 := hrn2 3 (by decide); have z4 := hrn2 4 (by decide)
    refine pG_fr hG ?_ ?_ ?_ ?_ ?_
    · rw [up_ne (by omega), up_ne (by omega), up_ne (by omega), up_ne (by omega), up_ne (by omega), up_ne (by omega)]
    · rw [up_ne (by omega), up_ne (by omega), up_ne (by omega), up_ne (by omega), up_ne (by omega), up_ne (by omega)]
    · rw [up_ne (by omega), up_ne (by omega), up_ne (by omega), up_ne (by omega), up_ne (by omega), up_ne (by omega)]
    · rw [up_same, upd_ne (by decide), upd_ne (by decide)]
    · rw [up_ne (by omega), up_ne (by omega), up_ne (by omega), up_ne (by omega), up_ne (by omega), up_ne (by omega)]
  · refine ⟨by rw [up_same, upd_same]; rfl, by rw [up_same, upd_ne (by decide), upd_same], fun i hi => ?_, by rw [up_same, upd_ne (by decide), upd_ne (by decide)]; exact a4, ?_⟩
    · have hi2 : i < q_n Q + 1 := hi
      have e1 : (am_up (am_up (am_up (am_up (am_up (am_up I (rc + 1) (upd (I (rc + 1)) (q_n Q) (Int32.ofNat h.1))) (rc + 2) (upd (I (rc + 2)) (q_n Q) (Int32.ofNat h.2.1))) (rc + 3) (upd (I (rc + 3)) (q_n Q) (Int32.ofNat h.2.2.1))) (rc + 4) (upd (I (rc + 4)) (q_n Q) (Int32.ofNat h.2.2.2))) rc (upd (I rc) 1 (Int32.ofNat (q_m (q_add Q b h))))) rc (upd (upd (I rc) 1 (Int32.ofNat (q_m (q_add Q b h)))) 0 (Int32.ofNat (q_n Q + 1)))) (rc + 1) = upd (I (rc + 1)) (q_n Q) (Int32.ofNat h.1) := by
        rw [up_ne (by omega), up_ne (by omega), up_ne (by omega), up_ne (by omega), up_ne (by omega), up_same]
      rw [e1, up_ne (by omega), up_ne (by omega), up_ne (by omega), up_ne (by omega), up_same, up_ne (by omega), up_ne (by omega), up_ne (by omega), up_same, up_ne (by omega), up_ne (by omega), up_same]
      show _ = Int32.ofNat (if i = q_n Q then h else q_h Q i).1 ∧ _ = Int32.ofNat (if i = q_n Q then h else q_h Q i).2.1 ∧ _ = Int32.ofNat (if i = q_n Q then h else q_h Q i).2.2.1 ∧ _ = Int32.ofNat (if i = q_n Q then h else q_h Q i).2.2.2
      by_cases ei : i = q_n Q
      · rw [if_pos ei, ei, upd_same, upd_same, upd_same, upd_same]
        exact ⟨rfl, rfl, rfl, rfl⟩
      · rw [if_neg ei, upd_ne ei, upd_ne ei, upd_ne ei, upd_ne ei]
        exact a3 i (by omega)
    · rw [up_ne (by omega), up_ne (by omega), up_ne (by omega), up_ne (by omega), up_ne (by omega), up_ne (by omega)]
      exact a5
  · have hc : (cond w 7 6 : Nat) = 7 ∨ (cond w 7 6 : Nat) = 6 := by cases w <;> decide
    rw [up_ne (by omega), up_ne (by omega), up_ne (by omega), up_ne (by omega), up_ne (by omega), up_ne (by omega)]
end HEAD2
