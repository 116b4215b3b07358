/-! CABINET: the class begins to read; a row is set out -/
def q_0 : s_Q := ((0, fun _ => (0, 0, 0, 0), 0), (0, fun _ => 0), none, none)
theorem gQ_0 : gQ q_0 := ⟨by decide, by decide, fun i hi => absurd hi (Nat.not_lt_zero _), ⟨by decide, fun j hj => absurd hj (Nat.not_lt_zero _)⟩, fun w cs e => by cases w <;> cases e⟩
def ru_v (rc : Nat) (I : Nat → Nat → Int32) : Prop := I (rc + 6) 0 = 5 ∧ I (rc + 7) 0 = 7
theorem so_b : ∀ n, n ≤ 8 → ((1 : Int32) <<< ((Int32.ofNat n) &&& 31)) - 1 = Int32.ofNat (2 ^ n - 1) := by decide +kernel
section CABC
variable {g N : Nat} {sw lv : Bool} {I : Nat → Nat → Int32} {L : Nat → Nat → Int64} {rc n : Nat} {P : Nat × (Nat → Nat)}
theorem rc_n (hr : am_isc rc) : rc ≠ 75 ∧ rc ≠ 76 ∧ rc ≠ 77 ∧ rc ≠ 78 ∧ 79 ≤ rc ∧ rc ≤ 89 := by rcases hr with rfl | rfl <;> decide
theorem C_rd0 (hr : am_isc rc) (hs : sO I) (ht : tC P I) (hP : P.1 ≤ 700 ∧ ∀ i, i < P.1 → P.2 i < 256) (hn : n ≤ P.1) (hv : ru_v rc I) : ∃ I', am_R 58 102 0 [.ref 76, .int (Int32.ofNat n), .ref rc, am_u] [] (am_hp g N sw lv I L) = am_R 58 102 24 [.ref 76, .int (Int32.ofNat n), .ref rc, .int (Int32.ofNat 0)] [] (am_hp g N sw lv I' L) ∧ fL rc I I' ∧ lC (n, P.2) rc 0 q_0 I' := by
  obtain ⟨r1, r2, r3, r4, r5, r6⟩ := rc_n hr
  have hP1 := hP.1
  have e0 := y_Rd_read_0 (g := g) (N := N) (sw := sw) (lv := lv) (I := I) (L := L) (Int32.ofNat n) hr
  generalize hJ : (am_up (am_up (am_up (am_up (am_up (am_up (am_up (am_up I 76 (upd (I 76) 1 0)) 76 (upd ((upd (I 76) 1 0)) 2 (-1))) rc (upd (I rc) 0 0)) rc (upd ((upd (I rc) 0 0)) 1 0)) rc (upd ((upd ((upd (I rc) 0 0)) 1 0)) 6 0)) rc (upd ((upd ((upd ((upd (I rc) 0 0)) 1 0)) 6 0)) 11 0)) (rc + 6) (upd (I (rc + 6)) 1 0)) (rc + 7) (upd (I (rc + 7)) 1 0)) = J at e0
  have u : ∀ a, a ≠ 76 → (a < rc ∨ rc + 8 < a) → J a = I a := fun a p q => by
    rw [← hJ, up_ne (by omega), up_ne (by omega), up_ne (by omega), up_ne (by omega), up_ne (by omega), up_ne (by omega), up_ne p, up_ne p]
  have j76 : J 76 1 = 0 := by
    rw [← hJ, up_ne (by omega), up_ne (by omega), up_ne (by omega), up_ne (by omega), up_ne (by omega), up_ne (by omega), up_same]
    rfl
  have jrc : J rc 0 = 0 ∧ J rc 1 = 0 ∧ J rc 6 = 0 ∧ J rc 11 = 0 := by
    rw [← hJ, up_ne (by omega), up_ne (by omega), up_same]
    exact ⟨rfl, rfl, rfl, rfl⟩
  have j6 : J (rc + 6) 0 = 5 ∧ J (rc + 6) 1 = 0 := by
    rw [← hJ, up_ne (by omega), up_same]
    exact ⟨hv.1, rfl⟩
  have j7 : J (rc + 7) 0 = 7 ∧ J (rc + 7) 1 = 0 := by
    rw [← hJ, up_same]
    exact ⟨hv.2, rfl⟩
  have t1 : J 77 1 = Int32.ofNat P.1 := by
    rw [u 77 (by decide) (by omega)]
    exact ht.1
  have hm : v_Ma_min (Int32.ofNat n) (J 77 1) = Int32.ofNat n := by
    unfold v_Ma_min
    rw [t1, nb_dlt (by omega) (by omega), d_f (by omega)]
  have e1 := y_Ta_begin_0 (g := g) (N := N) (sw := sw) (lv := lv) (I := J) (L := L) (Int32.ofNat n)
  rw [hm] at e1
  generalize hK : (am_up (am_up J 77 (upd (J 77) 2 (Int32.ofNat n))) 77 (upd ((upd (J 77) 2 (Int32.ofNat n))) 3 0)) = K at e1
  have k1 : ∀ a, a ≠ 77 → K a = J a := fun a p => by rw [← hK, up_ne p, up_ne p]
  have k2 : K 77 2 = Int32.ofNat n ∧ K 77 3 = Int32.ofNat 0 ∧ K 77 1 = J 77 1 := by
    rw [← hK, up_same]
    exact ⟨rfl, rfl, rfl⟩
  have hsK : sO K := sO_lo hs fun a p => by rw [k1 a (by omega), u a (by omega) (by omega)]
  have hX : x_ok (n, P.2) := ⟨by show n ≤ 700; omega, fun i hi => hP.2 i (Nat.lt_of_lt_of_le hi hn)⟩
  have hB : cB (n, P.2) K := by
    refine ⟨k2.1, fun i hi => ?_⟩
    rw [k1 78 (by decide), u 78 (by decide) (by omega)]
    exact ht.2 i (Nat.lt_of_lt_of_le hi hn)
  obtain ⟨I', a1, a2, a3, a4⟩ := C_step (g := g) (N := N) (sw := sw) (lv := lv) (L := L) hX hsK (p := 0) (Nat.zero_le _) hB k2.2.1
  have w : ∀ a, a ≠ 77 → I' a = J a := fun a p => (a3 a p).trans (k1 a p)
  refine ⟨I', ?_, ⟨fun a p q r => (w a q).trans (u a p r), (a4.trans k2.2.2).trans (by rw [t1, ht.1])⟩, (0, fun _ => 0), Nat.le_refl _, ⟨a2, ?_, ?_, fun i hi => absurd hi (Nat.not_lt_zero _)⟩, ⟨?_, ?_, fun i hi => absurd hi (Nat.not_lt_zero _), ?_, fun i hi => absurd hi (Nat.not_lt_zero _)⟩, fun w' => ?_⟩
  · rw [e0, e1, a1, am_bd_ok, am_tn, y_Ta_begin_21 _, am_bd_ok, am_tn, y_Rd_read_22 _ hr]
    rfl
  · rw [w 76 (by decide)]
    exact j76
  · rw [w rc r3]
    exact jrc.2.2.2
  · rw [w rc r3]
    exact jrc.1
  · rw [w rc r3]
    exact jrc.2.1
  · rw [w rc r3]
    exact jrc.2.2.1
  · cases w' with
    | true =>
      refine ⟨?_, ?_, fun cs e => by cases e⟩
      · show I' (rc + 7) 0 = _
        rw [w (rc + 7) (by omega)]
        exact j7.1
      · show I' (rc + 7) 1 = _
        rw [w (rc + 7) (by omega)]
        exact j7.2
    | false =>
      refine ⟨?_, ?_, fun cs e => by cases e⟩
      · show I' (rc + 6) 0 = _
        rw [w (rc + 6) (by omega)]
        exact j6.1
      · show I' (rc + 6) 1 = _
        rw [w (rc + 6) (by omega)]
        exact j6.2
/-- a row is set out -/
theorem C_so_ (hr : am_isc rc) (hn : n ≤ 8) (I : Nat → Nat → Int32) : ∀ c k (I1 : Nat → Nat → Int32), k + c = n → I1 99 0 = Int32.ofNat n → (∀ j, j < k → I1 100 j = I (rc + 1) j ∧ I1 101 j = 0 ∧ I1 102 j = I (rc + 3) j ∧ I1 103 j = I (rc + 4) j ∧ I1 104 j = Int32.ofNat j ∧ I1 105 j = Int32.ofNat j) → (∀ a, a < 99 → I1 a = I a) → ∃ I2, am_R 82 1 27 [.ref 99, .ref rc, .int (Int32.ofNat k)] [] (am_hp g N sw lv I1 L) = some (.inl none, am_hp g N sw lv I2 L) ∧ (∀ j, j < n → I2 100 j = I (rc + 1) j ∧ I2 101 j = 0 ∧ I2 102 j = I (rc + 3) j ∧ I2 103 j = I (rc + 4) j ∧ I2 104 j = Int32.ofNat j ∧ I2 105 j = Int32.ofNat j) ∧ ∀ a, a < 100 ∨ 105 < a → I2 a = I1 a
  | 0, k, I1, hc, h0, h1, h2 => by
    refine ⟨I1, ?_, fun j hj => h1 j (by omega), fun _ _ => rfl⟩
    rw [y_Rw_setOut_27 _ (Or.inl rfl) hr, h0, nb_dle (by omega) (by omega), d_t (by omega : n ≤ k)]
  | c + 1, k, I1, hc, h0, h1, h2 => by
    obtain ⟨r1, r2, r3, r4, r5, r6⟩ := rc_n hr
    have e := y_Rw_setOut_27 (g := g) (N := N) (sw := sw) (lv := lv) (I := I1) (L := L) (Int32.ofNat k) (r := 99) (Or.inl rfl) hr
    rw [h0, nb_dle (by omega) (by omega), d_f (by omega : ¬ n ≤ k), nb_inb (show k < 8 by omega) (by omega), nb_tn (by omega), nb_s] at e
    simp only [cond_true, Nat.reduceAdd] at e
    generalize hJ : (am_up (am_up (am_up (am_up (am_up (am_up I1 100 (upd (I1 100) k (I1 (rc + 1) k))) 101 (upd (I1 101) k 0)) 102 (upd (I1 102) k (I1 (rc + 3) k))) 103 (upd (I1 103) k (I1 (rc + 4) k))) 104 (upd (I1 104) k (Int32.ofNat k))) 105 (upd (I1 105) k (Int32.ofNat k))) = J at e
    have u : ∀ a, a < 100 ∨ 105 < a → J a = I1 a := fun a p => by
      rw [← hJ, up_ne (by omega), up_ne (by omega), up_ne (by omega), up_ne (by omega), up_ne (by omega), up_ne (by omega)]
    have v : J 100 = upd (I1 100) k (I1 (rc + 1) k) ∧ J 101 = upd (I1 101) k 0 ∧ J 102 = upd (I1 102) k (I1 (rc + 3) k) ∧ J 103 = upd (I1 103) k (I1 (rc + 4) k) ∧ J 104 = upd (I1 104) k (Int32.ofNat k) ∧ J 105 = upd (I1 105) k (Int32.ofNat k) := by
      rw [← hJ]
      exact ⟨rfl, rfl, rfl, rfl, rfl, rfl⟩
    obtain ⟨v1, v2, v3, v4, v5, v6⟩ := v
    obtain ⟨I2, b1, b2, b3⟩ := C_so_ hr hn I c (k + 1) J (by omega) (by rw [u 99 (by omega)]; exact h0) (fun j hj => by
      rw [v1, v2, v3, v4, v5, v6]
      by_cases q : j = k
      · rw [q, upd_same, upd_same, upd_same, upd_same, upd_same, upd_same, h2 _ (by omega), h2 _ (by omega), h2 _ (by omega)]
        exact ⟨rfl, rfl, rfl, rfl, rfl, rfl⟩
      · rw [upd_ne q, upd_ne q, upd_ne q, upd_ne q, upd_ne q, upd_ne q]
        exact h1 j (by omega)) (fun a p => by rw [u a (by omega)]; exact h2 a p)
    exact ⟨I2, e.trans b1, b2, fun a p => (b3 a p).trans (u a p)⟩
theorem C_set (hr : am_isc rc) (hn : n ≤ 8) (h0 : I rc 0 = Int32.ofNat n) : ∃ I2, am_R 82 1 0 [.ref 99, .ref rc, am_u] [] (am_hp g N sw lv I L) = some (.inl none, am_hp g N sw lv I2 L) ∧ I2 99 0 = Int32.ofNat n ∧ I2 99 1 = 0 ∧ I2 99 2 = Int32.ofNat (2 ^ n - 1) ∧ (∀ j, j < n → I2 100 j = I (rc + 1) j ∧ I2 101 j = 0 ∧ I2 102 j = I (rc + 3) j ∧ I2 103 j = I (rc + 4) j ∧ I2 104 j = Int32.ofNat j ∧ I2 105 j = Int32.ofNat j) ∧ ∀ a, a < 99 ∨ 105 < a → I2 a = I a := by
  obtain ⟨r1, r2, r3, r4, r5, r6⟩ := rc_n hr
  have e := y_Rw_setOut_0 (g := g) (N := N) (sw := sw) (lv := lv) (I := I) (L := L) (r := 99) (Or.inl rfl) hr
  generalize hJ : (am_up (am_up (am_up I 99 (upd (I 99) 0 (I rc 0))) 99 (upd ((upd (I 99) 0 (I rc 0))) 1 0)) 99 (upd ((upd ((upd (I 99) 0 (I rc 0))) 1 0)) 2 (((1 : Int32) <<< (((upd ((upd (I 99) 0 (I rc 0))) 1 0) 0) &&& 31)) - 1))) = J at e
  have u : ∀ a, a ≠ 99 → J a = I a := fun a p => by rw [← hJ, up_ne p, up_ne p, up_ne p]
  have v : J 99 0 = Int32.ofNat n ∧ J 99 1 = 0 ∧ J 99 2 = Int32.ofNat (2 ^ n - 1) := by
    rw [← hJ, up_same]
    refine ⟨?_, rfl, ?_⟩
    · exact h0
    · show ((1 : Int32) <<< ((I rc 0) &&& 31)) - 1 = _
      rw [h0]
      exact so_b n hn
  obtain ⟨I2, b1, b2, b3⟩ := C_so_ (g := g) (N := N) (sw := sw) (lv := lv) (L := L) hr hn I n 0 J (by omega) v.1 (fun j hj => absurd hj (Nat.not_lt_zero _)) (fun a p => u a (by omega))
  refine ⟨I2, e.trans b1, ?_, ?_, ?_, b2, fun a p => (b3 a (by omega)).trans (u a (by omega))⟩
  · rw [b3 99 (by decide)]
    exact v.1
  · rw [b3 99 (by decide)]
    exact v.2.1
  · rw [b3 99 (by decide)]
    exact v.2.2
end CABC
