/-! THE START: what the constructors leave -/
def S_00 : s_S := ((((fun _ => 0), none, none, 0, (fun _ => 0)), 0, ((0, 0, 0), (fun _ => 0), (fun _ => 0), (fun _ => 0), (fun _ => 0), (fun k => k), (fun h => h))), (0, fun _ => ((0, 0, 0), (fun _ => 0), (fun _ => 0), (fun _ => 0), (fun _ => 0), (fun k => k), (fun h => h))), (0, (fun _ => 0), (fun _ => 0), (fun _ => false)), (fun _ => 0), (0, fun _ => 0), -1, none)
/-- the ints below: the script, the words' places, texts -/
def kB (xs : Nat → Int32) (a k : Nat) : Int32 := cond (Nat.beq a 0) (xs k) (cond (Nat.ble a 14) (st_w a) (cond (Nat.ble a 16) 0 (cond (Nat.beq (a % 2) 1) (Int32.ofNat ((st_l (a - 1)).getD k 0)) 0)))
theorem kB_sO (xs : Nat → Int32) : sO (kB xs) := by
  refine ⟨fun sa h => ?_, fun w h => ?_⟩
  · rcases h with rfl | rfl | rfl | rfl | rfl | rfl | rfl | rfl | rfl | rfl | rfl | rfl | rfl | rfl | rfl | rfl | rfl | rfl | rfl | rfl | rfl | rfl | rfl | rfl | rfl | rfl | rfl | rfl | rfl <;> exact ⟨rfl, fun k _ => rfl⟩
  · rcases h with rfl | rfl | rfl | rfl | rfl | rfl | rfl | rfl | rfl | rfl | rfl | rfl | rfl | rfl <;> rfl
set_option maxRecDepth 100000 in
theorem k_sC (xs : Nat → Int32) : sC S_00 false (kI (kB xs)) :=
  ⟨⟨⟨fun h _ => rfl, ⟨rfl, Nat.zero_le _, fun j hj => absurd hj (Nat.not_lt_zero _)⟩, ⟨rfl, fun f e => nomatch e⟩, ⟨rfl, fun f e => nomatch e⟩⟩, ⟨rfl, rfl, rfl, fun h hh => absurd hh (Nat.not_lt_zero _), fun h hh => absurd hh (Nat.not_lt_zero _)⟩, rfl, by show 0 < 256; decide⟩, ⟨0, by decide, rfl, rfl, fun i hi => absurd hi (Nat.not_lt_zero _)⟩, ⟨rfl, fun i hi => absurd hi (Nat.not_lt_zero _)⟩, fun k _ => rfl, ⟨rfl, fun i hi => absurd hi (Nat.not_lt_zero _)⟩, rfl, rfl⟩
set_option maxRecDepth 100000 in
theorem k_sM (xs : Nat → Int32) : sM S_00 (kI (kB xs)) :=
  ⟨⟨⟨fun h _ _ => rfl, ⟨rfl, Nat.zero_le _, fun j hj => absurd hj (Nat.not_lt_zero _)⟩, ⟨rfl, fun f e => nomatch e⟩, ⟨rfl, fun f e => nomatch e⟩⟩, ⟨rfl, rfl, rfl, fun h hh => absurd hh (Nat.not_lt_zero _), fun h hh => absurd hh (Nat.not_lt_zero _)⟩, rfl, fun h hh => absurd hh (Nat.not_lt_zero _)⟩, ⟨rfl, fun i hi => absurd hi (Nat.not_lt_zero _)⟩, ⟨rfl, fun i hi => absurd hi (Nat.not_lt_zero _)⟩, fun k _ => rfl, ⟨rfl, fun i hi => absurd hi (Nat.not_lt_zero _)⟩, rfl, rfl⟩
theorem k_gT : gT 0 (sT S_00) := ⟨⟨Nat.zero_le _, by show 0 < 2 ^ 0; decide, ⟨by show (0 : Int32) ≤ 0; decide, by show (0 : Int32) ≤ 2000; decide⟩, fun h hh => absurd hh (Nat.not_lt_zero _), fun h hh => absurd hh (Nat.not_lt_zero _)⟩, rfl, by show (0 : Int32) ≤ 999; decide, fun h hh => absurd hh (Nat.not_lt_zero _)⟩
theorem k_sG : sG S_00 := ⟨k_gT, ⟨Nat.zero_le _, fun i hi => absurd hi (Nat.not_lt_zero _)⟩, ⟨Nat.zero_le _, fun i hi => absurd hi (Nat.not_lt_zero _)⟩, ⟨Nat.zero_le _, fun i hi => absurd hi (Nat.not_lt_zero _)⟩, fun j hj => absurd hj (Nat.not_lt_zero _), fun y e => nomatch e⟩
set_option maxRecDepth 100000 in
theorem k_vI (xs : Nat → Int32) : vI (kI (kB xs)) := ⟨sO_lo (kB_sO xs) (fun a p => kI_lo p), ⟨rfl, rfl⟩, ⟨rfl, rfl⟩, Or.inl rfl⟩
theorem k_LS (xs : Nat → Int32) : LwS S_00 false (kI (kB xs)) := ⟨k_sC xs, k_sM xs, k_sG, k_vI xs⟩
/-- THE LAW, on every script -/
theorem lw_all {N : Nat} (hN : N ≤ 3072) (xs : Nat → Int32) (L : Nat → Nat → Int64) : ∃ g sw lv I' L', am_R 300 105 0 [.ref 0, am_u, am_u, am_u, am_u, am_u, am_u] [] ((75, 0, 0), (kS 75 N), kB xs, L, (kR 75)) = some (.inl (some (.int 1)), am_hp g N sw lv I' L') ∧ g ≤ 512 := by
  obtain ⟨g, sw, lv, I', L', h1, h2⟩ := LW_loop hN (N / 6) 0 0 S_00 false false (kI (kB xs)) (kL L) am_u am_u (by omega) (by omega) (k_LS xs)
  refine ⟨g, sw, lv, I', L', ?_, by omega⟩
  rw [kl_all]
  exact h1
