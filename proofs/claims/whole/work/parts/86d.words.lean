/-! THE WORLD at the law's entry: names, references, shapes -/
set_option maxRecDepth 100000 in
theorem wn_1 : ∀ c, c < 13 → ∀ k, k < am_NN c → ∀ k', k' < am_NN c → k ≠ k' → (am_TT c k).2.1 ≠ (am_TT c k').2.1 := by decide +kernel
set_option maxRecDepth 100000 in
theorem wn_2 : ∀ c, c < 13 → ∀ k, k < am_NN c → (parseFieldDescriptor (am_TT c k).2.2.1).isSome = true := by decide +kernel
theorem wr_1 : ∀ j, j < 14 → kR 75 (j + 1) 0 = some (am_tx (j + 1)) ∧ am_tx (j + 1) ≠ 74 ∧ am_tx (j + 1) < 75 := by decide +kernel
theorem wr_2 : ∀ j, j < 14 → kR 75 15 j = some (j + 1) := by decide +kernel
theorem wr_3 : ∀ i, i < 29 → kR 75 (16 + 2 * i) 0 = some (17 + 2 * i) := by decide +kernel
theorem wj_14 {j : Nat} (h : j < 14) : j = 0 ∨ j = 1 ∨ j = 2 ∨ j = 3 ∨ j = 4 ∨ j = 5 ∨ j = 6 ∨ j = 7 ∨ j = 8 ∨ j = 9 ∨ j = 10 ∨ j = 11 ∨ j = 12 ∨ j = 13 := by omega
theorem wj_29 {j : Nat} (h : j < 29) : j = 0 ∨ j = 1 ∨ j = 2 ∨ j = 3 ∨ j = 4 ∨ j = 5 ∨ j = 6 ∨ j = 7 ∨ j = 8 ∨ j = 9 ∨ j = 10 ∨ j = 11 ∨ j = 12 ∨ j = 13 ∨ j = 14 ∨ j = 15 ∨ j = 16 ∨ j = 17 ∨ j = 18 ∨ j = 19 ∨ j = 20 ∨ j = 21 ∨ j = 22 ∨ j = 23 ∨ j = 24 ∨ j = 25 ∨ j = 26 ∨ j = 27 ∨ j = 28 := by omega
theorem ws_1 (N : Nat) (xs : Nat → Int32) {j : Nat} (h : j < 14) : kS 75 N (j + 1) = (9, 0) ∧ kB xs (j + 1) 1 = st_w (j + 1) := by
  rcases wj_14 h with rfl | rfl | rfl | rfl | rfl | rfl | rfl | rfl | rfl | rfl | rfl | rfl | rfl | rfl <;> exact ⟨rfl, rfl⟩
theorem ws_2 (N : Nat) (xs : Nat → Int32) {i : Nat} (h : i < 29) : kS 75 N (16 + 2 * i) = (12, 0) ∧ kB xs (16 + 2 * i) 1 = 0 ∧ kS 75 N (17 + 2 * i) = (101, (st_l (16 + 2 * i)).length) ∧ ∀ k, kB xs (17 + 2 * i) k = Int32.ofNat ((st_l (16 + 2 * i)).getD k 0) := by
  rcases wj_29 h with rfl | rfl | rfl | rfl | rfl | rfl | rfl | rfl | rfl | rfl | rfl | rfl | rfl | rfl | rfl | rfl | rfl | rfl | rfl | rfl | rfl | rfl | rfl | rfl | rfl | rfl | rfl | rfl | rfl <;> exact ⟨rfl, rfl, rfl, fun k => rfl⟩
theorem ws_3 : ∀ i, i < 29 → (st_l (16 + 2 * i)).length < 10 := by decide +kernel
