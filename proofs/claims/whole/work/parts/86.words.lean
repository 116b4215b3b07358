/-! THE WORLD at the law's entry: which words are given -/
def wL : List Cond := flatC (Jvm.Cond.and given_1 narrow_1)
def tmS (q : Nat) : Term := .string (am_sI q).1 (am_sI q).2.1
def tmV (q : Nat) : Term := .field (tmS q) "java/lang/String" "value" "[B"
def tmW (t : Nat) : Term := .static (am_sT t).1 (am_sT t).2.1 (am_sT t).2.2.1
set_option maxRecDepth 100000 in
theorem wm_1 : ∀ i, i < 29 → Cond.exactly (tmS (16 + 2 * i)) "java/lang/String" ∈ wL := by decide +kernel
set_option maxRecDepth 100000 in
theorem wm_2 : ∀ i, i < 29 → Cond.eq (.field (tmS (16 + 2 * i)) "java/lang/String" "coder" "B") (.int 0) ∈ wL := by decide +kernel
set_option maxRecDepth 100000 in
theorem wm_3 : ∀ i, i < 29 → Cond.arrayOf (tmV (16 + 2 * i)) .byte ∈ wL := by decide +kernel
set_option maxRecDepth 100000 in
theorem wm_4 : ∀ i, i < 29 → Cond.eq (.length (tmV (16 + 2 * i))) (.int (Int32.ofNat (st_l (16 + 2 * i)).length)) ∈ wL := by decide +kernel
set_option maxRecDepth 100000 in
theorem wm_5 : ∀ i, i < 29 → ∀ j, j < (st_l (16 + 2 * i)).length → Cond.eq (.elem (tmV (16 + 2 * i)) (.int (Int32.ofNat j))) (.int (Int32.ofNat ((st_l (16 + 2 * i)).getD j 0))) ∈ wL := by decide +kernel
set_option maxRecDepth 100000 in
theorem wm_6 : ∀ i, i < 14 → Cond.exactly (tmW (i + 1)) "AlmondCabinet$Word" ∈ wL := by decide +kernel
set_option maxRecDepth 100000 in
theorem wm_7 : ∀ i, i < 14 → Cond.eq (.field (tmW (i + 1)) "AlmondCabinet$Word" "text" "Ljava/lang/String;") (tmS (am_tx (i + 1))) ∈ wL := by decide +kernel
set_option maxRecDepth 100000 in
theorem wm_8 : ∀ i, i < 14 → Cond.eq (.field (tmW (i + 1)) "AlmondCabinet$Word" "place" "I") (.int (st_w (i + 1))) ∈ wL := by decide +kernel
set_option maxRecDepth 100000 in
theorem wm_9 : Cond.arrayOf (tmW 15) (.object "AlmondCabinet$Word") ∈ wL ∧ Cond.eq (.length (tmW 15)) (.int (Int32.ofNat 14)) ∈ wL := by decide +kernel
set_option maxRecDepth 100000 in
theorem wm_a : ∀ j, j < 14 → Cond.eq (.elem (tmW 15) (.int (Int32.ofNat j))) (tmW (j + 1)) ∈ wL := by decide +kernel
set_option maxRecDepth 100000 in
theorem wm_b : Cond.eq (tmW 16) (.int 1) ∈ wL ∧ Cond.isRef (tmW 17) ∈ wL ∧ Cond.isRef (.static Bundle.tN "UNASSIGNED_STACK" Bundle.steD) ∈ wL ∧ Cond.isRef (.static Bundle.tN "SUPPRESSED_SENTINEL" Bundle.listD) ∈ wL ∧ Cond.not (.castable "java/lang/IllegalArgumentException" "java/util/NoSuchElementException") ∈ wL ∧ Cond.le (.length (.arg 0)) (.int 3072) ∈ wL := by decide +kernel
set_option maxRecDepth 100000 in
theorem wt_1 : ∀ i, i < 17 → Cond.laysStatic (am_sT (i + 1)).1 (am_sT (i + 1)).2.1 (am_sT (i + 1)).2.2.1 ∈ lw_tbl ∧ Cond.initialized (am_sT (i + 1)).1 ∈ lw_tbl := by decide +kernel
set_option maxRecDepth 100000 in
theorem wt_2 : ∀ i, i < 29 → Cond.stringRef (am_sI (16 + 2 * i)).1 (am_sI (16 + 2 * i)).2.1 (am_sI (16 + 2 * i)).2.2 ∈ lw_tbl := by decide +kernel
set_option maxRecDepth 100000 in
theorem wt_3 : ∀ i ∈ am_sE, Cond.stringRef "AlmondCabinet" i (am_sM i) ∈ lw_tbl := by decide +kernel
set_option maxRecDepth 100000 in
theorem wt_4 : Cond.laysStatic Bundle.tN "UNASSIGNED_STACK" Bundle.steD ∈ lw_tbl ∧ Cond.laysStatic Bundle.tN "SUPPRESSED_SENTINEL" Bundle.listD ∈ lw_tbl ∧ Cond.initialized Bundle.tN ∈ lw_tbl := by decide +kernel
set_option maxRecDepth 100000 in
theorem wt_5 : ∀ c, c < 12 → Cond.instantiable (am_CN c) (cond (Nat.beq c 9) 5 (am_NN c)) ∈ lw_tbl := by decide +kernel
set_option maxRecDepth 100000 in
theorem wn_1 : ∀ c, c < 13 → ∀ k, k < am_NN c → ∀ k', k' < am_NN c → k ≠ k' → (am_TT c k).2.1 ≠ (am_TT c k').2.1 := by decide +kernel
set_option maxRecDepth 100000 in
theorem wn_2 : ∀ c, c < 13 → ∀ k, k < am_NN c → (parseFieldDescriptor (am_TT c k).2.2.1).isSome = true := by decide +kernel
theorem wr_1 : ∀ j, j < 14 → kR 75 (j + 1) 0 = some (am_tx (j + 1)) ∧ am_tx (j + 1) ≠ 74 ∧ am_tx (j + 1) < 75 := by decide +kernel
theorem wr_2 : ∀ j, j < 14 → kR 75 15 j = some (j + 1) := by decide +kernel
theorem wr_3 : ∀ i, i < 29 → kR 75 (16 + 2 * i) 0 = some (17 + 2 * i) := by decide +kernel
theorem wj_14 {j : Nat} (h : j < 14) : j = 0 ∨ j = 1 ∨ j = 2 ∨ j = 3 ∨ j = 4 ∨ j = 5 ∨ j = 6 ∨ j = 7 ∨ j = 8 ∨ j = 9 ∨ j = 10 ∨ j = 11 ∨ j = 12 ∨ j = 13 := by omega
theorem wj_29 {j : Nat} (h : j < 29) : j = 0 ∨ j = 1 ∨ j = 2 ∨ j = 3 ∨ j = 4 ∨ j = 5 ∨ j = 6 ∨ j = 7 ∨ j = 8 ∨ j = 9 ∨ j = 10 ∨ j = 11 ∨ j = 12 ∨ j = 13 ∨ j = 14 ∨ j = 15 ∨ j = 16 ∨ j = 17 ∨ j = 18 ∨ j = 19 ∨ j = 20 ∨ j = 21 ∨ j = 22 ∨ j = 23 ∨ j = 24 ∨ j = 25 ∨ j = 26 ∨ j = 27 ∨ j = 28 := by omega
theorem ws_1 (N : Nat) (xs : Nat → Int32) {j : Nat} (h : j < 14) : kS 75 N (j + 1) = (9, 0) ∧ kB xs (j + 1) 1 = st_w (j + 1) := by
  rcases wj_14 h with rfl | rfl | rfl | rfl | rfl | rfl | rfl | rfl | rfl | rfl | rfl | rfl | rfl | rfl <;> exact ⟨rfl, rfl⟩
theorem ws_2 (N : Nat) (xs : Nat → Int32) {i : Nat} (h : i < 29) : kS 75 N (16 + 2 * i) = (12, 0) ∧ kB xs (16 + 2 * i) 1 = 0 ∧ kS 75 N (17 + 2 * i) = (101, (st_l (16 + 2 * i)).length) ∧ ∀ k, kB xs (17 + 2 * i) k = Int32.ofNat ((st_l (16 + 2 * i)).getD k 0) := by
  rcases wj_29 h with rfl | rfl | rfl | rfl | rfl | rfl | rfl | rfl | rfl | rfl | rfl | rfl | rfl | rfl | rfl | rfl | rfl | rfl | rfl | rfl | rfl | rfl | rfl | rfl | rfl | rfl | rfl | rfl | rfl <;> exact ⟨rfl, rfl, rfl, fun k => rfl⟩
theorem ws_3 : ∀ i, i < 29 → (st_l (16 + 2 * i)).length < 10 := by decide +kernel
