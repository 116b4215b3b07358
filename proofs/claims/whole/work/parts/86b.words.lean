/-! THE WORLD at the law's entry: which words are given, each at its place (by program) -/
def wpS : List Nat := [231, 389, 397, 408, 417, 427, 435, 443, 450, 458, 467, 476, 485, 492, 499, 505, 514, 526, 535, 545, 553, 560, 568, 578, 588, 599, 608, 616, 625]
def wpW : List Nat := [11, 15, 26, 79, 41, 50, 33, 90, 102, 20, 115, 129, 144, 160]
def wpT : List Nat := [13, 17, 28, 81, 43, 52, 35, 92, 104, 22, 117, 131, 146, 162]
def wpP : List Nat := [14, 18, 29, 82, 44, 53, 36, 93, 105, 23, 118, 132, 147, 163]
def wpE : List Nat := [65, 66, 67, 68, 69, 70, 71, 72, 73, 74, 75, 76, 77, 78]
set_option maxRecDepth 100000 in
theorem wm_1_ : ∀ i, i < 29 → wX[wpS.getD i 0]? = some (Cond.exactly (tmS (16 + 2 * i)) "java/lang/String") := by decide +kernel
set_option maxRecDepth 100000 in
theorem wm_2_ : ∀ i, i < 29 → wX[wpS.getD i 0 + 1]? = some (Cond.eq (.field (tmS (16 + 2 * i)) "java/lang/String" "coder" "B") (.int 0)) := by decide +kernel
set_option maxRecDepth 100000 in
theorem wm_3_ : ∀ i, i < 29 → wX[wpS.getD i 0 + 2]? = some (Cond.arrayOf (tmV (16 + 2 * i)) .byte) := by decide +kernel
set_option maxRecDepth 100000 in
theorem wm_4_ : ∀ i, i < 29 → wX[wpS.getD i 0 + 3]? = some (Cond.eq (.length (tmV (16 + 2 * i))) (.int (Int32.ofNat (st_l (16 + 2 * i)).length))) := by decide +kernel
set_option maxRecDepth 100000 in
theorem wm_5_ : ∀ i, i < 29 → ∀ j, j < (st_l (16 + 2 * i)).length → wX[wpS.getD i 0 + 4 + j]? = some (Cond.eq (.elem (tmV (16 + 2 * i)) (.int (Int32.ofNat j))) (.int (Int32.ofNat ((st_l (16 + 2 * i)).getD j 0)))) := by decide +kernel
set_option maxRecDepth 100000 in
theorem wm_6_ : ∀ i, i < 14 → wX[wpW.getD i 0]? = some (Cond.exactly (tmW (i + 1)) "AlmondCabinet$Word") := by decide +kernel
set_option maxRecDepth 100000 in
theorem wm_7_ : ∀ i, i < 14 → wX[wpT.getD i 0]? = some (Cond.eq (.field (tmW (i + 1)) "AlmondCabinet$Word" "text" "Ljava/lang/String;") (tmS (am_tx (i + 1)))) := by decide +kernel
set_option maxRecDepth 100000 in
theorem wm_8_ : ∀ i, i < 14 → wX[wpP.getD i 0]? = some (Cond.eq (.field (tmW (i + 1)) "AlmondCabinet$Word" "place" "I") (.int (st_w (i + 1)))) := by decide +kernel
set_option maxRecDepth 100000 in
theorem wm_a_ : ∀ i, i < 14 → wX[wpE.getD i 0]? = some (Cond.eq (.elem (tmW 15) (.int (Int32.ofNat i))) (tmW (i + 1))) := by decide +kernel
set_option maxRecDepth 100000 in
theorem wm_9_ : wX[62]? = some (Cond.arrayOf (tmW 15) (.object "AlmondCabinet$Word")) ∧ wX[63]? = some (Cond.eq (.length (tmW 15)) (.int (Int32.ofNat 14))) := by decide +kernel
set_option maxRecDepth 100000 in
theorem wm_b_ : wX[6]? = some (Cond.eq (tmW 16) (.int 1)) ∧ wX[7]? = some (Cond.isRef (tmW 17)) ∧ wX[4]? = some (Cond.isRef (.static Bundle.tN "UNASSIGNED_STACK" Bundle.steD)) ∧ wX[5]? = some (Cond.isRef (.static Bundle.tN "SUPPRESSED_SENTINEL" Bundle.listD)) ∧ wX[201]? = some (Cond.not (.castable "java/lang/IllegalArgumentException" "java/util/NoSuchElementException")) ∧ wX[3]? = some (Cond.le (.length (.arg 0)) (.int 3072)) := by decide +kernel
theorem wm_1 : ∀ i, i < 29 → Cond.exactly (tmS (16 + 2 * i)) "java/lang/String" ∈ wL := fun i hi => wX_at (wm_1_ i hi)
theorem wm_2 : ∀ i, i < 29 → Cond.eq (.field (tmS (16 + 2 * i)) "java/lang/String" "coder" "B") (.int 0) ∈ wL := fun i hi => wX_at (wm_2_ i hi)
theorem wm_3 : ∀ i, i < 29 → Cond.arrayOf (tmV (16 + 2 * i)) .byte ∈ wL := fun i hi => wX_at (wm_3_ i hi)
theorem wm_4 : ∀ i, i < 29 → Cond.eq (.length (tmV (16 + 2 * i))) (.int (Int32.ofNat (st_l (16 + 2 * i)).length)) ∈ wL := fun i hi => wX_at (wm_4_ i hi)
theorem wm_5 : ∀ i, i < 29 → ∀ j, j < (st_l (16 + 2 * i)).length → Cond.eq (.elem (tmV (16 + 2 * i)) (.int (Int32.ofNat j))) (.int (Int32.ofNat ((st_l (16 + 2 * i)).getD j 0))) ∈ wL := fun i hi j hj => wX_at (wm_5_ i hi j hj)
theorem wm_6 : ∀ i, i < 14 → Cond.exactly (tmW (i + 1)) "AlmondCabinet$Word" ∈ wL := fun i hi => wX_at (wm_6_ i hi)
theorem wm_7 : ∀ i, i < 14 → Cond.eq (.field (tmW (i + 1)) "AlmondCabinet$Word" "text" "Ljava/lang/String;") (tmS (am_tx (i + 1))) ∈ wL := fun i hi => wX_at (wm_7_ i hi)
theorem wm_8 : ∀ i, i < 14 → Cond.eq (.field (tmW (i + 1)) "AlmondCabinet$Word" "place" "I") (.int (st_w (i + 1))) ∈ wL := fun i hi => wX_at (wm_8_ i hi)
theorem wm_a : ∀ i, i < 14 → Cond.eq (.elem (tmW 15) (.int (Int32.ofNat i))) (tmW (i + 1)) ∈ wL := fun i hi => wX_at (wm_a_ i hi)
theorem wm_9 : Cond.arrayOf (tmW 15) (.object "AlmondCabinet$Word") ∈ wL ∧ Cond.eq (.length (tmW 15)) (.int (Int32.ofNat 14)) ∈ wL := ⟨wX_at wm_9_.1, wX_at wm_9_.2⟩
theorem wm_b : Cond.eq (tmW 16) (.int 1) ∈ wL ∧ Cond.isRef (tmW 17) ∈ wL ∧ Cond.isRef (.static Bundle.tN "UNASSIGNED_STACK" Bundle.steD) ∈ wL ∧ Cond.isRef (.static Bundle.tN "SUPPRESSED_SENTINEL" Bundle.listD) ∈ wL ∧ Cond.not (.castable "java/lang/IllegalArgumentException" "java/util/NoSuchElementException") ∈ wL ∧ Cond.le (.length (.arg 0)) (.int 3072) ∈ wL := ⟨wX_at wm_b_.1, wX_at wm_b_.2.1, wX_at wm_b_.2.2.1, wX_at wm_b_.2.2.2.1, wX_at wm_b_.2.2.2.2.1, wX_at wm_b_.2.2.2.2.2⟩
