/-! THE WORLD at the law's entry: which words are given, each at its place (by program) -/
set_option maxRecDepth 100000 in
theorem wm_6_ : ∀ i, i < 14 → wL[wpW.getD i 0]? = some (Cond.exactly (tmW (i + 1)) "AlmondCabinet$Word") := by decide +kernel
set_option maxRecDepth 100000 in
theorem wm_7_ : ∀ i, i < 14 → wL[wpT.getD i 0]? = some (Cond.eq (.field (tmW (i + 1)) "AlmondCabinet$Word" "text" "Ljava/lang/String;") (tmS (am_tx (i + 1)))) := by decide +kernel
set_option maxRecDepth 100000 in
theorem wm_8_ : ∀ i, i < 14 → wL[wpP.getD i 0]? = some (Cond.eq (.field (tmW (i + 1)) "AlmondCabinet$Word" "place" "I") (.int (st_w (i + 1)))) := by decide +kernel
set_option maxRecDepth 100000 in
theorem wm_a_ : ∀ i, i < 14 → wL[wpE.getD i 0]? = some (Cond.eq (.elem (tmW 15) (.int (Int32.ofNat i))) (tmW (i + 1))) := by decide +kernel
set_option maxRecDepth 100000 in
theorem wm_9_ : wL[62]? = some (Cond.arrayOf (tmW 15) (.object "AlmondCabinet$Word")) ∧ wL[63]? = some (Cond.eq (.length (tmW 15)) (.int (Int32.ofNat 14))) := by decide +kernel
set_option maxRecDepth 100000 in
theorem wm_b_ : wL[6]? = some (Cond.eq (tmW 16) (.int 1)) ∧ wL[7]? = some (Cond.isRef (tmW 17)) ∧ wL[4]? = some (Cond.isRef (.static Bundle.tN "UNASSIGNED_STACK" Bundle.steD)) ∧ wL[5]? = some (Cond.isRef (.static Bundle.tN "SUPPRESSED_SENTINEL" Bundle.listD)) ∧ wL[201]? = some (Cond.not (.castable "java/lang/IllegalArgumentException" "java/util/NoSuchElementException")) ∧ wL[3]? = some (Cond.le (.length (.arg 0)) (.int 3072)) := by decide +kernel
theorem wm_6 : ∀ i, i < 14 → Cond.exactly (tmW (i + 1)) "AlmondCabinet$Word" ∈ wL := fun i hi => List.mem_of_getElem? (wm_6_ i hi)
theorem wm_7 : ∀ i, i < 14 → Cond.eq (.field (tmW (i + 1)) "AlmondCabinet$Word" "text" "Ljava/lang/String;") (tmS (am_tx (i + 1))) ∈ wL := fun i hi => List.mem_of_getElem? (wm_7_ i hi)
theorem wm_8 : ∀ i, i < 14 → Cond.eq (.field (tmW (i + 1)) "AlmondCabinet$Word" "place" "I") (.int (st_w (i + 1))) ∈ wL := fun i hi => List.mem_of_getElem? (wm_8_ i hi)
theorem wm_a : ∀ i, i < 14 → Cond.eq (.elem (tmW 15) (.int (Int32.ofNat i))) (tmW (i + 1)) ∈ wL := fun i hi => List.mem_of_getElem? (wm_a_ i hi)
theorem wm_9 : Cond.arrayOf (tmW 15) (.object "AlmondCabinet$Word") ∈ wL ∧ Cond.eq (.length (tmW 15)) (.int (Int32.ofNat 14)) ∈ wL := ⟨List.mem_of_getElem? wm_9_.1, List.mem_of_getElem? wm_9_.2⟩
theorem wm_b : Cond.eq (tmW 16) (.int 1) ∈ wL ∧ Cond.isRef (tmW 17) ∈ wL ∧ Cond.isRef (.static Bundle.tN "UNASSIGNED_STACK" Bundle.steD) ∈ wL ∧ Cond.isRef (.static Bundle.tN "SUPPRESSED_SENTINEL" Bundle.listD) ∈ wL ∧ Cond.not (.castable "java/lang/IllegalArgumentException" "java/util/NoSuchElementException") ∈ wL ∧ Cond.le (.length (.arg 0)) (.int 3072) ∈ wL := ⟨List.mem_of_getElem? wm_b_.1, List.mem_of_getElem? wm_b_.2.1, List.mem_of_getElem? wm_b_.2.2.1, List.mem_of_getElem? wm_b_.2.2.2.1, List.mem_of_getElem? wm_b_.2.2.2.2.1, List.mem_of_getElem? wm_b_.2.2.2.2.2⟩
