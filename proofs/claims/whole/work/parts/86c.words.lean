/-! THE WORLD at the law's entry: words of the tables (by program) -/
def wq1 : List Nat := [889, 942, 954, 1000, 978, 980, 972, 2101, 2102, 944, 2103, 2104, 2105, 2106, 997, 815, 854]
def wq2 : List Nat := [158, 158, 158, 158, 158, 158, 158, 158, 158, 158, 158, 158, 158, 158, 158, 152, 155]
def wq3 : List Nat := [801, 1379, 1380, 1381, 1382, 1383, 1384, 1385, 1386, 1387, 1619, 1620, 1653, 1674, 1675, 2094, 2095, 2096, 2097, 2098, 2099, 2100, 2107, 2108, 2109, 2110, 2111, 2112, 2113]
def wq4 : List Nat := [755, 1064, 1215, 1345, 1056, 1100, 1029, 1118, 1192]
def wq5 : List Nat := [363, 433, 400, 172, 223, 311, 229, 380, 178, 897, 164, 1372]
set_option maxRecDepth 100000 in
theorem wt_1_ : ∀ i, i < 17 → lw_tbl[wq1.getD i 0]? = some (Cond.laysStatic (am_sT (i + 1)).1 (am_sT (i + 1)).2.1 (am_sT (i + 1)).2.2.1) ∧ lw_tbl[wq2.getD i 0]? = some (Cond.initialized (am_sT (i + 1)).1) := by decide +kernel
theorem wt_1 : ∀ i, i < 17 → Cond.laysStatic (am_sT (i + 1)).1 (am_sT (i + 1)).2.1 (am_sT (i + 1)).2.2.1 ∈ lw_tbl ∧ Cond.initialized (am_sT (i + 1)).1 ∈ lw_tbl := fun i hi => ⟨List.mem_of_getElem? (wt_1_ i hi).1, List.mem_of_getElem? (wt_1_ i hi).2⟩
set_option maxRecDepth 100000 in
theorem wt_2_ : ∀ i, i < 29 → lw_tbl[wq3.getD i 0]? = some (Cond.stringRef (am_sI (16 + 2 * i)).1 (am_sI (16 + 2 * i)).2.1 (am_sI (16 + 2 * i)).2.2) := by decide +kernel
theorem wt_2 : ∀ i, i < 29 → Cond.stringRef (am_sI (16 + 2 * i)).1 (am_sI (16 + 2 * i)).2.1 (am_sI (16 + 2 * i)).2.2 ∈ lw_tbl := fun i hi => List.mem_of_getElem? (wt_2_ i hi)
set_option maxRecDepth 100000 in
theorem wt_3_ : ∀ j, j < 9 → lw_tbl[wq4.getD j 0]? = some (Cond.stringRef "AlmondCabinet" (am_sE.getD j 0) (am_sM (am_sE.getD j 0))) := by decide +kernel
set_option maxRecDepth 100000 in
theorem wt_3i : ∀ i ∈ am_sE, ∃ j, j < 9 ∧ i = am_sE.getD j 0 := by decide +kernel
theorem wt_3 : ∀ i ∈ am_sE, Cond.stringRef "AlmondCabinet" i (am_sM i) ∈ lw_tbl := fun i hi => by
  obtain ⟨j, hj, rfl⟩ := wt_3i i hi
  exact List.mem_of_getElem? (wt_3_ j hj)
set_option maxRecDepth 100000 in
theorem wt_4_ : lw_tbl[742]? = some (Cond.laysStatic Bundle.tN "UNASSIGNED_STACK" Bundle.steD) ∧ lw_tbl[744]? = some (Cond.laysStatic Bundle.tN "SUPPRESSED_SENTINEL" Bundle.listD) ∧ lw_tbl[147]? = some (Cond.initialized Bundle.tN) := by decide +kernel
theorem wt_4 : Cond.laysStatic Bundle.tN "UNASSIGNED_STACK" Bundle.steD ∈ lw_tbl ∧ Cond.laysStatic Bundle.tN "SUPPRESSED_SENTINEL" Bundle.listD ∈ lw_tbl ∧ Cond.initialized Bundle.tN ∈ lw_tbl := ⟨List.mem_of_getElem? wt_4_.1, List.mem_of_getElem? wt_4_.2.1, List.mem_of_getElem? wt_4_.2.2⟩
set_option maxRecDepth 100000 in
theorem wt_5_ : ∀ c, c < 12 → lw_tbl[wq5.getD c 0]? = some (Cond.instantiable (am_CN c) (cond (Nat.beq c 9) 5 (am_NN c))) := by decide +kernel
theorem wt_5 : ∀ c, c < 12 → Cond.instantiable (am_CN c) (cond (Nat.beq c 9) 5 (am_NN c)) ∈ lw_tbl := fun c hc => List.mem_of_getElem? (wt_5_ c hc)
