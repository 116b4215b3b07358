/-! THE WORLD at the law's entry: which words are given (by program) -/
def wL : List Cond := flatC (Jvm.Cond.and given_1 narrow_1)
def tmS (q : Nat) : Term := .string (am_sI q).1 (am_sI q).2.1
def tmV (q : Nat) : Term := .field (tmS q) "java/lang/String" "value" "[B"
def tmW (t : Nat) : Term := .static (am_sT t).1 (am_sT t).2.1 (am_sT t).2.2.1
def wpS : List Nat := [231, 389, 397, 408, 417, 427, 435, 443, 450, 458, 467, 476, 485, 492, 499, 505, 514, 526, 535, 545, 553, 560, 568, 578, 588, 599, 608, 616, 625]
def wpW : List Nat := [11, 15, 26, 79, 41, 50, 33, 90, 102, 20, 115, 129, 144, 160]
def wpT : List Nat := [13, 17, 28, 81, 43, 52, 35, 92, 104, 22, 117, 131, 146, 162]
def wpP : List Nat := [14, 18, 29, 82, 44, 53, 36, 93, 105, 23, 118, 132, 147, 163]
def wpE : List Nat := [65, 66, 67, 68, 69, 70, 71, 72, 73, 74, 75, 76, 77, 78]
/-- what is given of a text: its words lie side by side -/
def wSl (i : Nat) : List Cond := Cond.exactly (tmS (16 + 2 * i)) "java/lang/String" :: Cond.eq (.field (tmS (16 + 2 * i)) "java/lang/String" "coder" "B") (.int 0) :: Cond.arrayOf (tmV (16 + 2 * i)) .byte :: Cond.eq (.length (tmV (16 + 2 * i))) (.int (Int32.ofNat (st_l (16 + 2 * i)).length)) :: (List.range (st_l (16 + 2 * i)).length).map (fun j => Cond.eq (.elem (tmV (16 + 2 * i)) (.int (Int32.ofNat j))) (.int (Int32.ofNat ((st_l (16 + 2 * i)).getD j 0))))
set_option maxRecDepth 100000 in
theorem wm_s0 : ∀ i, i < 6 → (wL.drop (wpS.getD (0 + i) 0)).take ((st_l (16 + 2 * (0 + i))).length + 4) = wSl (0 + i) := by decide +kernel
set_option maxRecDepth 100000 in
theorem wm_s6 : ∀ i, i < 6 → (wL.drop (wpS.getD (6 + i) 0)).take ((st_l (16 + 2 * (6 + i))).length + 4) = wSl (6 + i) := by decide +kernel
set_option maxRecDepth 100000 in
theorem wm_s12 : ∀ i, i < 6 → (wL.drop (wpS.getD (12 + i) 0)).take ((st_l (16 + 2 * (12 + i))).length + 4) = wSl (12 + i) := by decide +kernel
set_option maxRecDepth 100000 in
theorem wm_s18 : ∀ i, i < 6 → (wL.drop (wpS.getD (18 + i) 0)).take ((st_l (16 + 2 * (18 + i))).length + 4) = wSl (18 + i) := by decide +kernel
set_option maxRecDepth 100000 in
theorem wm_s24 : ∀ i, i < 5 → (wL.drop (wpS.getD (24 + i) 0)).take ((st_l (16 + 2 * (24 + i))).length + 4) = wSl (24 + i) := by decide +kernel
theorem wm_s : ∀ i, i < 29 → (wL.drop (wpS.getD i 0)).take ((st_l (16 + 2 * i)).length + 4) = wSl i := by
  intro i hi
  by_cases h0 : i < 6
  · obtain ⟨k, rfl⟩ : ∃ k, i = 0 + k := ⟨i - 0, by omega⟩
    exact wm_s0 k (by omega)
  by_cases h6 : i < 12
  · obtain ⟨k, rfl⟩ : ∃ k, i = 6 + k := ⟨i - 6, by omega⟩
    exact wm_s6 k (by omega)
  by_cases h12 : i < 18
  · obtain ⟨k, rfl⟩ : ∃ k, i = 12 + k := ⟨i - 12, by omega⟩
    exact wm_s12 k (by omega)
  by_cases h18 : i < 24
  · obtain ⟨k, rfl⟩ : ∃ k, i = 18 + k := ⟨i - 18, by omega⟩
    exact wm_s18 k (by omega)
  by_cases h24 : i < 29
  · obtain ⟨k, rfl⟩ : ∃ k, i = 24 + k := ⟨i - 24, by omega⟩
    exact wm_s24 k (by omega)
  omega
theorem wm_in {i : Nat} (hi : i < 29) {c : Cond} (h : c ∈ wSl i) : c ∈ wL := by
  rw [← wm_s i hi] at h
  exact List.mem_of_mem_drop (List.mem_of_mem_take h)
theorem wm_1 : ∀ i, i < 29 → Cond.exactly (tmS (16 + 2 * i)) "java/lang/String" ∈ wL := fun _ hi => wm_in hi List.mem_cons_self
theorem wm_2 : ∀ i, i < 29 → Cond.eq (.field (tmS (16 + 2 * i)) "java/lang/String" "coder" "B") (.int 0) ∈ wL := fun _ hi => wm_in hi (List.mem_cons_of_mem _ List.mem_cons_self)
theorem wm_3 : ∀ i, i < 29 → Cond.arrayOf (tmV (16 + 2 * i)) .byte ∈ wL := fun _ hi => wm_in hi (List.mem_cons_of_mem _ (List.mem_cons_of_mem _ List.mem_cons_self))
theorem wm_4 : ∀ i, i < 29 → Cond.eq (.length (tmV (16 + 2 * i))) (.int (Int32.ofNat (st_l (16 + 2 * i)).length)) ∈ wL := fun _ hi => wm_in hi (List.mem_cons_of_mem _ (List.mem_cons_of_mem _ (List.mem_cons_of_mem _ List.mem_cons_self)))
theorem wm_5 : ∀ i, i < 29 → ∀ j, j < (st_l (16 + 2 * i)).length → Cond.eq (.elem (tmV (16 + 2 * i)) (.int (Int32.ofNat j))) (.int (Int32.ofNat ((st_l (16 + 2 * i)).getD j 0))) ∈ wL := fun _ hi j hj => wm_in hi (List.mem_cons_of_mem _ (List.mem_cons_of_mem _ (List.mem_cons_of_mem _ (List.mem_cons_of_mem _ (List.mem_map.mpr ⟨j, List.mem_range.mpr hj, rfl⟩)))))
