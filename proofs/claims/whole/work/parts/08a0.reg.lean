/-! regions of methods, by program -/
/-! Ma.min -/
theorem z_Ma_min_0 {g N : Nat} {sw lv : Bool} {I : Nat → Nat → Int32} {L : Nat → Nat → Int64} (x0 : Int32) (x1 : Int32) : am_R 301 1 0 [.int x0, .int x1] [] (am_hp g N sw lv I L) = cond (decide (x1 < x0)) (some (.inl (some (.int x1)), (am_hp g N sw lv I L))) (some (.inl (some (.int x0)), (am_hp g N sw lv I L))) := by
  exact am_go_eq 75 am_pr (fun p => false) 6 301 _ 0 _ _ _
def v_Ma_min (x0 : Int32) (x1 : Int32) : Int32 := (cond (decide (x1 < x0)) x1 x0)
theorem e_Ma_min {g N : Nat} {sw lv : Bool} {I : Nat → Nat → Int32} {L : Nat → Nat → Int64} (x0 : Int32) (x1 : Int32) : am_R 301 1 0 [.int x0, .int x1] [] (am_hp g N sw lv I L) = some (.inl (some (.int (v_Ma_min x0 x1))), (am_hp g N sw lv I L)) := by
  refine (z_Ma_min_0 _ _).trans ?_
  unfold v_Ma_min
  cases (decide (x1 < x0))
  · rfl
  · rfl

/-! Ma.floorMod -/
theorem z_Ma_floorMod_0 {g N : Nat} {sw lv : Bool} {I : Nat → Nat → Int32} {L : Nat → Nat → Int64} (x0 : Int32) (x1 : Int32) : am_R 302 1 0 [.int x0, .int x1, am_u] [] (am_hp g N sw lv I L) = cond (!decide (x1 = 0)) (cond (decide (0 ≤ (x0 ^^^ x1))) (some (.inl (some (.int (x0 - x0 / x1 * x1))), (am_hp g N sw lv I L))) (cond (decide ((x0 - x0 / x1 * x1) = 0)) (some (.inl (some (.int (x0 - x0 / x1 * x1))), (am_hp g N sw lv I L))) (some (.inl (some (.int ((x0 - x0 / x1 * x1) + x1))), (am_hp g N sw lv I L))))) (none) := by
  exact am_go_eq 75 am_pr (fun p => false) 14 302 _ 0 _ _ _
def v_Ma_floorMod (x0 : Int32) (x1 : Int32) : Int32 := (cond (decide (0 ≤ (x0 ^^^ x1))) (x0 - x0 / x1 * x1) (cond (decide ((x0 - x0 / x1 * x1) = 0)) (x0 - x0 / x1 * x1) ((x0 - x0 / x1 * x1) + x1)))
def g_Ma_floorMod (x0 : Int32) (x1 : Int32) : Bool := (cond (!decide (x1 = 0)) true false)
theorem e_Ma_floorMod {g N : Nat} {sw lv : Bool} {I : Nat → Nat → Int32} {L : Nat → Nat → Int64} (x0 : Int32) (x1 : Int32) : am_R 302 1 0 [.int x0, .int x1, am_u] [] (am_hp g N sw lv I L) = cond (g_Ma_floorMod x0 x1) (some (.inl (some (.int (v_Ma_floorMod x0 x1))), (am_hp g N sw lv I L))) none := by
  refine (z_Ma_floorMod_0 _ _).trans ?_
  unfold v_Ma_floorMod g_Ma_floorMod
  cases (decide (x1 = 0))
  · cases (decide (0 ≤ (x0 ^^^ x1)))
    · cases (decide ((x0 - x0 / x1 * x1) = 0))
      · rfl
      · rfl
    · rfl
  · rfl

/-! Ma.max -/
theorem z_Ma_max_0 {g N : Nat} {sw lv : Bool} {I : Nat → Nat → Int32} {L : Nat → Nat → Int64} (x0 : Int32) (x1 : Int32) : am_R 303 1 0 [.int x0, .int x1] [] (am_hp g N sw lv I L) = cond (decide (x0 < x1)) (some (.inl (some (.int x1)), (am_hp g N sw lv I L))) (some (.inl (some (.int x0)), (am_hp g N sw lv I L))) := by
  exact am_go_eq 75 am_pr (fun p => false) 6 303 _ 0 _ _ _
def v_Ma_max (x0 : Int32) (x1 : Int32) : Int32 := (cond (decide (x0 < x1)) x1 x0)
theorem e_Ma_max {g N : Nat} {sw lv : Bool} {I : Nat → Nat → Int32} {L : Nat → Nat → Int64} (x0 : Int32) (x1 : Int32) : am_R 303 1 0 [.int x0, .int x1] [] (am_hp g N sw lv I L) = some (.inl (some (.int (v_Ma_max x0 x1))), (am_hp g N sw lv I L)) := by
  refine (z_Ma_max_0 _ _).trans ?_
  unfold v_Ma_max
  cases (decide (x0 < x1))
  · rfl
  · rfl

/-! In.compare -/
theorem z_In_compare_0 {g N : Nat} {sw lv : Bool} {I : Nat → Nat → Int32} {L : Nat → Nat → Int64} (x0 : Int32) (x1 : Int32) : am_R 304 1 0 [.int x0, .int x1] [] (am_hp g N sw lv I L) = cond (decide (x1 ≤ x0)) (cond (decide (x0 = x1)) (some (.inl (some (.int 0)), (am_hp g N sw lv I L))) (some (.inl (some (.int 1)), (am_hp g N sw lv I L)))) (some (.inl (some (.int (-1))), (am_hp g N sw lv I L))) := by
  exact am_go_eq 75 am_pr (fun p => false) 9 304 _ 0 _ _ _
def v_In_compare (x0 : Int32) (x1 : Int32) : Int32 := (cond (decide (x1 ≤ x0)) (cond (decide (x0 = x1)) 0 1) (-1))
theorem e_In_compare {g N : Nat} {sw lv : Bool} {I : Nat → Nat → Int32} {L : Nat → Nat → Int64} (x0 : Int32) (x1 : Int32) : am_R 304 1 0 [.int x0, .int x1] [] (am_hp g N sw lv I L) = some (.inl (some (.int (v_In_compare x0 x1))), (am_hp g N sw lv I L)) := by
  refine (z_In_compare_0 _ _).trans ?_
  unfold v_In_compare
  cases (decide (x1 ≤ x0))
  · rfl
  · cases (decide (x0 = x1))
    · rfl
    · rfl

/-! Ma.abs -/
theorem z_Ma_abs_0 {g N : Nat} {sw lv : Bool} {I : Nat → Nat → Int32} {L : Nat → Nat → Int64} (x0 : Int32) : am_R 305 1 0 [.int x0] [] (am_hp g N sw lv I L) = cond (decide (0 ≤ x0)) (some (.inl (some (.int x0)), (am_hp g N sw lv I L))) (some (.inl (some (.int (-x0))), (am_hp g N sw lv I L))) := by
  exact am_go_eq 75 am_pr (fun p => false) 6 305 _ 0 _ _ _
def v_Ma_abs (x0 : Int32) : Int32 := (cond (decide (0 ≤ x0)) x0 (-x0))
theorem e_Ma_abs {g N : Nat} {sw lv : Bool} {I : Nat → Nat → Int32} {L : Nat → Nat → Int64} (x0 : Int32) : am_R 305 1 0 [.int x0] [] (am_hp g N sw lv I L) = some (.inl (some (.int (v_Ma_abs x0))), (am_hp g N sw lv I L)) := by
  refine (z_Ma_abs_0 _).trans ?_
  unfold v_Ma_abs
  cases (decide (0 ≤ x0))
  · rfl
  · rfl

/-! In.numberOfTrailingZeros -/
set_option maxRecDepth 100000 in
theorem z_In_numberOfTrailingZeros_0 {g N : Nat} {sw lv : Bool} {I : Nat → Nat → Int32} {L : Nat → Nat → Int64} (x0 : Int32) : am_R 306 1 0 [.int x0, am_u] [] (am_hp g N sw lv I L) = cond (decide (0 < ((x0 ^^^ (-1)) &&& (x0 - 1)))) (cond (decide (((x0 ^^^ (-1)) &&& (x0 - 1)) ≤ 65536)) (cond (decide (((x0 ^^^ (-1)) &&& (x0 - 1)) ≤ 256)) (cond (decide (((x0 ^^^ (-1)) &&& (x0 - 1)) ≤ 16)) (cond (decide (((x0 ^^^ (-1)) &&& (x0 - 1)) ≤ 4)) (some (.inl (some (.int (1 + (am_bin 8 ((x0 ^^^ (-1)) &&& (x0 - 1)) 1)))), (am_hp g N sw lv I L))) (some (.inl (some (.int ((1 + 2) + (am_bin 8 (am_bin 8 ((x0 ^^^ (-1)) &&& (x0 - 1)) 2) 1)))), (am_hp g N sw lv I L)))) (cond (decide ((am_bin 8 ((x0 ^^^ (-1)) &&& (x0 - 1)) 4) ≤ 4)) (some (.inl (some (.int ((1 + 4) + (am_bin 8 (am_bin 8 ((x0 ^^^ (-1)) &&& (x0 - 1)) 4) 1)))), (am_hp g N sw lv I L))) (some (.inl (some (.int (((1 + 4) + 2) + (am_bin 8 (am_bin 8 (am_bin 8 ((x0 ^^^ (-1)) &&& (x0 - 1)) 4) 2) 1)))), (am_hp g N sw lv I L))))) (cond (decide ((am_bin 8 ((x0 ^^^ (-1)) &&& (x0 - 1)) 8) ≤ 16)) (cond (decide ((am_bin 8 ((x0 ^^^ (-1)) &&& (x0 - 1)) 8) ≤ 4)) (some (.inl (some (.int ((1 + 8) + (am_bin 8 (am_bin 8 ((x0 ^^^ (-1)) &&& (x0 - 1)) 8) 1)))), (am_hp g N sw lv I L))) (some (.inl (some (.int (((1 + 8) + 2) + (am_bin 8 (am_bin 8 (am_bin 8 ((x0 ^^^ (-1)) &&& (x0 - 1)) 8) 2) 1)))), (am_hp g N sw lv I L)))) (cond (decide ((am_bin 8 (am_bin 8 ((x0 ^^^ (-1)) &&& (x0 - 1)) 8) 4) ≤ 4)) (some (.inl (some (.int (((1 + 8) + 4) + (am_bin 8 (am_bin 8 (am_bin 8 ((x0 ^^^ (-1)) &&& (x0 - 1)) 8) 4) 1)))), (am_hp g N sw lv I L))) (some (.inl (some (.int ((((1 + 8) + 4) + 2) + (am_bin 8 (am_bin 8 (am_bin 8 (am_bin 8 ((x0 ^^^ (-1)) &&& (x0 - 1)) 8) 4) 2) 1)))), (am_hp g N sw lv I L)))))) (cond (decide ((am_bin 8 ((x0 ^^^ (-1)) &&& (x0 - 1)) 16) ≤ 256)) (cond (decide ((am_bin 8 ((x0 ^^^ (-1)) &&& (x0 - 1)) 16) ≤ 16)) (cond (decide ((am_bin 8 ((x0 ^^^ (-1)) &&& (x0 - 1)) 16) ≤ 4)) (some (.inl (some (.int ((1 + 16) + (am_bin 8 (am_bin 8 ((x0 ^^^ (-1)) &&& (x0 - 1)) 16) 1)))), (am_hp g N sw lv I L))) (some (.inl (some (.int (((1 + 16) + 2) + (am_bin 8 (am_bin 8 (am_bin 8 ((x0 ^^^ (-1)) &&& (x0 - 1)) 16) 2) 1)))), (am_hp g N sw lv I L)))) (cond (decide ((am_bin 8 (am_bin 8 ((x0 ^^^ (-1)) &&& (x0 - 1)) 16) 4) ≤ 4)) (some (.inl (some (.int (((1 + 16) + 4) + (am_bin 8 (am_bin 8 (am_bin 8 ((x0 ^^^ (-1)) &&& (x0 - 1)) 16) 4) 1)))), (am_hp g N sw lv I L))) (some (.inl (some (.int ((((1 + 16) + 4) + 2) + (am_bin 8 (am_bin 8 (am_bin 8 (am_bin 8 ((x0 ^^^ (-1)) &&& (x0 - 1)) 16) 4) 2) 1)))), (am_hp g N sw lv I L))))) (cond (decide ((am_bin 8 (am_bin 8 ((x0 ^^^ (-1)) &&& (x0 - 1)) 16) 8) ≤ 16)) (cond (decide ((am_bin 8 (am_bin 8 ((x0 ^^^ (-1)) &&& (x0 - 1)) 16) 8) ≤ 4)) (some (.inl (some (.int (((1 + 16) + 8) + (am_bin 8 (am_bin 8 (am_bin 8 ((x0 ^^^ (-1)) &&& (x0 - 1)) 16) 8) 1)))), (am_hp g N sw lv I L))) (some (.inl (some (.int ((((1 + 16) + 8) + 2) + (am_bin 8 (am_bin 8 (am_bin 8 (am_bin 8 ((x0 ^^^ (-1)) &&& (x0 - 1)) 16) 8) 2) 1)))), (am_hp g N sw lv I L)))) (cond (decide ((am_bin 8 (am_bin 8 (am_bin 8 ((x0 ^^^ (-1)) &&& (x0 - 1)) 16) 8) 4) ≤ 4)) (some (.inl (some (.int ((((1 + 16) + 8) + 4) + (am_bin 8 (am_bin 8 (am_bin 8 (am_bin 8 ((x0 ^^^ (-1)) &&& (x0 - 1)) 16) 8) 4) 1)))), (am_hp g N sw lv I L))) (some (.inl (some (.int (((((1 + 16) + 8) + 4) + 2) + (am_bin 8 (am_bin 8 (am_bin 8 (am_bin 8 (am_bin 8 ((x0 ^^^ (-1)) &&& (x0 - 1)) 16) 8) 4) 2) 1)))), (am_hp g N sw lv I L))))))) (some (.inl (some (.int (((x0 ^^^ (-1)) &&& (x0 - 1)) &&& 32))), (am_hp g N sw lv I L))) := by
  exact am_go_eq 75 am_pr (fun p => false) 50 306 _ 0 _ _ _
def v_In_numberOfTrailingZeros (x0 : Int32) : Int32 := (cond (decide (0 < ((x0 ^^^ (-1)) &&& (x0 - 1)))) (cond (decide (((x0 ^^^ (-1)) &&& (x0 - 1)) ≤ 65536)) (cond (decide (((x0 ^^^ (-1)) &&& (x0 - 1)) ≤ 256)) (cond (decide (((x0 ^^^ (-1)) &&& (x0 - 1)) ≤ 16)) (cond (decide (((x0 ^^^ (-1)) &&& (x0 - 1)) ≤ 4)) (1 + (am_bin 8 ((x0 ^^^ (-1)) &&& (x0 - 1)) 1)) ((1 + 2) + (am_bin 8 (am_bin 8 ((x0 ^^^ (-1)) &&& (x0 - 1)) 2) 1))) (cond (decide ((am_bin 8 ((x0 ^^^ (-1)) &&& (x0 - 1)) 4) ≤ 4)) ((1 + 4) + (am_bin 8 (am_bin 8 ((x0 ^^^ (-1)) &&& (x0 - 1)) 4) 1)) (((1 + 4) + 2) + (am_bin 8 (am_bin 8 (am_bin 8 ((x0 ^^^ (-1)) &&& (x0 - 1)) 4) 2) 1)))) (cond (decide ((am_bin 8 ((x0 ^^^ (-1)) &&& (x0 - 1)) 8) ≤ 16)) (cond (decide ((am_bin 8 ((x0 ^^^ (-1)) &&& (x0 - 1)) 8) ≤ 4)) ((1 + 8) + (am_bin 8 (am_bin 8 ((x0 ^^^ (-1)) &&& (x0 - 1)) 8) 1)) (((1 + 8) + 2) + (am_bin 8 (am_bin 8 (am_bin 8 ((x0 ^^^ (-1)) &&& (x0 - 1)) 8) 2) 1))) (cond (decide ((am_bin 8 (am_bin 8 ((x0 ^^^ (-1)) &&& (x0 - 1)) 8) 4) ≤ 4)) (((1 + 8) + 4) + (am_bin 8 (am_bin 8 (am_bin 8 ((x0 ^^^ (-1)) &&& (x0 - 1)) 8) 4) 1)) ((((1 + 8) + 4) + 2) + (am_bin 8 (am_bin 8 (am_bin 8 (am_bin 8 ((x0 ^^^ (-1)) &&& (x0 - 1)) 8) 4) 2) 1))))) (cond (decide ((am_bin 8 ((x0 ^^^ (-1)) &&& (x0 - 1)) 16) ≤ 256)) (cond (decide ((am_bin 8 ((x0 ^^^ (-1)) &&& (x0 - 1)) 16) ≤ 16)) (cond (decide ((am_bin 8 ((x0 ^^^ (-1)) &&& (x0 - 1)) 16) ≤ 4)) ((1 + 16) + (am_bin 8 (am_bin 8 ((x0 ^^^ (-1)) &&& (x0 - 1)) 16) 1)) (((1 + 16) + 2) + (am_bin 8 (am_bin 8 (am_bin 8 ((x0 ^^^ (-1)) &&& (x0 - 1)) 16) 2) 1))) (cond (decide ((am_bin 8 (am_bin 8 ((x0 ^^^ (-1)) &&& (x0 - 1)) 16) 4) ≤ 4)) (((1 + 16) + 4) + (am_bin 8 (am_bin 8 (am_bin 8 ((x0 ^^^ (-1)) &&& (x0 - 1)) 16) 4) 1)) ((((1 + 16) + 4) + 2) + (am_bin 8 (am_bin 8 (am_bin 8 (am_bin 8 ((x0 ^^^ (-1)) &&& (x0 - 1)) 16) 4) 2) 1)))) (cond (decide ((am_bin 8 (am_bin 8 ((x0 ^^^ (-1)) &&& (x0 - 1)) 16) 8) ≤ 16)) (cond (decide ((am_bin 8 (am_bin 8 ((x0 ^^^ (-1)) &&& (x0 - 1)) 16) 8) ≤ 4)) (((1 + 16) + 8) + (am_bin 8 (am_bin 8 (am_bin 8 ((x0 ^^^ (-1)) &&& (x0 - 1)) 16) 8) 1)) ((((1 + 16) + 8) + 2) + (am_bin 8 (am_bin 8 (am_bin 8 (am_bin 8 ((x0 ^^^ (-1)) &&& (x0 - 1)) 16) 8) 2) 1))) (cond (decide ((am_bin 8 (am_bin 8 (am_bin 8 ((x0 ^^^ (-1)) &&& (x0 - 1)) 16) 8) 4) ≤ 4)) ((((1 + 16) + 8) + 4) + (am_bin 8 (am_bin 8 (am_bin 8 (am_bin 8 ((x0 ^^^ (-1)) &&& (x0 - 1)) 16) 8) 4) 1)) (((((1 + 16) + 8) + 4) + 2) + (am_bin 8 (am_bin 8 (am_bin 8 (am_bin 8 (am_bin 8 ((x0 ^^^ (-1)) &&& (x0 - 1)) 16) 8) 4) 2) 1)))))) (((x0 ^^^ (-1)) &&& (x0 - 1)) &&& 32))
theorem e_In_numberOfTrailingZeros {g N : Nat} {sw lv : Bool} {I : Nat → Nat → Int32} {L : Nat → Nat → Int64} (x0 : Int32) : am_R 306 1 0 [.int x0, am_u] [] (am_hp g N sw lv I L) = some (.inl (some (.int (v_In_numberOfTrailingZeros x0))), (am_hp g N sw lv I L)) := by
  refine (z_In_numberOfTrailingZeros_0 _).trans ?_
  unfold v_In_numberOfTrailingZeros
  cases (decide (0 < ((x0 ^^^ (-1)) &&& (x0 - 1))))
  · rfl
  · cases (decide (((x0 ^^^ (-1)) &&& (x0 - 1)) ≤ 65536))
    · cases (decide ((am_bin 8 ((x0 ^^^ (-1)) &&& (x0 - 1)) 16) ≤ 256))
      · cases (decide ((am_bin 8 (am_bin 8 ((x0 ^^^ (-1)) &&& (x0 - 1)) 16) 8) ≤ 16))
        · cases (decide ((am_bin 8 (am_bin 8 (am_bin 8 ((x0 ^^^ (-1)) &&& (x0 - 1)) 16) 8) 4) ≤ 4))
          · rfl
          · rfl
        · cases (decide ((am_bin 8 (am_bin 8 ((x0 ^^^ (-1)) &&& (x0 - 1)) 16) 8) ≤ 4))
          · rfl
          · rfl
      · cases (decide ((am_bin 8 ((x0 ^^^ (-1)) &&& (x0 - 1)) 16) ≤ 16))
        · cases (decide ((am_bin 8 (am_bin 8 ((x0 ^^^ (-1)) &&& (x0 - 1)) 16) 4) ≤ 4))
          · rfl
          · rfl
        · cases (decide ((am_bin 8 ((x0 ^^^ (-1)) &&& (x0 - 1)) 16) ≤ 4))
          · rfl
          · rfl
    · cases (decide (((x0 ^^^ (-1)) &&& (x0 - 1)) ≤ 256))
      · cases (decide ((am_bin 8 ((x0 ^^^ (-1)) &&& (x0 - 1)) 8) ≤ 16))
        · cases (decide ((am_bin 8 (am_bin 8 ((x0 ^^^ (-1)) &&& (x0 - 1)) 8) 4) ≤ 4))
          · rfl
          · rfl
        · cases (decide ((am_bin 8 ((x0 ^^^ (-1)) &&& (x0 - 1)) 8) ≤ 4))
          · rfl
          · rfl
      · cases (decide (((x0 ^^^ (-1)) &&& (x0 - 1)) ≤ 16))
        · cases (decide ((am_bin 8 ((x0 ^^^ (-1)) &&& (x0 - 1)) 4) ≤ 4))
          · rfl
          · rfl
        · cases (decide (((x0 ^^^ (-1)) &&& (x0 - 1)) ≤ 4))
          · rfl
          · rfl

/-! In.bitCount -/
set_option maxRecDepth 100000 in
theorem z_In_bitCount_0 {g N : Nat} {sw lv : Bool} {I : Nat → Nat → Int32} {L : Nat → Nat → Int64} (x0 : Int32) : am_R 307 1 0 [.int x0] [] (am_hp g N sw lv I L) = some (.inl (some (.int ((((((((x0 - ((am_bin 8 x0 1) &&& 1431655765)) &&& 858993459) + ((am_bin 8 (x0 - ((am_bin 8 x0 1) &&& 1431655765)) 2) &&& 858993459)) + (am_bin 8 (((x0 - ((am_bin 8 x0 1) &&& 1431655765)) &&& 858993459) + ((am_bin 8 (x0 - ((am_bin 8 x0 1) &&& 1431655765)) 2) &&& 858993459)) 4)) &&& 252645135) + (am_bin 8 (((((x0 - ((am_bin 8 x0 1) &&& 1431655765)) &&& 858993459) + ((am_bin 8 (x0 - ((am_bin 8 x0 1) &&& 1431655765)) 2) &&& 858993459)) + (am_bin 8 (((x0 - ((am_bin 8 x0 1) &&& 1431655765)) &&& 858993459) + ((am_bin 8 (x0 - ((am_bin 8 x0 1) &&& 1431655765)) 2) &&& 858993459)) 4)) &&& 252645135) 8)) + (am_bin 8 ((((((x0 - ((am_bin 8 x0 1) &&& 1431655765)) &&& 858993459) + ((am_bin 8 (x0 - ((am_bin 8 x0 1) &&& 1431655765)) 2) &&& 858993459)) + (am_bin 8 (((x0 - ((am_bin 8 x0 1) &&& 1431655765)) &&& 858993459) + ((am_bin 8 (x0 - ((am_bin 8 x0 1) &&& 1431655765)) 2) &&& 858993459)) 4)) &&& 252645135) + (am_bin 8 (((((x0 - ((am_bin 8 x0 1) &&& 1431655765)) &&& 858993459) + ((am_bin 8 (x0 - ((am_bin 8 x0 1) &&& 1431655765)) 2) &&& 858993459)) + (am_bin 8 (((x0 - ((am_bin 8 x0 1) &&& 1431655765)) &&& 858993459) + ((am_bin 8 (x0 - ((am_bin 8 x0 1) &&& 1431655765)) 2) &&& 858993459)) 4)) &&& 252645135) 8)) 16)) &&& 63))), (am_hp g N sw lv I L)) := by
  exact am_go_eq 75 am_pr (fun p => false) 42 307 _ 0 _ _ _
def v_In_bitCount (x0 : Int32) : Int32 := ((((((((x0 - ((am_bin 8 x0 1) &&& 1431655765)) &&& 858993459) + ((am_bin 8 (x0 - ((am_bin 8 x0 1) &&& 1431655765)) 2) &&& 858993459)) + (am_bin 8 (((x0 - ((am_bin 8 x0 1) &&& 1431655765)) &&& 858993459) + ((am_bin 8 (x0 - ((am_bin 8 x0 1) &&& 1431655765)) 2) &&& 858993459)) 4)) &&& 252645135) + (am_bin 8 (((((x0 - ((am_bin 8 x0 1) &&& 1431655765)) &&& 858993459) + ((am_bin 8 (x0 - ((am_bin 8 x0 1) &&& 1431655765)) 2) &&& 858993459)) + (am_bin 8 (((x0 - ((am_bin 8 x0 1) &&& 1431655765)) &&& 858993459) + ((am_bin 8 (x0 - ((am_bin 8 x0 1) &&& 1431655765)) 2) &&& 858993459)) 4)) &&& 252645135) 8)) + (am_bin 8 ((((((x0 - ((am_bin 8 x0 1) &&& 1431655765)) &&& 858993459) + ((am_bin 8 (x0 - ((am_bin 8 x0 1) &&& 1431655765)) 2) &&& 858993459)) + (am_bin 8 (((x0 - ((am_bin 8 x0 1) &&& 1431655765)) &&& 858993459) + ((am_bin 8 (x0 - ((am_bin 8 x0 1) &&& 1431655765)) 2) &&& 858993459)) 4)) &&& 252645135) + (am_bin 8 (((((x0 - ((am_bin 8 x0 1) &&& 1431655765)) &&& 858993459) + ((am_bin 8 (x0 - ((am_bin 8 x0 1) &&& 1431655765)) 2) &&& 858993459)) + (am_bin 8 (((x0 - ((am_bin 8 x0 1) &&& 1431655765)) &&& 858993459) + ((am_bin 8 (x0 - ((am_bin 8 x0 1) &&& 1431655765)) 2) &&& 858993459)) 4)) &&& 252645135) 8)) 16)) &&& 63)
theorem e_In_bitCount {g N : Nat} {sw lv : Bool} {I : Nat → Nat → Int32} {L : Nat → Nat → Int64} (x0 : Int32) : am_R 307 1 0 [.int x0] [] (am_hp g N sw lv I L) = some (.inl (some (.int (v_In_bitCount x0))), (am_hp g N sw lv I L)) := by
  refine (z_In_bitCount_0 _).trans ?_
  rfl
/-! Lo.bitCount -/
set_option maxRecDepth 100000 in
theorem z_Lo_bitCount_0 {g N : Nat} {sw lv : Bool} {I : Nat → Nat → Int32} {L : Nat → Nat → Int64} (x0 : Int64) : am_R 308 1 0 [.long x0, am_u] [] (am_hp g N sw lv I L) = some (.inl (some (.int ((Int64.toInt32 ((((((((x0 - ((am_shl 1 x0 1) &&& 6148914691236517205)) &&& 3689348814741910323) + ((am_shl 1 (x0 - ((am_shl 1 x0 1) &&& 6148914691236517205)) 2) &&& 3689348814741910323)) + (am_shl 1 (((x0 - ((am_shl 1 x0 1) &&& 6148914691236517205)) &&& 3689348814741910323) + ((am_shl 1 (x0 - ((am_shl 1 x0 1) &&& 6148914691236517205)) 2) &&& 3689348814741910323)) 4)) &&& 1085102592571150095) + (am_shl 1 (((((x0 - ((am_shl 1 x0 1) &&& 6148914691236517205)) &&& 3689348814741910323) + ((am_shl 1 (x0 - ((am_shl 1 x0 1) &&& 6148914691236517205)) 2) &&& 3689348814741910323)) + (am_shl 1 (((x0 - ((am_shl 1 x0 1) &&& 6148914691236517205)) &&& 3689348814741910323) + ((am_shl 1 (x0 - ((am_shl 1 x0 1) &&& 6148914691236517205)) 2) &&& 3689348814741910323)) 4)) &&& 1085102592571150095) 8)) + (am_shl 1 ((((((x0 - ((am_shl 1 x0 1) &&& 6148914691236517205)) &&& 3689348814741910323) + ((am_shl 1 (x0 - ((am_shl 1 x0 1) &&& 6148914691236517205)) 2) &&& 3689348814741910323)) + (am_shl 1 (((x0 - ((am_shl 1 x0 1) &&& 6148914691236517205)) &&& 3689348814741910323) + ((am_shl 1 (x0 - ((am_shl 1 x0 1) &&& 6148914691236517205)) 2) &&& 3689348814741910323)) 4)) &&& 1085102592571150095) + (am_shl 1 (((((x0 - ((am_shl 1 x0 1) &&& 6148914691236517205)) &&& 3689348814741910323) + ((am_shl 1 (x0 - ((am_shl 1 x0 1) &&& 6148914691236517205)) 2) &&& 3689348814741910323)) + (am_shl 1 (((x0 - ((am_shl 1 x0 1) &&& 6148914691236517205)) &&& 3689348814741910323) + ((am_shl 1 (x0 - ((am_shl 1 x0 1) &&& 6148914691236517205)) 2) &&& 3689348814741910323)) 4)) &&& 1085102592571150095) 8)) 16)) + (am_shl 1 (((((((x0 - ((am_shl 1 x0 1) &&& 6148914691236517205)) &&& 3689348814741910323) + ((am_shl 1 (x0 - ((am_shl 1 x0 1) &&& 6148914691236517205)) 2) &&& 3689348814741910323)) + (am_shl 1 (((x0 - ((am_shl 1 x0 1) &&& 6148914691236517205)) &&& 3689348814741910323) + ((am_shl 1 (x0 - ((am_shl 1 x0 1) &&& 6148914691236517205)) 2) &&& 3689348814741910323)) 4)) &&& 1085102592571150095) + (am_shl 1 (((((x0 - ((am_shl 1 x0 1) &&& 6148914691236517205)) &&& 3689348814741910323) + ((am_shl 1 (x0 - ((am_shl 1 x0 1) &&& 6148914691236517205)) 2) &&& 3689348814741910323)) + (am_shl 1 (((x0 - ((am_shl 1 x0 1) &&& 6148914691236517205)) &&& 3689348814741910323) + ((am_shl 1 (x0 - ((am_shl 1 x0 1) &&& 6148914691236517205)) 2) &&& 3689348814741910323)) 4)) &&& 1085102592571150095) 8)) + (am_shl 1 ((((((x0 - ((am_shl 1 x0 1) &&& 6148914691236517205)) &&& 3689348814741910323) + ((am_shl 1 (x0 - ((am_shl 1 x0 1) &&& 6148914691236517205)) 2) &&& 3689348814741910323)) + (am_shl 1 (((x0 - ((am_shl 1 x0 1) &&& 6148914691236517205)) &&& 3689348814741910323) + ((am_shl 1 (x0 - ((am_shl 1 x0 1) &&& 6148914691236517205)) 2) &&& 3689348814741910323)) 4)) &&& 1085102592571150095) + (am_shl 1 (((((x0 - ((am_shl 1 x0 1) &&& 6148914691236517205)) &&& 3689348814741910323) + ((am_shl 1 (x0 - ((am_shl 1 x0 1) &&& 6148914691236517205)) 2) &&& 3689348814741910323)) + (am_shl 1 (((x0 - ((am_shl 1 x0 1) &&& 6148914691236517205)) &&& 3689348814741910323) + ((am_shl 1 (x0 - ((am_shl 1 x0 1) &&& 6148914691236517205)) 2) &&& 3689348814741910323)) 4)) &&& 1085102592571150095) 8)) 16)) 32))) &&& 127))), (am_hp g N sw lv I L)) := by
  exact am_go_eq 75 am_pr (fun p => false) 49 308 _ 0 _ _ _
def v_Lo_bitCount (x0 : Int64) : Int32 := ((Int64.toInt32 ((((((((x0 - ((am_shl 1 x0 1) &&& 6148914691236517205)) &&& 3689348814741910323) + ((am_shl 1 (x0 - ((am_shl 1 x0 1) &&& 6148914691236517205)) 2) &&& 3689348814741910323)) + (am_shl 1 (((x0 - ((am_shl 1 x0 1) &&& 6148914691236517205)) &&& 3689348814741910323) + ((am_shl 1 (x0 - ((am_shl 1 x0 1) &&& 6148914691236517205)) 2) &&& 3689348814741910323)) 4)) &&& 1085102592571150095) + (am_shl 1 (((((x0 - ((am_shl 1 x0 1) &&& 6148914691236517205)) &&& 3689348814741910323) + ((am_shl 1 (x0 - ((am_shl 1 x0 1) &&& 6148914691236517205)) 2) &&& 3689348814741910323)) + (am_shl 1 (((x0 - ((am_shl 1 x0 1) &&& 6148914691236517205)) &&& 3689348814741910323) + ((am_shl 1 (x0 - ((am_shl 1 x0 1) &&& 6148914691236517205)) 2) &&& 3689348814741910323)) 4)) &&& 1085102592571150095) 8)) + (am_shl 1 ((((((x0 - ((am_shl 1 x0 1) &&& 6148914691236517205)) &&& 3689348814741910323) + ((am_shl 1 (x0 - ((am_shl 1 x0 1) &&& 6148914691236517205)) 2) &&& 3689348814741910323)) + (am_shl 1 (((x0 - ((am_shl 1 x0 1) &&& 6148914691236517205)) &&& 3689348814741910323) + ((am_shl 1 (x0 - ((am_shl 1 x0 1) &&& 6148914691236517205)) 2) &&& 3689348814741910323)) 4)) &&& 1085102592571150095) + (am_shl 1 (((((x0 - ((am_shl 1 x0 1) &&& 6148914691236517205)) &&& 3689348814741910323) + ((am_shl 1 (x0 - ((am_shl 1 x0 1) &&& 6148914691236517205)) 2) &&& 3689348814741910323)) + (am_shl 1 (((x0 - ((am_shl 1 x0 1) &&& 6148914691236517205)) &&& 3689348814741910323) + ((am_shl 1 (x0 - ((am_shl 1 x0 1) &&& 6148914691236517205)) 2) &&& 3689348814741910323)) 4)) &&& 1085102592571150095) 8)) 16)) + (am_shl 1 (((((((x0 - ((am_shl 1 x0 1) &&& 6148914691236517205)) &&& 3689348814741910323) + ((am_shl 1 (x0 - ((am_shl 1 x0 1) &&& 6148914691236517205)) 2) &&& 3689348814741910323)) + (am_shl 1 (((x0 - ((am_shl 1 x0 1) &&& 6148914691236517205)) &&& 3689348814741910323) + ((am_shl 1 (x0 - ((am_shl 1 x0 1) &&& 6148914691236517205)) 2) &&& 3689348814741910323)) 4)) &&& 1085102592571150095) + (am_shl 1 (((((x0 - ((am_shl 1 x0 1) &&& 6148914691236517205)) &&& 3689348814741910323) + ((am_shl 1 (x0 - ((am_shl 1 x0 1) &&& 6148914691236517205)) 2) &&& 3689348814741910323)) + (am_shl 1 (((x0 - ((am_shl 1 x0 1) &&& 6148914691236517205)) &&& 3689348814741910323) + ((am_shl 1 (x0 - ((am_shl 1 x0 1) &&& 6148914691236517205)) 2) &&& 3689348814741910323)) 4)) &&& 1085102592571150095) 8)) + (am_shl 1 ((((((x0 - ((am_shl 1 x0 1) &&& 6148914691236517205)) &&& 3689348814741910323) + ((am_shl 1 (x0 - ((am_shl 1 x0 1) &&& 6148914691236517205)) 2) &&& 3689348814741910323)) + (am_shl 1 (((x0 - ((am_shl 1 x0 1) &&& 6148914691236517205)) &&& 3689348814741910323) + ((am_shl 1 (x0 - ((am_shl 1 x0 1) &&& 6148914691236517205)) 2) &&& 3689348814741910323)) 4)) &&& 1085102592571150095) + (am_shl 1 (((((x0 - ((am_shl 1 x0 1) &&& 6148914691236517205)) &&& 3689348814741910323) + ((am_shl 1 (x0 - ((am_shl 1 x0 1) &&& 6148914691236517205)) 2) &&& 3689348814741910323)) + (am_shl 1 (((x0 - ((am_shl 1 x0 1) &&& 6148914691236517205)) &&& 3689348814741910323) + ((am_shl 1 (x0 - ((am_shl 1 x0 1) &&& 6148914691236517205)) 2) &&& 3689348814741910323)) 4)) &&& 1085102592571150095) 8)) 16)) 32))) &&& 127)
theorem e_Lo_bitCount {g N : Nat} {sw lv : Bool} {I : Nat → Nat → Int32} {L : Nat → Nat → Int64} (x0 : Int64) : am_R 308 1 0 [.long x0, am_u] [] (am_hp g N sw lv I L) = some (.inl (some (.int (v_Lo_bitCount x0))), (am_hp g N sw lv I L)) := by
  refine (z_Lo_bitCount_0 _).trans ?_
  rfl
