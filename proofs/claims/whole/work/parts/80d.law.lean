/-! the law's switch -/
def lw_sw : List (Int32 × Nat) := [(0, 252), (1, 325), (2, 381), (3, 394), (4, 450), (5, 518), (6, 574), (7, 599), (8, 662), (9, 730), (10, 798), (11, 866), (12, 941), (13, 954), (14, 1034), (15, 1102), (16, 1158), (17, 1214), (18, 1227), (19, 1283), (20, 1351), (21, 1407), (22, 1463), (23, 1531), (24, 1599), (25, 1667), (26, 1723), (27, 1736), (28, 1792), (29, 1848), (30, 1904), (31, 1972), (32, 2040), (33, 2096), (34, 2109), (35, 2122), (36, 2178), (37, 2191), (38, 2259), (39, 2272), (40, 2285), (41, 2353), (42, 2449), (43, 2505), (44, 2561), (45, 2572), (46, 2664), (47, 2744), (48, 2755)]
theorem z_La_law_40 {g N : Nat} {sw lv : Bool} {I : Nat → Nat → Int32} {L : Nat → Nat → Int64} (x : Int32) (l : List Value) : am_R 300 105 40 l [.int x] (am_hp g N sw lv I L) = am_R 300 105 (am_tg lw_sw 2768 x) l [] (am_hp g N sw lv I L) := by
  refine (am_Run_eq 75 am_pr 300 105 40 l [.int x] (am_hp g N sw lv I L)).trans ?_
  exact am_sw_tg lw_sw
def lw_pc : List Nat := [252, 325, 381, 394, 450, 518, 574, 599, 662, 730, 798, 866, 941, 954, 1034, 1102, 1158, 1214, 1227, 1283, 1351, 1407, 1463, 1531, 1599, 1667, 1723, 1736, 1792, 1848, 1904, 1972, 2040, 2096, 2109, 2122, 2178, 2191, 2259, 2272, 2285, 2353, 2449, 2505, 2561, 2572, 2664, 2744, 2755, 2768, 2768, 2768, 2768, 2768, 2768, 2768, 2768, 2768, 2768, 2768, 2768, 2768, 2768, 2768]
theorem lw_tgt : ∀ n, n < 64 → am_tg lw_sw 2768 (Int32.ofNat n) = lw_pc.getD n 0 := by decide +kernel
theorem lw_and (x : Int32) : ∃ n, n < 64 ∧ x &&& 63 = Int32.ofNat n := by
  refine ⟨(x &&& 63).toBitVec.toNat, ?_, ?_⟩
  · have : (x &&& 63).toBitVec = x.toBitVec &&& 63#32 := rfl
    rw [this, BitVec.toNat_and]
    exact Nat.lt_of_le_of_lt Nat.and_le_right (by decide)
  · refine Int32.toBitVec.inj ?_
    show _ = BitVec.ofNat 32 _
    rw [BitVec.ofNat_toNat, BitVec.setWidth_eq]
