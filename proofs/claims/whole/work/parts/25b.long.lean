theorem lp_pc {n : Nat} (hn : n < 18446744073709551616) : v_Lo_bitCount (Int64.ofNat n) = Int32.ofNat (ct 64 (fun j => n.testBit j)) := by
  obtain ⟨m1, -, m3⟩ := lp_main 8 n
  have hL : lp_L 8 n = b_pc (n % 256) + 256 * (b_pc (n / 256 % 256) + 256 * (b_pc (n / 256 / 256 % 256) + 256 * (b_pc (n / 256 / 256 / 256 % 256) + 256 * (b_pc (n / 256 / 256 / 256 / 256 % 256) + 256 * (b_pc (n / 256 / 256 / 256 / 256 / 256 % 256) + 256 * (b_pc (n / 256 / 256 / 256 / 256 / 256 / 256 % 256) + 256 * (b_pc (n / 256 / 256 / 256 / 256 / 256 / 256 / 256 % 256) + 256 * 0))))))) := rfl
  have hS : lp_S 8 n = b_pc (n % 256) + (b_pc (n / 256 % 256) + (b_pc (n / 256 / 256 % 256) + (b_pc (n / 256 / 256 / 256 % 256) + (b_pc (n / 256 / 256 / 256 / 256 % 256) + (b_pc (n / 256 / 256 / 256 / 256 / 256 % 256) + (b_pc (n / 256 / 256 / 256 / 256 / 256 / 256 % 256) + (b_pc (n / 256 / 256 / 256 / 256 / 256 / 256 / 256 % 256) + 0))))))) := rfl
  have c5 : 85 * lp_R 8 = 6148914691236517205 := by decide
  have c3 : 51 * lp_R 8 = 3689348814741910323 := by decide
  have cf : 15 * lp_R 8 = 1085102592571150095 := by decide
  obtain ⟨u1, u2, u3, u4⟩ := lp_sum (b_pc_le _) (b_pc_le _) (b_pc_le _) (b_pc_le _) (b_pc_le _) (b_pc_le _) (b_pc_le _) (b_pc_le _) hL
  rw [← hS] at u1
  rw [show ct 64 (fun j => n.testBit j) = lp_S 8 n from lp_ct 8 n, ← u1]
  have hn1 : lp_1 8 n < 18446744073709551616 := Nat.lt_of_le_of_lt (Nat.sub_le _ _) hn
  have hn2 : lp_2 8 (lp_1 8 n) < 18446744073709551616 := by
    have a1 : lp_1 8 n &&& (51 * lp_R 8) ≤ 51 * lp_R 8 := Nat.and_le_right
    have a2 : (lp_1 8 n >>> 2) &&& (51 * lp_R 8) ≤ 51 * lp_R 8 := Nat.and_le_right
    rw [c3] at a1 a2
    show (lp_1 8 n &&& (51 * lp_R 8)) + ((lp_1 8 n >>> 2) &&& (51 * lp_R 8)) < _
    rw [c3]
    omega
  unfold v_Lo_bitCount
  have q1 : Int64.ofNat n - ((am_shl 1 (Int64.ofNat n) 1) &&& 6148914691236517205) = Int64.ofNat (lp_1 8 n) := by
    rw [li_1 hn, show (6148914691236517205 : Int64) = Int64.ofNat 6148914691236517205 from rfl, li_and]
    rw [c5] at m1
    rw [← Int64.ofNat_sub _ _ m1]
    show _ = Int64.ofNat (n - ((n >>> 1) &&& (85 * lp_R 8)))
    rw [c5]
  rw [q1]
  have q2 : ((Int64.ofNat (lp_1 8 n)) &&& 3689348814741910323) + ((am_shl 1 (Int64.ofNat (lp_1 8 n)) 2) &&& 3689348814741910323) = Int64.ofNat (lp_2 8 (lp_1 8 n)) := by
    rw [li_2 hn1, show (3689348814741910323 : Int64) = Int64.ofNat 3689348814741910323 from rfl, li_and, li_and, ← Int64.ofNat_add]
    show _ = Int64.ofNat ((lp_1 8 n &&& (51 * lp_R 8)) + ((lp_1 8 n >>> 2) &&& (51 * lp_R 8)))
    rw [c3]
  rw [q2]
  have q3 : ((Int64.ofNat (lp_2 8 (lp_1 8 n))) + (am_shl 1 (Int64.ofNat (lp_2 8 (lp_1 8 n))) 4)) &&& 1085102592571150095 = Int64.ofNat (lp_L 8 n) := by
    rw [li_4 hn2, ← Int64.ofNat_add, show (1085102592571150095 : Int64) = Int64.ofNat 1085102592571150095 from rfl, li_and, ← m3]
    show _ = Int64.ofNat ((lp_2 8 (lp_1 8 n) + (lp_2 8 (lp_1 8 n) >>> 4)) &&& (15 * lp_R 8))
    rw [cf]
  rw [q3, li_8 u2, ← Int64.ofNat_add, show lp_L 8 n >>> 8 = lp_L 8 n / 256 from Nat.shiftRight_eq_div_pow _ 8, li_16 u3, ← Int64.ofNat_add, show (lp_L 8 n + lp_L 8 n / 256) >>> 16 = (lp_L 8 n + lp_L 8 n / 256) / 65536 from Nat.shiftRight_eq_div_pow _ 16, li_32 u4, ← Int64.ofNat_add, show (lp_L 8 n + lp_L 8 n / 256 + (lp_L 8 n + lp_L 8 n / 256) / 65536) >>> 32 = (lp_L 8 n + lp_L 8 n / 256 + (lp_L 8 n + lp_L 8 n / 256) / 65536) / 4294967296 from Nat.shiftRight_eq_div_pow _ 32, Int64.toInt32_ofNat']
  rw [show ∀ a : Nat, Int32.ofNat a &&& 127 = Int32.ofNat (a &&& 127) from fun a => Int32.toBitVec.inj BitVec.ofNat_and.symm, show (127 : Nat) = 2 ^ 7 - 1 by decide, Nat.and_two_pow_sub_one_eq_mod]
theorem ct_ins {P : Nat → Bool} {v : Nat} : ∀ n, v < n → ct n (fun j => P j || decide (v = j)) = ct n P + cond (P v) 0 1
  | 0, h => by omega
  | n + 1, h => by
    show ct n (fun j => P j || decide (v = j)) + cond (P n || decide (v = n)) 1 0 = ct n P + cond (P n) 1 0 + cond (P v) 0 1
    by_cases e : v = n
    · subst e
      have : ct v (fun j => P j || decide (v = j)) = ct v P := ct_congr fun j hj => by
        rw [decide_eq_false (by omega : ¬ v = j), Bool.or_false]
      rw [this, decide_eq_true rfl, Bool.or_true]
      cases P v <;> rfl
    · rw [ct_ins n (by omega), decide_eq_false e, Bool.or_false]
      omega
theorem li_bit : ∀ v, v < 64 → (1 : Int64) <<< (Int32.toInt64 (Int32.ofNat v) &&& 63) = Int64.ofNat (2 ^ v) := by decide +kernel
/-- a set of numbers below 64, and one more -/
theorem li_ins {s v : Nat} (hv : v < 64) : Int64.ofNat s ||| ((1 : Int64) <<< (Int32.toInt64 (Int32.ofNat v) &&& 63)) = Int64.ofNat (s ||| 2 ^ v) := by
  rw [li_bit v hv, li_or]
theorem li_lt {s v : Nat} (hs : s < 18446744073709551616) (hv : v < 64) : s ||| 2 ^ v < 18446744073709551616 := Nat.or_lt_two_pow (n := 64) hs (Nat.pow_lt_pow_right (by decide) hv)
theorem lp_ins {s v : Nat} (hv : v < 64) : ct 64 (fun j => (s ||| 2 ^ v).testBit j) = ct 64 (fun j => s.testBit j) + cond (s.testBit v) 0 1 := by
  rw [← ct_ins (P := fun j => s.testBit j) 64 hv]
  refine ct_congr fun j _ => ?_
  rw [Nat.testBit_or, Nat.testBit_two_pow]
