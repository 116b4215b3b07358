/-! the bits of a long, counted -/
theorem lp_and {x m : Nat} (hx : x < 256) (hm : m < 256) (y M : Nat) : (x + 256 * y) &&& (m + 256 * M) = (x &&& m) + 256 * (y &&& M) := by
  refine Nat.eq_of_testBit_eq fun j => ?_
  have h1 : (x &&& m) < 2 ^ 8 := Nat.lt_of_le_of_lt Nat.and_le_left hx
  rw [Nat.testBit_and, show x + 256 * y = 2 ^ 8 * y + x by omega, show m + 256 * M = 2 ^ 8 * M + m by omega, show (x &&& m) + 256 * (y &&& M) = 2 ^ 8 * (y &&& M) + (x &&& m) by omega, Nat.testBit_two_pow_mul_add _ hx, Nat.testBit_two_pow_mul_add _ hm, Nat.testBit_two_pow_mul_add _ h1]
  by_cases h : j < 8
  · rw [if_pos h, if_pos h, if_pos h, Nat.testBit_and]
  · rw [if_neg h, if_neg h, if_neg h, Nat.testBit_and]
theorem lp_shr {x m s : Nat} (hx : x < 256) (hs : s ≤ 8) (hm : m < 2 ^ (8 - s)) (y M : Nat) : ((x + 256 * y) >>> s) &&& (m + 256 * M) = ((x >>> s) &&& m) + 256 * ((y >>> s) &&& M) := by
  have hm8 : m < 2 ^ 8 := Nat.lt_of_lt_of_le hm (Nat.pow_le_pow_right (by decide) (by omega))
  refine Nat.eq_of_testBit_eq fun j => ?_
  have h1 : ((x >>> s) &&& m) < 2 ^ 8 := Nat.lt_of_le_of_lt Nat.and_le_right hm8
  rw [Nat.testBit_and, Nat.testBit_shiftRight, show x + 256 * y = 2 ^ 8 * y + x by omega, show m + 256 * M = 2 ^ 8 * M + m by omega, show ((x >>> s) &&& m) + 256 * ((y >>> s) &&& M) = 2 ^ 8 * ((y >>> s) &&& M) + ((x >>> s) &&& m) by omega, Nat.testBit_two_pow_mul_add _ hx, Nat.testBit_two_pow_mul_add _ hm8, Nat.testBit_two_pow_mul_add _ h1]
  by_cases h : j < 8
  · rw [if_pos h, if_pos h, Nat.testBit_and, Nat.testBit_shiftRight]
    by_cases h2 : s + j < 8
    · rw [if_pos h2]
    · rw [Nat.testBit_lt_two_pow (Nat.lt_of_lt_of_le hm (Nat.pow_le_pow_right (by decide) (show 8 - s ≤ j by omega))), Bool.and_false, Bool.and_false]
  · rw [if_neg h, if_neg h, if_neg (by omega), Nat.testBit_and, Nat.testBit_shiftRight, show s + j - 8 = s + (j - 8) by omega]
/-- as many bytes of 1 -/
def lp_R : Nat → Nat
  | 0 => 0
  | k + 1 => 1 + 256 * lp_R k
def lp_1 (k n : Nat) : Nat := n - ((n >>> 1) &&& (85 * lp_R k))
def lp_2 (k n : Nat) : Nat := (n &&& (51 * lp_R k)) + ((n >>> 2) &&& (51 * lp_R k))
def lp_3 (k n : Nat) : Nat := (n + (n >>> 4)) &&& (15 * lp_R k)
theorem lp_b : ∀ x, x < 256 → (x >>> 1) &&& 85 ≤ x ∧ x - ((x >>> 1) &&& 85) < 256 ∧ ((x - ((x >>> 1) &&& 85)) &&& 51) + (((x - ((x >>> 1) &&& 85)) >>> 2) &&& 51) ≤ 68 ∧ (((x - ((x >>> 1) &&& 85)) &&& 51) + (((x - ((x >>> 1) &&& 85)) >>> 2) &&& 51)) % 16 ≤ 4 ∧ ((((x - ((x >>> 1) &&& 85)) &&& 51) + (((x - ((x >>> 1) &&& 85)) >>> 2) &&& 51)) + ((((x - ((x >>> 1) &&& 85)) &&& 51) + (((x - ((x >>> 1) &&& 85)) >>> 2) &&& 51)) >>> 4)) &&& 15 = b_pc x := by decide +kernel
/-- the counts, a byte each -/
def lp_L : Nat → Nat → Nat
  | 0, _ => 0
  | k + 1, n => b_pc (n % 256) + 256 * lp_L k (n / 256)
theorem lp_main : ∀ k n, (n >>> 1) &&& (85 * lp_R k) ≤ n ∧ lp_2 k (lp_1 k n) % 16 ≤ 4 ∧ lp_3 k (lp_2 k (lp_1 k n)) = lp_L k n
  | 0, n => by
    refine ⟨?_, ?_, ?_⟩
    · show (n >>> 1) &&& 0 ≤ n
      rw [Nat.and_zero]
      exact Nat.zero_le _
    · show ((lp_1 0 n &&& 0) + ((lp_1 0 n >>> 2) &&& 0)) % 16 ≤ 4
      rw [Nat.and_zero, Nat.and_zero]
      decide
    · show _ &&& 0 = 0
      rw [Nat.and_zero]
  | k + 1, n => by
    obtain ⟨i1, i2, i3⟩ := lp_main k (n / 256)
    have hx : n % 256 < 256 := Nat.mod_lt _ (by decide)
    have hn : n % 256 + 256 * (n / 256) = n := Nat.mod_add_div n 256
    obtain ⟨b1, b2, b3, b4, b5⟩ := lp_b (n % 256) hx
    generalize hX : n % 256 = x at *
    generalize hY : n / 256 = y at *
    have r5 : 85 * lp_R (k + 1) = 85 + 256 * (85 * lp_R k) := by
      show 85 * (1 + 256 * lp_R k) = _
      omega
    have r3 : 51 * lp_R (k + 1) = 51 + 256 * (51 * lp_R k) := by
      show 51 * (1 + 256 * lp_R k) = _
      omega
    have rf : 15 * lp_R (k + 1) = 15 + 256 * (15 * lp_R k) := by
      show 15 * (1 + 256 * lp_R k) = _
      omega
    have e1 : (n >>> 1) &&& (85 * lp_R (k + 1)) = ((x >>> 1) &&& 85) + 256 * ((y >>> 1) &&& (85 * lp_R k)) := by
      rw [r5, ← hn]
      exact lp_shr hx (by decide) (by decide) _ _
    have f1 : lp_1 (k + 1) n = (x - ((x >>> 1) &&& 85)) + 256 * lp_1 k y := by
      unfold lp_1
      rw [e1]
      omega
    generalize hx1 : x - ((x >>> 1) &&& 85) = x1 at *
    have f2 : lp_2 (k + 1) (lp_1 (k + 1) n) = ((x1 &&& 51) + ((x1 >>> 2) &&& 51)) + 256 * lp_2 k (lp_1 k y) := by
      show (lp_1 (k + 1) n &&& (51 * lp_R (k + 1))) + ((lp_1 (k + 1) n >>> 2) &&& (51 * lp_R (k + 1))) = _ + 256 * ((lp_1 k y &&& (51 * lp_R k)) + ((lp_1 k y >>> 2) &&& (51 * lp_R k)))
      rw [f1, r3, lp_and b2 (by decide), lp_shr b2 (by decide) (by decide)]
      omega
    generalize hx2 : (x1 &&& 51) + ((x1 >>> 2) &&& 51) = x2 at *
    generalize hy2 : lp_2 k (lp_1 k y) = y2 at *
    refine ⟨?_, ?_, ?_⟩
    · rw [e1]
      omega
    · rw [f2]
      omega
    · rw [f2]
      have s4 : ∀ a : Nat, a >>> 4 = a / 16 := fun a => Nat.shiftRight_eq_div_pow a 4
      have key : (x2 + 256 * y2) + ((x2 + 256 * y2) >>> 4) = (x2 + x2 / 16 + 16 * (y2 % 16)) + 256 * (y2 + (y2 >>> 4)) := by
        rw [s4, s4]
        omega
      have hlo : x2 + x2 / 16 + 16 * (y2 % 16) < 256 := by omega
      have lo : (x2 + x2 / 16 + 16 * (y2 % 16)) &&& 15 = (x2 + (x2 >>> 4)) &&& 15 := by
        rw [s4, show (15 : Nat) = 2 ^ 4 - 1 by decide, Nat.and_two_pow_sub_one_eq_mod, Nat.and_two_pow_sub_one_eq_mod]
        omega
      show ((x2 + 256 * y2) + ((x2 + 256 * y2) >>> 4)) &&& (15 * lp_R (k + 1)) = b_pc (n % 256) + 256 * lp_L k (n / 256)
      rw [key, rf, lp_and hlo (by decide), lo, b5, hX, hY]
      have i3' : (y2 + (y2 >>> 4)) &&& (15 * lp_R k) = lp_L k y := i3
      rw [i3']
theorem ct_add {P : Nat → Bool} (a : Nat) : ∀ b, ct (a + b) P = ct a P + ct b (fun j => P (a + j))
  | 0 => rfl
  | b + 1 => by
    show ct (a + b) P + cond (P (a + b)) 1 0 = ct a P + (ct b (fun j => P (a + j)) + cond (P (a + b)) 1 0)
    rw [ct_add a b]
    omega
/-- .. and added up -/
def lp_S : Nat → Nat → Nat
  | 0, _ => 0
  | k + 1, n => b_pc (n % 256) + lp_S k (n / 256)
theorem lp_ct : ∀ k n, ct (8 * k) (fun j => n.testBit j) = lp_S k n
  | 0, _ => rfl
  | k + 1, n => by
    rw [show 8 * (k + 1) = 8 + 8 * k by omega, ct_add]
    show _ = ct 8 (fun h => (n % 256).testBit h) + lp_S k (n / 256)
    rw [← lp_ct k (n / 256)]
    congr 1
    · refine ct_congr fun h hh => ?_
      rw [show (256 : Nat) = 2 ^ 8 by decide, Nat.testBit_mod_two_pow, decide_eq_true hh]
      rfl
    · refine ct_congr fun h _ => ?_
      rw [show (256 : Nat) = 2 ^ 8 by decide, Nat.testBit_div_two_pow, Nat.add_comm]
theorem lp_dv {m x y : Nat} (h : x < m) : (x + m * y) / m = y := by
  rw [Nat.add_mul_div_left _ _ (by omega), Nat.div_eq_of_lt h, Nat.zero_add]
theorem lq_4 (a b c d e f g h : Nat) : (a + 256 * (b + 256 * (c + 256 * (d + 256 * (e + 256 * (f + 256 * (g + 256 * (h + 256 * 0)))))))) + (b + 256 * (c + 256 * (d + 256 * (e + 256 * (f + 256 * (g + 256 * (h + 256 * 0))))))) = ((a + b) + 256 * (b + c)) + 65536 * ((c + d) + 256 * ((d + e) + 256 * ((e + f) + 256 * ((f + g) + 256 * ((g + h) + 256 * h))))) := by omega
theorem lq_5 (a b c d e f g h : Nat) : (((a + b) + 256 * (b + c)) + 65536 * ((c + d) + 256 * ((d + e) + 256 * ((e + f) + 256 * ((f + g) + 256 * ((g + h) + 256 * h)))))) + ((c + d) + 256 * ((d + e) + 256 * ((e + f) + 256 * ((f + g) + 256 * ((g + h) + 256 * h))))) = ((a + b + c + d) + 256 * ((b + c + d + e) + 256 * ((c + d + e + f) + 256 * (d + e + f + g)))) + 4294967296 * ((e + f + g + h) + 256 * ((f + g + h) + 256 * ((g + h) + 256 * h))) := by omega
theorem lq_6 (a b c d e f g h : Nat) : (((a + b + c + d) + 256 * ((b + c + d + e) + 256 * ((c + d + e + f) + 256 * (d + e + f + g)))) + 4294967296 * ((e + f + g + h) + 256 * ((f + g + h) + 256 * ((g + h) + 256 * h)))) + ((e + f + g + h) + 256 * ((f + g + h) + 256 * ((g + h) + 256 * h))) = (a + (b + (c + (d + (e + (f + (g + (h + 0)))))))) + 128 * (2 * ((b + c + d + e) + (f + g + h) + 256 * ((c + d + e + f) + (g + h) + 256 * ((d + e + f + g) + h + 256 * ((e + f + g + h) + 256 * ((f + g + h) + 256 * ((g + h) + 256 * h))))))) := by omega
theorem lp_sum {a b c d e f g h : Nat} (ha : a ≤ 8) (hb : b ≤ 8) (hc : c ≤ 8) (hd : d ≤ 8) (he : e ≤ 8) (hf : f ≤ 8) (hg : g ≤ 8) (hh : h ≤ 8) {A : Nat} (hA : A = a + 256 * (b + 256 * (c + 256 * (d + 256 * (e + 256 * (f + 256 * (g + 256 * (h + 256 * 0)))))))) : (A + A / 256 + (A + A / 256) / 65536 + (A + A / 256 + (A + A / 256) / 65536) / 4294967296) % 128 = a + (b + (c + (d + (e + (f + (g + (h + 0))))))) ∧ A < 18446744073709551616 ∧ A + A / 256 < 18446744073709551616 ∧ A + A / 256 + (A + A / 256) / 65536 < 18446744073709551616 := by
  have e4 : A / 256 = b + 256 * (c + 256 * (d + 256 * (e + 256 * (f + 256 * (g + 256 * (h + 256 * 0)))))) := by
    rw [hA]
    exact lp_dv (Nat.lt_of_le_of_lt ha (by decide))
  rw [e4, hA, lq_4, lp_dv (m := 65536) (x := (a + b) + 256 * (b + c)) (by clear e4 hA; omega), lq_5, lp_dv (m := 4294967296) (x := (a + b + c + d) + 256 * ((b + c + d + e) + 256 * ((c + d + e + f) + 256 * (d + e + f + g)))) (by clear e4 hA; omega), lq_6, Nat.add_mul_mod_self_left, Nat.mod_eq_of_lt (by clear e4 hA; omega)]
  clear e4 hA
  refine ⟨rfl, ?_, ?_, ?_⟩ <;> omega
theorem li_sh {a k : Nat} (ha : a < 18446744073709551616) {y : Int32} (hk : k < 64) (hy : (y.toInt64.toUInt64 &&& Int64.toUInt64 63).toBitVec = BitVec.ofNat 64 k) : am_shl 1 (Int64.ofNat a) y = Int64.ofNat (a >>> k) := by
  refine Int64.toBitVec.inj ?_
  show ((UInt64.ofNat a) >>> (y.toInt64.toUInt64 &&& Int64.toUInt64 63)).toBitVec = BitVec.ofNat 64 (a >>> k)
  rw [UInt64.toBitVec_shiftRight, hy]
  refine BitVec.eq_of_toNat_eq ?_
  have hlt : a >>> k < 18446744073709551616 := Nat.lt_of_le_of_lt (Nat.shiftRight_le a k) ha
  show (BitVec.ofNat 64 a >>> (BitVec.ofNat 64 k % 64#64)).toNat = (a >>> k) % 2 ^ 64
  have hk2 : (BitVec.ofNat 64 k % 64#64).toNat = k := by
    rw [BitVec.toNat_umod, BitVec.toNat_ofNat]
    show k % 2 ^ 64 % 64 = k
    omega
  rw [BitVec.ushiftRight_eq', hk2, BitVec.toNat_ushiftRight, BitVec.toNat_ofNat, Nat.mod_eq_of_lt ha, Nat.mod_eq_of_lt hlt]
theorem li_and (a b : Nat) : Int64.ofNat a &&& Int64.ofNat b = Int64.ofNat (a &&& b) := Int64.toBitVec.inj BitVec.ofNat_and.symm
theorem li_or (a b : Nat) : Int64.ofNat a ||| Int64.ofNat b = Int64.ofNat (a ||| b) := Int64.toBitVec.inj BitVec.ofNat_or.symm
theorem li_1 {a : Nat} (ha : a < 18446744073709551616) : am_shl 1 (Int64.ofNat a) 1 = Int64.ofNat (a >>> 1) := li_sh ha (by decide) (by decide)
theorem li_2 {a : Nat} (ha : a < 18446744073709551616) : am_shl 1 (Int64.ofNat a) 2 = Int64.ofNat (a >>> 2) := li_sh ha (by decide) (by decide)
theorem li_4 {a : Nat} (ha : a < 18446744073709551616) : am_shl 1 (Int64.ofNat a) 4 = Int64.ofNat (a >>> 4) := li_sh ha (by decide) (by decide)
theorem li_8 {a : Nat} (ha : a < 18446744073709551616) : am_shl 1 (Int64.ofNat a) 8 = Int64.ofNat (a >>> 8) := li_sh ha (by decide) (by decide)
theorem li_16 {a : Nat} (ha : a < 18446744073709551616) : am_shl 1 (Int64.ofNat a) 16 = Int64.ofNat (a >>> 16) := li_sh ha (by decide) (by decide)
theorem li_32 {a : Nat} (ha : a < 18446744073709551616) : am_shl 1 (Int64.ofNat a) 32 = Int64.ofNat (a >>> 32) := li_sh ha (by decide) (by decide)
