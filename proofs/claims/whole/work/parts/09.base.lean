/-! numbers and bits -/
theorem nb_tn {n : Nat} (h : n < 100000) : (Int32.ofNat n).toNatClampNeg = n := Int32.toNatClampNeg_ofNat_of_lt (by omega)
theorem nb_ti {n : Nat} (h : n < 100000) : (Int32.ofNat n).toInt = n := Int32.toInt_ofNat_of_lt (by omega)
theorem nb_lt {a b : Nat} (ha : a < 100000) (hb : b < 100000) : Int32.ofNat a < Int32.ofNat b ↔ a < b := by
  rw [Int32.lt_iff_toInt_lt, nb_ti ha, nb_ti hb]
  omega
theorem nb_le {a b : Nat} (ha : a < 100000) (hb : b < 100000) : Int32.ofNat a ≤ Int32.ofNat b ↔ a ≤ b := by
  rw [Int32.le_iff_toInt_le, nb_ti ha, nb_ti hb]
  omega
theorem nb_eq {a b : Nat} (ha : a < 100000) (hb : b < 100000) : Int32.ofNat a = Int32.ofNat b ↔ a = b := by
  constructor
  · intro h
    have := congrArg Int32.toInt h
    rw [nb_ti ha, nb_ti hb] at this
    omega
  · intro h
    rw [h]
theorem nb_dlt {a b : Nat} (ha : a < 100000) (hb : b < 100000) : decide (Int32.ofNat a < Int32.ofNat b) = decide (a < b) := decide_eq_decide.mpr (nb_lt ha hb)
theorem nb_dle {a b : Nat} (ha : a < 100000) (hb : b < 100000) : decide (Int32.ofNat a ≤ Int32.ofNat b) = decide (a ≤ b) := decide_eq_decide.mpr (nb_le ha hb)
theorem nb_deq {a b : Nat} (ha : a < 100000) (hb : b < 100000) : decide (Int32.ofNat a = Int32.ofNat b) = decide (a = b) := decide_eq_decide.mpr (nb_eq ha hb)
theorem nb_inb {i m : Nat} (h : i < m) (hi : i < 100000) : am_inb (Int32.ofNat i) m = true := by
  unfold am_inb
  rw [decide_eq_true_iff]
  intro q
  rcases q with q | q
  · rw [Int32.lt_iff_toInt_lt, nb_ti hi] at q
    have : (0 : Int32).toInt = 0 := by decide
    omega
  · rw [nb_tn hi] at q
    omega
theorem nb_s (a : Nat) : Int32.ofNat a + 1 = Int32.ofNat (a + 1) := by
  rw [Int32.ofNat_add]
  rfl
theorem nb_add (a b : Nat) : Int32.ofNat a + Int32.ofNat b = Int32.ofNat (a + b) := (Int32.ofNat_add _ _).symm
theorem nb_0 : (0 : Int32) = Int32.ofNat 0 := rfl
theorem nb_1 : (1 : Int32) = Int32.ofNat 1 := rfl
theorem nb_nn {a : Nat} (ha : a < 100000) : ¬ Int32.ofNat a < 0 := by
  rw [nb_0, nb_lt ha (by decide)]
  omega
theorem nb_n1 {a : Nat} (ha : a < 100000) : Int32.ofNat a ≠ -1 := by
  intro h
  have := congrArg Int32.toInt h
  rw [nb_ti ha] at this
  have q : (-1 : Int32).toInt = -1 := by decide
  omega
theorem nb_pred {a : Nat} : Int32.ofNat (a + 1) + (-1) = Int32.ofNat a := by
  rw [Int32.ofNat_add, Int32.add_assoc]
  show Int32.ofNat a + 0 = _
  rw [Int32.add_zero]
theorem c_t {α : Type} {c : Bool} {a b : α} (h : c = true) : cond c a b = a := by rw [h]; rfl
theorem c_f {α : Type} {c : Bool} {a b : α} (h : c = false) : cond c a b = b := by rw [h]; rfl
theorem d_t {α : Type} {p : Prop} [Decidable p] {a b : α} (h : p) : cond (decide p) a b = a := by rw [decide_eq_true h]; rfl
theorem d_f {α : Type} {p : Prop} [Decidable p] {a b : α} (h : ¬ p) : cond (decide p) a b = b := by rw [decide_eq_false h]; rfl
def b_on (s h : Nat) : Nat := s ||| 2 ^ h
def b_off (s h : Nat) : Nat := s &&& (255 - 2 ^ h)
def b_no (n s : Nat) : Nat := 2 ^ n - 1 - s
theorem bt_a : ∀ s, s < 256 → ∀ h, h < 8 → decide (((Int32.ofNat s >>> (Int32.ofNat h &&& 31)) &&& 1) = 0) = !(s.testBit h) := by decide +kernel
theorem bt_on : ∀ s, s < 256 → ∀ h, h < 8 → Int32.ofNat s ||| (1 <<< (Int32.ofNat h &&& 31)) = Int32.ofNat (b_on s h) := by decide +kernel
theorem bt_off : ∀ s, s < 256 → ∀ h, h < 8 → Int32.ofNat s &&& ((1 <<< (Int32.ofNat h &&& 31)) ^^^ (-1)) = Int32.ofNat (b_off s h) := by decide +kernel
theorem bt_or (a : Nat) (_ : a < 256) (b : Nat) (_ : b < 256) : Int32.ofNat a ||| Int32.ofNat b = Int32.ofNat (a ||| b) := Int32.toBitVec.inj BitVec.ofNat_or.symm
theorem bt_xor (a : Nat) (_ : a < 256) (b : Nat) (_ : b < 256) : Int32.ofNat a ^^^ Int32.ofNat b = Int32.ofNat (a ^^^ b) := Int32.toBitVec.inj BitVec.ofNat_xor.symm
theorem bt_and (a : Nat) (_ : a < 256) (b : Nat) (_ : b < 256) : Int32.ofNat a &&& Int32.ofNat b = Int32.ofNat (a &&& b) := Int32.toBitVec.inj BitVec.ofNat_and.symm
theorem bt_shl : ∀ h, h < 8 → (1 : Int32) <<< (Int32.ofNat h &&& 31) = Int32.ofNat (2 ^ h) := by decide +kernel
theorem b_on_at {s h j : Nat} : (b_on s h).testBit j = (s.testBit j || decide (h = j)) := by
  unfold b_on
  rw [Nat.testBit_or, Nat.testBit_two_pow]
theorem b_off_at : ∀ s, s < 256 → ∀ h, h < 8 → ∀ j, j < 8 → (b_off s h).testBit j = (s.testBit j && !decide (h = j)) := by decide +kernel
theorem b_off_lt {s h n : Nat} (hs : s < 2 ^ n) : b_off s h < 2 ^ n := Nat.lt_of_le_of_lt Nat.and_le_left hs
theorem b_on_lt {s h n : Nat} (hs : s < 2 ^ n) (hh : h < n) : b_on s h < 2 ^ n := Nat.or_lt_two_pow hs (Nat.pow_lt_pow_right (by decide) hh)
theorem b_no_at : ∀ n, n < 9 → ∀ s, s < 2 ^ n → ∀ h, h < n → (b_no n s).testBit h = !(s.testBit h) := by decide +kernel
theorem b_no_on : ∀ n, n < 9 → ∀ s, s < 2 ^ n → ∀ h, h < n → b_on (b_no n s) h = b_no n (b_off s h) := by decide +kernel
theorem b_no_off : ∀ n, n < 9 → ∀ s, s < 2 ^ n → ∀ h, h < n → b_off (b_no n s) h = b_no n (b_on s h) := by decide +kernel
theorem b_no_lt : ∀ n, n < 9 → ∀ s, s < 2 ^ n → b_no n s < 256 := by decide +kernel
theorem b_stand : ∀ n, n < 9 → ∀ s, s < 2 ^ n → ((1 <<< (Int32.ofNat n &&& 31)) - 1) &&& ((Int32.ofNat (b_no n s)) ^^^ (-1)) = Int32.ofNat s := by decide +kernel
theorem b_256 {n s : Nat} (hn : n ≤ 8) (hs : s < 2 ^ n) : s < 256 := Nat.lt_of_lt_of_le hs (Nat.pow_le_pow_right (by decide) hn : 2 ^ n ≤ 2 ^ 8)
/-- who of the first n is in -/
def bs : Nat → (Nat → Bool) → Nat
  | 0, _ => 0
  | n + 1, P => bs n P ||| cond (P n) (2 ^ n) 0
theorem bs_lt : ∀ (n : Nat) (P : Nat → Bool), bs n P < 2 ^ n
  | 0, _ => Nat.zero_lt_one
  | n + 1, P => by
    unfold bs
    refine Nat.or_lt_two_pow (Nat.lt_trans (bs_lt n P) (Nat.pow_lt_pow_right (by decide) (Nat.lt_succ_self n))) ?_
    cases P n with
    | true => exact Nat.pow_lt_pow_right (by decide) (Nat.lt_succ_self n)
    | false => exact Nat.two_pow_pos _
theorem bs_at : ∀ (n : Nat) (P : Nat → Bool) (h : Nat), (bs n P).testBit h = (decide (h < n) && P h)
  | 0, P, h => by
    unfold bs
    rw [Nat.zero_testBit]
    rfl
  | n + 1, P, h => by
    unfold bs
    rw [Nat.testBit_or, bs_at n P h]
    by_cases e : n = h
    · subst e
      cases hp : P n <;> simp [Nat.testBit_two_pow]
    · have : decide (h < n + 1) = decide (h < n) := decide_eq_decide.mpr ⟨fun q => by omega, fun q => by omega⟩
      rw [this]
      cases hp : P n
      · simp [Nat.zero_testBit]
      · simp [Nat.testBit_two_pow, e]
theorem bs_congr : ∀ {n : Nat} {P Q : Nat → Bool}, (∀ h, h < n → P h = Q h) → bs n P = bs n Q
  | 0, _, _, _ => rfl
  | n + 1, P, Q, h => by
    unfold bs
    rw [bs_congr (fun j hj => h j (by omega)), h n (Nat.lt_succ_self n)]
theorem bs_eq {n s : Nat} {P : Nat → Bool} (hs : s < 2 ^ n) (h : ∀ j, j < n → s.testBit j = P j) : s = bs n P := by
  refine Nat.eq_of_testBit_eq fun j => ?_
  rw [bs_at]
  by_cases hj : j < n
  · rw [h j hj, decide_eq_true hj]
    rfl
  · rw [decide_eq_false hj, Nat.testBit_lt_two_pow (Nat.lt_of_lt_of_le hs (Nat.pow_le_pow_right (by decide) (by omega)))]
    rfl
theorem bs_t {P : Nat → Bool} {k : Nat} (h : P k = true) : bs (k + 1) P = bs k P ||| 2 ^ k := by
  show bs k P ||| cond (P k) (2 ^ k) 0 = _
  rw [h]
  rfl
theorem bs_f {P : Nat → Bool} {k : Nat} (h : P k = false) : bs (k + 1) P = bs k P := by
  show bs k P ||| cond (P k) (2 ^ k) 0 = _
  rw [h]
  exact Nat.or_zero _
/-- how many bits -/
def ct : Nat → (Nat → Bool) → Nat
  | 0, _ => 0
  | n + 1, P => ct n P + cond (P n) 1 0
def b_pc (s : Nat) : Nat := ct 8 (fun h => s.testBit h)
theorem ct_le : ∀ (n : Nat) (P : Nat → Bool), ct n P ≤ n
  | 0, _ => Nat.le_refl _
  | n + 1, P => by
    have := ct_le n P
    unfold ct
    cases P n
    · show ct n P + 0 ≤ n + 1
      omega
    · show ct n P + 1 ≤ n + 1
      omega
theorem b_pc_le (s : Nat) : b_pc s ≤ 8 := ct_le 8 _
theorem ct_congr : ∀ {n : Nat} {P Q : Nat → Bool}, (∀ h, h < n → P h = Q h) → ct n P = ct n Q
  | 0, _, _, _ => rfl
  | n + 1, P, Q, h => by
    unfold ct
    rw [ct_congr (fun j hj => h j (by omega)), h n (Nat.lt_succ_self n)]
theorem ct_cut {n : Nat} {P : Nat → Bool} : ∀ c, ct (n + c) (fun h => decide (h < n) && P h) = ct n P
  | 0 => ct_congr fun h hh => by rw [decide_eq_true (show h < n from hh)]; rfl
  | c + 1 => by
    show ct (n + c) (fun h => decide (h < n) && P h) + cond (decide (n + c < n) && P (n + c)) 1 0 = _
    rw [ct_cut c, decide_eq_false (by omega)]
    rfl
theorem b_pc_bs {n : Nat} {P : Nat → Bool} (hn : n ≤ 8) : b_pc (bs n P) = ct n P := by
  unfold b_pc
  rw [ct_congr (fun h _ => bs_at n P h)]
  have := ct_cut (n := n) (P := P) (8 - n)
  rw [show n + (8 - n) = 8 by omega] at this
  exact this
/-- a fold over 0 .. n - 1 -/
def fd {α : Type} : Nat → (Nat → α → α) → α → α
  | 0, _, a => a
  | n + 1, f, a => f n (fd n f a)
theorem fd_congr {α : Type} : ∀ {n : Nat} {f g : Nat → α → α} {a : α}, (∀ k, k < n → ∀ x, f k x = g k x) → fd n f a = fd n g a
  | 0, _, _, _, _ => rfl
  | n + 1, f, g, a, h => by
    unfold fd
    rw [fd_congr (fun k hk => h k (by omega)), h n (Nat.lt_succ_self n)]
theorem upd_same {f : Nat → Int32} {k : Nat} {x : Int32} : upd f k x k = x := if_pos rfl
theorem upd_ne {f : Nat → Int32} {k j : Nat} {x : Int32} (h : j ≠ k) : upd f k x j = f j := if_neg h
theorem bt_v : ∀ v, v < 256 → ∀ q, q < 8 → (Int32.ofNat v >>> (Int32.ofNat q &&& 31)) &&& 1 = cond (v.testBit q) 1 0 := by decide +kernel
theorem bt_sh : ∀ h, h < 8 → ∀ c : Bool, (cond c 1 0 : Int32) <<< (Int32.ofNat h &&& 31) = Int32.ofNat (cond c (2 ^ h) 0) := by decide +kernel
theorem bt_bit (v : Nat) (hv : v < 256) (q : Nat) (hq : q < 8) (h : Nat) (hh : h < 8) : ((Int32.ofNat v >>> (Int32.ofNat q &&& 31)) &&& 1) <<< (Int32.ofNat h &&& 31) = Int32.ofNat (cond (v.testBit q) (2 ^ h) 0) := by
  rw [bt_v v hv q hq]
  exact bt_sh h hh _
theorem b_pc_c : ∀ s, s < 256 → v_In_bitCount (Int32.ofNat s) = Int32.ofNat (b_pc s) := by decide +kernel
theorem nb_mul (a b : Nat) : Int32.ofNat a * Int32.ofNat b = Int32.ofNat (a * b) := (Int32.ofNat_mul _ _).symm
theorem nb_two (a : Nat) : 2 * Int32.ofNat a = Int32.ofNat (2 * a) := nb_mul 2 a
theorem b_2p {h : Nat} (hh : h < 8) : 2 ^ h < 256 := Nat.pow_lt_pow_right (n := 8) (by decide) hh
theorem b_c2 {c : Bool} {h : Nat} (hh : h < 8) : cond c (2 ^ h) 0 < 256 := by
  cases c
  · exact Nat.zero_lt_succ 255
  · exact b_2p hh
theorem bs_256 {n : Nat} {P : Nat → Bool} (hn : n ≤ 8) : bs n P < 256 := b_256 hn (bs_lt n P)
theorem i_nlt {x y : Int32} : ¬ x < y ↔ y ≤ x := Int32.not_lt
theorem i_nle {x y : Int32} : ¬ x ≤ y ↔ y < x := Int32.not_le
theorem i_dnlt {x y : Int32} : decide (x < y) = !decide (y ≤ x) := by
  by_cases h : x < y
  · rw [decide_eq_true h, decide_eq_false (i_nle.mpr h)]
    rfl
  · rw [decide_eq_false h, decide_eq_true (i_nlt.mp h)]
    rfl
theorem c_not {α : Type} {c : Bool} {a b : α} : cond (!c) a b = cond c b a := by cases c <;> rfl
theorem narrowZ (b : Bool) : decide (narrow (am_ty 3) (.int (cond b 1 0)) = .int (cond b 1 0)) = true := by cases b <;> decide
