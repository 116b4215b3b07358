/-! TEXT AND TOKENS -/
def st_l (sa : Nat) : List Nat := cond (Nat.ble sa 42) (cond (Nat.ble sa 28) (cond (Nat.ble sa 20) (cond (Nat.ble sa 16) ([59, 40, 41, 43, 45, 42, 47, 60, 61]) (cond (Nat.ble sa 18) ([104, 101, 97, 100]) ([109, 97, 114, 98, 108, 101, 100]))) (cond (Nat.ble sa 24) (cond (Nat.ble sa 22) ([115, 117, 103, 97, 114]) ([97, 108, 109, 111, 110, 100])) (cond (Nat.ble sa 26) ([104, 101, 97, 116]) ([108, 101, 97, 110])))) (cond (Nat.ble sa 34) (cond (Nat.ble sa 30) ([100, 97, 121]) (cond (Nat.ble sa 32) ([108, 101, 102, 116]) ([114, 105, 103, 104, 116]))) (cond (Nat.ble sa 38) (cond (Nat.ble sa 36) ([109, 101, 108, 116, 115]) ([108, 101, 97, 110, 115])) (cond (Nat.ble sa 40) ([110, 111, 116]) ([97, 110, 100]))))) (cond (Nat.ble sa 56) (cond (Nat.ble sa 48) (cond (Nat.ble sa 44) ([111, 114]) (cond (Nat.ble sa 46) ([104, 101, 97, 100]) ([109, 97, 114, 98, 108, 101, 100]))) (cond (Nat.ble sa 52) (cond (Nat.ble sa 50) ([104, 101, 97, 116]) ([109, 101, 108, 116, 115])) (cond (Nat.ble sa 54) ([110, 111, 116]) ([111, 114])))) (cond (Nat.ble sa 64) (cond (Nat.ble sa 60) (cond (Nat.ble sa 58) ([97, 110, 100]) ([108, 101, 97, 110, 115])) (cond (Nat.ble sa 62) ([115, 117, 103, 97, 114]) ([97, 108, 109, 111, 110, 100]))) (cond (Nat.ble sa 68) (cond (Nat.ble sa 66) ([108, 101, 97, 110]) ([100, 97, 121])) (cond (Nat.ble sa 70) ([108, 101, 102, 116]) ([114, 105, 103, 104, 116])))))
def st_w (w : Nat) : Int32 := cond (Nat.ble w 7) (cond (Nat.ble w 3) (cond (Nat.ble w 1) ((-1)) (cond (Nat.ble w 2) ((-1)) ((-1)))) (cond (Nat.ble w 5) (cond (Nat.ble w 4) ((-1)) ((-1))) (cond (Nat.ble w 6) ((-1)) ((-1))))) (cond (Nat.ble w 10) (cond (Nat.ble w 8) ((0)) (cond (Nat.ble w 9) ((1)) ((2)))) (cond (Nat.ble w 12) (cond (Nat.ble w 11) ((3)) ((4))) (cond (Nat.ble w 13) ((5)) ((6)))))
/-- the constants: texts and words -/
def sO (I : Nat → Nat → Int32) : Prop := (∀ sa, am_ist sa → I sa 1 = 0 ∧ ∀ k, k < (st_l sa).length → I (sa + 1) k = Int32.ofNat ((st_l sa).getD k 0)) ∧ ∀ w, am_isw w → I w 1 = st_w w
theorem st_ln {N sa : Nat} (h : am_ist sa) : (am_SH N (sa + 1)).2 = (st_l sa).length := by
  rcases h with rfl | rfl | rfl | rfl | rfl | rfl | rfl | rfl | rfl | rfl | rfl | rfl | rfl | rfl | rfl | rfl | rfl | rfl | rfl | rfl | rfl | rfl | rfl | rfl | rfl | rfl | rfl | rfl | rfl <;> rfl
theorem st_128 {sa : Nat} (h : am_ist sa) : (st_l sa).length < 10 ∧ ∀ k, k < 10 → (st_l sa).getD k 0 < 128 := by
  rcases h with rfl | rfl | rfl | rfl | rfl | rfl | rfl | rfl | rfl | rfl | rfl | rfl | rfl | rfl | rfl | rfl | rfl | rfl | rfl | rfl | rfl | rfl | rfl | rfl | rfl | rfl | rfl | rfl | rfl <;> decide
theorem sO_lo {I I' : Nat → Nat → Int32} (h : sO I) (e : ∀ a, a < 75 → I' a = I a) : sO I' := by
  refine ⟨fun sa hs => ?_, fun w hw => ?_⟩
  · have hl : sa + 1 < 75 := by
      rcases hs with rfl | rfl | rfl | rfl | rfl | rfl | rfl | rfl | rfl | rfl | rfl | rfl | rfl | rfl | rfl | rfl | rfl | rfl | rfl | rfl | rfl | rfl | rfl | rfl | rfl | rfl | rfl | rfl | rfl <;> decide
    rw [e sa (by omega), e (sa + 1) hl]
    exact h.1 sa hs
  · rw [e w (by rcases hw with rfl | rfl | rfl | rfl | rfl | rfl | rfl | rfl | rfl | rfl | rfl | rfl | rfl | rfl <;> decide)]
    exact h.2 w hw
/-- on while P holds, at most c steps -/
def sc (P : Nat → Bool) : Nat → Nat → Nat
  | 0, p => p
  | c + 1, p => cond (P p) (sc P c (p + 1)) p
theorem sc_ge (P : Nat → Bool) : ∀ c p, p ≤ sc P c p
  | 0, _ => Nat.le_refl _
  | c + 1, p => by
    unfold sc
    cases P p with
    | true => exact Nat.le_trans (Nat.le_succ p) (sc_ge P c (p + 1))
    | false => exact Nat.le_refl _
theorem sc_le (P : Nat → Bool) : ∀ c p, sc P c p ≤ p + c
  | 0, _ => Nat.le_refl _
  | c + 1, p => by
    unfold sc
    cases P p with
    | true =>
      have := sc_le P c (p + 1)
      show sc P c (p + 1) ≤ _
      omega
    | false => exact Nat.le_add_right _ _
theorem sc_all (P : Nat → Bool) : ∀ c p j, p ≤ j → j < sc P c p → P j = true
  | 0, p, j, h1, h2 => by
    have : j < p := h2
    omega
  | c + 1, p, j, h1, h2 => by
    unfold sc at h2
    cases hp : P p with
    | true =>
      rw [hp] at h2
      by_cases q : j = p
      · rw [q]
        exact hp
      · exact sc_all P c (p + 1) j (by omega) h2
    | false =>
      rw [hp] at h2
      have : j < p := h2
      omega
theorem sc_end (P : Nat → Bool) : ∀ c p, sc P c p < p + c → P (sc P c p) = false
  | 0, p, h => by
    have : p < p := h
    omega
  | c + 1, p, h => by
    unfold sc at h ⊢
    cases hp : P p with
    | true =>
      rw [hp] at h
      exact sc_end P c (p + 1) (by
        have : sc P c (p + 1) < p + (c + 1) := h
        omega)
    | false => exact hp
theorem sc_pos {P : Nat → Bool} {c p : Nat} (h : P p = true) (hc : 0 < c) : p < sc P c p := by
  cases c with
  | zero => omega
  | succ c =>
    unfold sc
    rw [h]
    exact sc_ge P c (p + 1)
/-- a text: its length, its bytes -/
abbrev x_X : Type := Nat × (Nat → Nat)
def x_ok (X : x_X) : Prop := X.1 ≤ 700 ∧ ∀ i, i < X.1 → X.2 i < 256
def x_sp (X : x_X) (p : Nat) : Bool := decide (X.2 p = 32) || decide (X.2 p = 10)
def x_lt (X : x_X) (p : Nat) : Bool := decide (97 ≤ X.2 p) && decide (X.2 p ≤ 122)
def x_dg (X : x_X) (p : Nat) : Bool := decide (48 ≤ X.2 p) && decide (X.2 p ≤ 57)
def x_mk (b : Nat) : Bool := decide (b = 59) || decide (b = 40) || decide (b = 41) || decide (b = 43) || decide (b = 45) || decide (b = 42) || decide (b = 47) || decide (b = 60) || decide (b = 61)
def x_S (X : x_X) (q : Nat) : Nat := sc (x_sp X) (X.1 - q) q
def x_Ks (X : x_X) (s : Nat) : Nat := cond (decide (X.1 ≤ s)) 0 (cond (x_lt X s) 1 (cond (x_dg X s) 2 (cond (x_mk (X.2 s)) (X.2 s) 3)))
def x_Es (X : x_X) (s : Nat) : Nat := cond (decide (X.1 ≤ s)) s (cond (x_lt X s) (sc (x_lt X) (X.1 - s) s) (cond (x_dg X s) (sc (x_dg X) (X.1 - s) s) (s + 1)))
def x_K (X : x_X) (q : Nat) : Nat := x_Ks X (x_S X q)
def x_E (X : x_X) (q : Nat) : Nat := x_Es X (x_S X q)
def x_v (X : x_X) (s : Nat) : Nat → Nat
  | 0 => 0
  | k + 1 => cond (decide (k < 4)) (10 * x_v X s k + (X.2 (s + k) - 48)) 10000
def x_N (X : x_X) (q : Nat) : Nat := x_v X (x_S X q) (x_E X q - x_S X q)
theorem x_S_le {X : x_X} {q : Nat} (h : q ≤ X.1) : q ≤ x_S X q ∧ x_S X q ≤ X.1 := by
  have h1 := sc_ge (x_sp X) (X.1 - q) q
  have h2 := sc_le (x_sp X) (X.1 - q) q
  unfold x_S
  omega
theorem x_Es_le {X : x_X} {s : Nat} (h : s ≤ X.1) : s ≤ x_Es X s ∧ x_Es X s ≤ X.1 ∧ (s < X.1 → s < x_Es X s) := by
  unfold x_Es
  by_cases q : X.1 ≤ s
  · rw [d_t q]
    omega
  · rw [d_f q]
    cases h1 : x_lt X s with
    | true =>
      have a1 := sc_le (x_lt X) (X.1 - s) s
      have a2 := sc_pos (c := X.1 - s) h1 (by omega)
      rw [cond_true]
      omega
    | false =>
      rw [cond_false]
      cases h2 : x_dg X s with
      | true =>
        have a1 := sc_le (x_dg X) (X.1 - s) s
        have a2 := sc_pos (c := X.1 - s) h2 (by omega)
        rw [cond_true]
        omega
      | false =>
        rw [cond_false]
        omega
theorem x_E_le {X : x_X} {q : Nat} (h : q ≤ X.1) : q ≤ x_E X q ∧ x_E X q ≤ X.1 ∧ x_S X q ≤ x_E X q := by
  have h1 := x_S_le h
  have h2 := x_Es_le h1.2
  unfold x_E
  omega
/-- no end: something is read -/
theorem x_E_lt {X : x_X} {q : Nat} (h : q ≤ X.1) (hk : x_K X q ≠ 0) : q < x_E X q := by
  have h1 := x_S_le h
  have h2 := x_Es_le h1.2
  have h3 : x_S X q < X.1 := by
    refine Nat.lt_of_not_le fun w => hk ?_
    unfold x_K x_Ks
    rw [d_t w]
  unfold x_E
  omega
theorem x_v_le {X : x_X} (s : Nat) (hx : ∀ k, X.2 (s + k) - 48 ≤ 9) : ∀ k, (k ≤ 4 → x_v X s k < 10 ^ k) ∧ x_v X s k ≤ 10000
  | 0 => ⟨fun _ => by show (0 : Nat) < 1; omega, Nat.zero_le _⟩
  | k + 1 => by
    obtain ⟨i1, i2⟩ := x_v_le s hx k
    have hk := hx k
    unfold x_v
    by_cases q : k < 4
    · rw [d_t q]
      have := i1 (by omega)
      have hp : 10 ^ (k + 1) = 10 * 10 ^ k := by rw [Nat.pow_succ, Nat.mul_comm]
      have h4 : 10 ^ (k + 1) ≤ 10 ^ 4 := Nat.pow_le_pow_right (by decide) (by omega)
      exact ⟨fun _ => by omega, by omega⟩
    · rw [d_f q]
      exact ⟨fun w => by omega, Nat.le_refl _⟩
def sb (b : Nat) : Int32 := (Int32.ofNat b).toInt8.toInt32
theorem sb_1 : ∀ b, b < 256 → (decide (sb b = 32) = decide (b = 32) ∧ decide (sb b = 10) = decide (b = 10)) ∧ decide (v_Ta_isIn (sb b) 97 122 = 0) = !(decide (97 ≤ b) && decide (b ≤ 122)) ∧ decide (v_Ta_isIn (sb b) 48 57 = 0) = !(decide (48 ≤ b) && decide (b ≤ 57)) ∧ sb b &&& 255 = Int32.ofNat b ∧ (b < 128 → sb b = Int32.ofNat b) := by decide +kernel
theorem mb_1 : ∀ b, b < 256 → (decide (Int32.ofNat b = 32) = decide (b = 32) ∧ decide (Int32.ofNat b = 10) = decide (b = 10)) ∧ decide (v_Mo_isLetter (Int32.ofNat b) = 0) = !(decide (97 ≤ b) && decide (b ≤ 122)) ∧ decide (v_Mo_isDigit (Int32.ofNat b) = 0) = !(decide (48 ≤ b) && decide (b ≤ 57)) ∧ decide (v_Mo_isMark (Int32.ofNat b) = 0) = !(x_mk b) := by decide +kernel
theorem mb_n : v_Mo_isLetter (-1) = 0 ∧ v_Mo_isDigit (-1) = 0 := by decide
/-- the class's tape holds the text -/
def cB (X : x_X) (I : Nat → Nat → Int32) : Prop := I 77 2 = Int32.ofNat X.1 ∧ ∀ i, i < X.1 → I 78 i = sb (X.2 i)
/-- .. and stands at the token that begins behind q -/
def cT (X : x_X) (q : Nat) (I : Nat → Nat → Int32) : Prop := cB X I ∧ I 77 3 = Int32.ofNat (x_E X q) ∧ I 77 4 = Int32.ofNat (x_K X q) ∧ I 77 5 = Int32.ofNat (x_S X q) ∧ (x_K X q = 2 → I 77 6 = Int32.ofNat (x_N X q))
theorem cB_fr {X : x_X} {I I' : Nat → Nat → Int32} (h : cB X I) (e1 : I' 77 2 = I 77 2) (e2 : I' 78 = I 78) : cB X I' := by
  unfold cB
  rw [e1, e2]
  exact h
theorem cT_fr {X : x_X} {q : Nat} {I I' : Nat → Nat → Int32} (h : cT X q I) (e1 : I' 77 = I 77) (e2 : I' 78 = I 78) : cT X q I' := by
  unfold cT cB
  rw [e1, e2]
  exact h
section TOK
variable {g N : Nat} {sw lv : Bool} {I : Nat → Nat → Int32} {L : Nat → Nat → Int64} {X : x_X}
theorem C_stA (hx : x_ok X) : ∀ c p (I1 : Nat → Nat → Int32), p + c = X.1 → cB X I1 → I1 77 3 = Int32.ofNat p → ∃ I2, am_R 61 8 0 [.ref 77, am_u] [] (am_hp g N sw lv I1 L) = am_R 61 8 52 [.ref 77, am_u] [] (am_hp g N sw lv I2 L) ∧ I2 77 3 = Int32.ofNat (sc (x_sp X) c p) ∧ (∀ a, a ≠ 77 → I2 a = I1 a) ∧ ∀ j, j ≠ 3 → I2 77 j = I1 77 j
  | 0, p, I1, hc, hb, h3 => by
    have hn := hx.1
    refine ⟨I1, ?_, h3, fun _ _ => rfl, fun _ _ => rfl⟩
    rw [y_Ta_step_0, hb.1, h3, nb_dle (by omega) (by omega), d_t (by omega : X.1 ≤ p)]
  | c + 1, p, I1, hc, hb, h3 => by
    have hn := hx.1
    have hp : p < X.1 := by omega
    obtain ⟨⟨s1, s2⟩, -⟩ := sb_1 _ (hx.2 p hp)
    have e0 : am_R 61 8 0 [.ref 77, am_u] [] (am_hp g N sw lv I1 L) = cond (x_sp X p) (am_R 61 8 0 [.ref 77, am_u] [] (am_hp g N sw lv (am_up I1 77 (upd (I1 77) 3 (Int32.ofNat (p + 1)))) L)) (am_R 61 8 52 [.ref 77, am_u] [] (am_hp g N sw lv I1 L)) := by
      rw [y_Ta_step_0, hb.1, h3, nb_dle (by omega) (by omega), d_f (by omega : ¬ X.1 ≤ p), nb_inb (show p < 700 by omega) (by omega), nb_tn (by omega), hb.2 p hp, s1, s2, y_Ta_step_39, h3, nb_s]
      unfold x_sp
      cases decide (X.2 p = 32) <;> cases decide (X.2 p = 10) <;> rfl
    rw [e0]
    unfold sc
    cases hs : x_sp X p with
    | false => exact ⟨I1, rfl, h3, fun _ _ => rfl, fun _ _ => rfl⟩
    | true =>
      obtain ⟨I2, b1, b2, b3, b4⟩ := C_stA hx c (p + 1) (am_up I1 77 (upd (I1 77) 3 (Int32.ofNat (p + 1)))) (by omega) (cB_fr hb (by rw [up_same, upd_ne (by decide)]) (up_ne (by decide))) (by rw [up_same, upd_same])
      exact ⟨I2, b1, b2, fun a q => by rw [b3 a q, up_ne q], fun j q => by rw [b4 j q, up_same, upd_ne q]⟩
theorem C_stL (hx : x_ok X) : ∀ c p (I1 : Nat → Nat → Int32), p + c = X.1 → cB X I1 → I1 77 3 = Int32.ofNat p → ∃ I2, am_R 61 8 103 [.ref 77, am_u] [] (am_hp g N sw lv I1 L) = some (.inl none, am_hp g N sw lv I2 L) ∧ I2 77 3 = Int32.ofNat (sc (x_lt X) c p) ∧ (∀ a, a ≠ 77 → I2 a = I1 a) ∧ ∀ j, j ≠ 3 → I2 77 j = I1 77 j
  | 0, p, I1, hc, hb, h3 => by
    have hn := hx.1
    refine ⟨I1, ?_, h3, fun _ _ => rfl, fun _ _ => rfl⟩
    rw [y_Ta_step_103, hb.1, h3, nb_dle (by omega) (by omega), d_t (by omega : X.1 ≤ p), y_Ta_step_304]
  | c + 1, p, I1, hc, hb, h3 => by
    have hn := hx.1
    have hp : p < X.1 := by omega
    obtain ⟨-, s1, -⟩ := sb_1 _ (hx.2 p hp)
    have e0 : am_R 61 8 103 [.ref 77, am_u] [] (am_hp g N sw lv I1 L) = cond (x_lt X p) (am_R 61 8 103 [.ref 77, am_u] [] (am_hp g N sw lv (am_up I1 77 (upd (I1 77) 3 (Int32.ofNat (p + 1)))) L)) (some (.inl none, am_hp g N sw lv I1 L)) := by
      rw [y_Ta_step_103, hb.1, h3, nb_dle (by omega) (by omega), d_f (by omega : ¬ X.1 ≤ p), nb_inb (show p < 700 by omega) (by omega), nb_tn (by omega), hb.2 p hp, s1, y_Ta_step_304, nb_s, c_not]
      rfl
    rw [e0]
    unfold sc
    cases hs : x_lt X p with
    | false => exact ⟨I1, rfl, h3, fun _ _ => rfl, fun _ _ => rfl⟩
    | true =>
      obtain ⟨I2, b1, b2, b3, b4⟩ := C_stL hx c (p + 1) (am_up I1 77 (upd (I1 77) 3 (Int32.ofNat (p + 1)))) (by omega) (cB_fr hb (by rw [up_same, upd_ne (by decide)]) (up_ne (by decide))) (by rw [up_same, upd_same])
      exact ⟨I2, b1, b2, fun a q => by rw [b3 a q, up_ne q], fun j q => by rw [b4 j q, up_same, upd_ne q]⟩
theorem x_dg9 {p : Nat} (h : x_dg X p = true) : 48 ≤ X.2 p ∧ X.2 p ≤ 57 := by
  unfold x_dg at h
  rw [Bool.and_eq_true, decide_eq_true_iff, decide_eq_true_iff] at h
  exact h
theorem x_v_b {s p : Nat} (hd : ∀ j, s ≤ j → j < p → x_dg X j = true) : ∀ k, s + k ≤ p → (k ≤ 4 → x_v X s k < 10 ^ k) ∧ x_v X s k ≤ 10000
  | 0, _ => ⟨fun _ => by show (0 : Nat) < 1; omega, Nat.zero_le _⟩
  | k + 1, h => by
    obtain ⟨i1, i2⟩ := x_v_b hd k (by omega)
    have hk := x_dg9 (hd (s + k) (by omega) (by omega))
    unfold x_v
    by_cases q : k < 4
    · rw [d_t q]
      have := i1 (by omega)
      have hp : 10 ^ (k + 1) = 10 * 10 ^ k := by rw [Nat.pow_succ, Nat.mul_comm]
      have h4 : 10 ^ (k + 1) ≤ 10 ^ 4 := Nat.pow_le_pow_right (by decide) (by omega)
      exact ⟨fun _ => by omega, by omega⟩
    · rw [d_f q]
      exact ⟨fun w => by omega, Nat.le_refl _⟩
theorem C_stD (hx : x_ok X) {s : Nat} : ∀ c p (I1 : Nat → Nat → Int32), p + c = X.1 → s ≤ p → (∀ j, s ≤ j → j < p → x_dg X j = true) → cB X I1 → I1 77 3 = Int32.ofNat p → I1 77 5 = Int32.ofNat s → I1 77 6 = Int32.ofNat (x_v X s (p - s)) → ∃ I2, am_R 61 8 175 [.ref 77, am_u] [] (am_hp g N sw lv I1 L) = some (.inl none, am_hp g N sw lv I2 L) ∧ I2 77 3 = Int32.ofNat (sc (x_dg X) c p) ∧ I2 77 6 = Int32.ofNat (x_v X s (sc (x_dg X) c p - s)) ∧ (∀ a, a ≠ 77 → I2 a = I1 a) ∧ ∀ j, j ≠ 3 → j ≠ 6 → I2 77 j = I1 77 j
  | 0, p, I1, hc, hsp, hd, hb, h3, h5, h6 => by
    have hn := hx.1
    refine ⟨I1, ?_, h3, h6, fun _ _ => rfl, fun _ _ _ => rfl⟩
    rw [y_Ta_step_175, hb.1, h3, nb_dle (by omega) (by omega), d_t (by omega : X.1 ≤ p), y_Ta_step_304]
  | c + 1, p, I1, hc, hsp, hd, hb, h3, h5, h6 => by
    have hn := hx.1
    have hp : p < X.1 := by omega
    obtain ⟨-, -, s1, -, s3⟩ := sb_1 _ (hx.2 p hp)
    obtain ⟨v1, v2⟩ := x_v_b hd (p - s) (by omega)
    have e4 : decide ((4 : Int32) ≤ Int32.ofNat p - Int32.ofNat s) = decide (4 ≤ p - s) := by
      rw [← Int32.ofNat_sub p s hsp]
      exact nb_dle (a := 4) (by decide) (by omega)
    have ev : x_v X s (p + 1 - s) = cond (decide (p - s < 4)) (10 * x_v X s (p - s) + (X.2 p - 48)) 10000 := by
      rw [show p + 1 - s = (p - s) + 1 by omega]
      show cond (decide (p - s < 4)) (10 * x_v X s (p - s) + (X.2 (s + (p - s)) - 48)) 10000 = _
      rw [show s + (p - s) = p by omega]
    have e0 : am_R 61 8 175 [.ref 77, am_u] [] (am_hp g N sw lv I1 L) = cond (x_dg X p) (am_R 61 8 175 [.ref 77, am_u] [] (am_hp g N sw lv (am_up (am_up I1 77 (upd (I1 77) 6 (Int32.ofNat (x_v X s (p + 1 - s))))) 77 (upd (upd (I1 77) 6 (Int32.ofNat (x_v X s (p + 1 - s)))) 3 (Int32.ofNat (p + 1)))) L)) (some (.inl none, am_hp g N sw lv I1 L)) := by
      have u : ∀ y : Int32, upd (I1 77) 6 y 3 = Int32.ofNat p := fun y => by rw [upd_ne (by decide)]; exact h3
      rw [y_Ta_step_175, hb.1, h3, nb_dle (by omega) (by omega), d_f (by omega : ¬ X.1 ≤ p), nb_inb (show p < 700 by omega) (by omega), nb_tn (by omega), hb.2 p hp, s1, h5, e4, h6, y_Ta_step_304, u, u, nb_s, c_not, ev]
      unfold x_dg
      cases hq : (decide (48 ≤ X.2 p) && decide (X.2 p ≤ 57)) with
      | false => rfl
      | true =>
        have hq' := x_dg9 (X := X) (p := p) hq
        by_cases q : p - s < 4
        · have ed : (10 * Int32.ofNat (x_v X s (p - s))) + sb (X.2 p) - 48 = Int32.ofNat (10 * x_v X s (p - s) + (X.2 p - 48)) := by
            rw [s3 (by omega), show 10 * Int32.ofNat (x_v X s (p - s)) = Int32.ofNat (10 * x_v X s (p - s)) from nb_mul 10 _, nb_add]
            rw [show 10 * x_v X s (p - s) + (X.2 p - 48) = 10 * x_v X s (p - s) + X.2 p - 48 by omega]
            exact (Int32.ofNat_sub _ 48 (by omega)).symm
          rw [d_f (by omega : ¬ 4 ≤ p - s), d_t q, ed]
          rfl
        · rw [d_t (by omega : 4 ≤ p - s), d_f q]
          rfl
    rw [e0]
    unfold sc
    cases hs : x_dg X p with
    | false => exact ⟨I1, rfl, h3, h6, fun _ _ => rfl, fun _ _ _ => rfl⟩
    | true =>
      obtain ⟨I2, b1, b2, b3, b4, b5⟩ := C_stD hx (s := s) c (p + 1) (am_up (am_up I1 77 (upd (I1 77) 6 (Int32.ofNat (x_v X s (p + 1 - s))))) 77 (upd (upd (I1 77) 6 (Int32.ofNat (x_v X s (p + 1 - s)))) 3 (Int32.ofNat (p + 1)))) (by omega) (by omega) (fun j h1 h2 => by
        by_cases w : j = p
        · rw [w]
          exact hs
        · exact hd j h1 (by omega)) (cB_fr hb (by rw [up_same, upd_ne (by decide), upd_ne (by decide)]) (by rw [up_ne (by decide), up_ne (by decide)])) (by rw [up_same, upd_same]) (by rw [up_same, upd_ne (by decide), upd_ne (by decide)]; exact h5) (by rw [up_same, upd_ne (by decide), upd_same])
      exact ⟨I2, b1, b2, b3, fun a q => by rw [b4 a q, up_ne q, up_ne q], fun j q w => by rw [b5 j q w, up_same, upd_ne q, upd_ne w]⟩
/-- the signs: which one it is -/
theorem ix_L (hs : sO I) (x2 x3 x1 : Int32) {b : Nat} (hb : b < 256) : ∀ c k, k + c = 9 → am_R 321 1 7 [.ref (16 + 1), .int x1, .int x2, .int (Int32.ofNat 9), .int (sb b), .int (Int32.ofNat k)] [] (am_hp g N sw lv I L) = some (.inl (some (.int (oi (fs (fun j => decide (sb b = Int32.ofNat ((st_l 16).getD j 0))) c k)))), am_hp g N sw lv I L)
  | 0, k, hc => by
    rw [y_Sl_indexOfChar_7 _ _ _ _ _ (sa := 16) (Or.inl rfl), nb_dle (by omega) (by omega), d_t (by omega : 9 ≤ k)]
    rfl
  | c + 1, k, hc => by
    have ih := ix_L hs x2 x3 x1 hb c (k + 1) (by omega)
    have hk := (hs.1 16 (Or.inl rfl)).2 k (show k < 9 by omega)
    have e : decide (Int32.ofNat ((st_l 16).getD k 0) = sb b) = decide (sb b = Int32.ofNat ((st_l 16).getD k 0)) := decide_eq_decide.mpr ⟨fun q => q.symm, fun q => q.symm⟩
    rw [y_Sl_indexOfChar_7 _ _ _ _ _ (sa := 16) (Or.inl rfl), nb_dle (by omega) (by omega), d_f (by omega : ¬ 9 ≤ k), show (am_SH N (16 + 1)).2 = 9 from rfl, nb_inb (show k < 9 by omega) (by omega), nb_tn (by omega), hk, e, nb_s]
    unfold fs
    cases decide (sb b = Int32.ofNat ((st_l 16).getD k 0)) with
    | true => rfl
    | false => exact ih
theorem ix_mk : ∀ b, b < 256 → decide (oi (fs (fun j => decide (sb b = Int32.ofNat ((st_l 16).getD j 0))) 9 0) < 0) = !(x_mk b) := by decide +kernel
theorem ix_c : ∀ b, b < 256 → (UInt32.toInt32 (Int32.toUInt32 (Int32.ofNat b) % 65536)) = Int32.ofNat b ∧ v_Sl_canEncode (Int32.ofNat b) = 1 := by decide +kernel
theorem C_ix (hs : sO I) {b : Nat} (hb : b < 256) : ∃ v, am_R 314 7 0 [.ref 16, .int (UInt32.toInt32 (Int32.toUInt32 (Int32.ofNat b) % 65536))] [] (am_hp g N sw lv I L) = some (.inl (some (.int v)), am_hp g N sw lv I L) ∧ decide (v < 0) = !(x_mk b) := by
  have h16 : am_ist 16 := Or.inl rfl
  obtain ⟨c1, c2⟩ := ix_c b hb
  have h0 := (hs.1 16 h16).1
  have hL := ix_L (g := g) (N := N) (sw := sw) (lv := lv) (L := L) hs (Int32.ofNat 0) 0 (Int32.ofNat b) hb 9 0 (by omega)
  refine ⟨_, ?_, ix_mk b hb⟩
  have l1 : v_St_isLatin1 I 16 = 1 := by unfold v_St_isLatin1; rw [h0]; rfl
  have l2 : v_St_length I N 16 = Int32.ofNat 9 := by
    unfold v_St_length v_St_coder
    rw [h0]
    rfl
  have l3 : g_St_length I N 16 = true := by
    unfold g_St_length g_St_coder
    rw [h0]
    rfl
  rw [c1, y_St_indexOf1_0 _ h16, y_St_indexOf2_0 _ _ h16, l1, d_f (by decide), l3, cond_true, l2, y_Sl_indexOf_0 _ _ _ h16, c2, d_f (by decide), show v_Ma_max 0 0 = Int32.ofNat 0 from rfl, show (am_SH N (16 + 1)).2 = 9 from rfl, show v_Ma_min (Int32.ofNat 9) (Int32.ofNat 9) = Int32.ofNat 9 from rfl, d_t (by decide), y_Sl_indexOfChar_0 _ _ _ h16, show Int8.toInt32 (Int32.toInt8 (Int32.ofNat b)) = sb b from rfl, hL, am_bd_ok, am_tl, y_Sl_indexOf_36 _ _ _ _ h16, am_bd_ok, am_tl, y_St_indexOf2_20 _ _ _ h16, y_St_indexOf2_36 _ _ _ h16, am_bd_ok, am_tl, y_St_indexOf1_6 _ _ h16]
theorem C_step (hx : x_ok X) (hs : sO I) {p : Nat} (hp : p ≤ X.1) (hb : cB X I) (h3 : I 77 3 = Int32.ofNat p) : ∃ I2, am_R 61 8 0 [.ref 77, am_u] [] (am_hp g N sw lv I L) = some (.inl none, am_hp g N sw lv I2 L) ∧ cT X p I2 ∧ (∀ a, a ≠ 77 → I2 a = I a) ∧ I2 77 1 = I 77 1 := by
  have hn := hx.1
  obtain ⟨I1, a1, a2, a3, a4⟩ := C_stA (g := g) (N := N) (sw := sw) (lv := lv) (L := L) hx (X.1 - p) p I (by omega) hb h3
  have hb1 : cB X I1 := cB_fr hb (a4 2 (by decide)) (a3 78 (by decide))
  have hs1 : sO I1 := sO_lo hs (fun a q => a3 a (by omega))
  have ha2 : I1 77 3 = Int32.ofNat (x_S X p) := a2
  obtain ⟨l1, l2⟩ := x_S_le (X := X) hp
  have q3 : upd (I1 77) 5 (I1 77 3) 3 = Int32.ofNat (x_S X p) := by rw [upd_ne (by decide)]; exact ha2
  have q2 : upd (I1 77) 5 (I1 77 3) 2 = Int32.ofNat X.1 := by rw [upd_ne (by decide)]; exact hb1.1
  have e52 := y_Ta_step_52 (g := g) (N := N) (sw := sw) (lv := lv) (I := I1) (L := L)
  rw [q3, q2, nb_dlt (by omega) (by omega)] at e52
  rw [a1, e52]
  generalize hS : x_S X p = s at *
  have eK : x_K X p = x_Ks X s := by unfold x_K; rw [hS]
  have eE : x_E X p = x_Es X s := by unfold x_E; rw [hS]
  have eN : x_N X p = x_v X s (x_Es X s - s) := by unfold x_N; rw [hS, eE]
  by_cases h0 : s < X.1
  · obtain ⟨-, s1, s2, s4, -⟩ := sb_1 _ (hx.2 s h0)
    rw [d_t h0, nb_inb (show s < 700 by omega) (by omega), nb_tn (by omega), hb1.2 s h0, s1, s2, s4]
    simp only [cond_true]
    cases hl : x_lt X s with
    | true =>
      have k1 : x_K X p = 1 := by
        rw [eK]
        unfold x_Ks
        rw [d_f (by omega), hl]
        rfl
      have k2 : x_E X p = sc (x_lt X) (X.1 - s) s := by
        rw [eE]
        unfold x_Es
        rw [d_f (by omega), hl]
        rfl
      obtain ⟨I2, b1, b2, b3, b4⟩ := C_stL (g := g) (N := N) (sw := sw) (lv := lv) (L := L) hx (X.1 - s) s (am_up (am_up I1 77 (upd (I1 77) 5 (I1 77 3))) 77 (upd (upd (I1 77) 5 (I1 77 3)) 4 1)) (by omega) (cB_fr hb1 (by rw [up_same, upd_ne (by decide), upd_ne (by decide)]) (by rw [up_ne (by decide), up_ne (by decide)])) (by rw [up_same, upd_ne (by decide), upd_ne (by decide)]; exact ha2)
      refine ⟨I2, ?_, ⟨cB_fr hb1 ?_ ?_, by rw [b2, k2], ?_, ?_, fun q => by rw [k1] at q; cases q⟩, fun a q => ?_, ?_⟩
      · unfold x_lt at hl
        rw [hl]
        exact b1
      · rw [b4 2 (by decide), up_same, upd_ne (by decide), upd_ne (by decide)]
      · rw [b3 78 (by decide), up_ne (by decide), up_ne (by decide)]
      · rw [b4 4 (by decide), up_same, upd_same, k1]
        rfl
      · rw [b4 5 (by decide), up_same, upd_ne (by decide), upd_same, hS]
        exact ha2
      · rw [b3 a q, up_ne q, up_ne q, a3 a q]
      · rw [b4 1 (by decide), up_same, upd_ne (by decide), upd_ne (by decide), a4 1 (by decide)]
    | false =>
      have hl' : (decide (97 ≤ X.2 s) && decide (X.2 s ≤ 122)) = false := hl
      rw [hl']
      simp only [Bool.not_false, cond_true]
      cases hd : x_dg X s with
      | true =>
        have k1 : x_K X p = 2 := by
          rw [eK]
          unfold x_Ks
          rw [d_f (by omega), hl, hd]
          rfl
        have k2 : x_E X p = sc (x_dg X) (X.1 - s) s := by
          rw [eE]
          unfold x_Es
          rw [d_f (by omega), hl, hd]
          rfl
        obtain ⟨I2, b1, b2, b3, b4, b5⟩ := C_stD (g := g) (N := N) (sw := sw) (lv := lv) (L := L) hx (s := s) (X.1 - s) s (am_up (am_up (am_up I1 77 (upd (I1 77) 5 (I1 77 3))) 77 (upd (upd (I1 77) 5 (I1 77 3)) 4 2)) 77 (upd (upd (upd (I1 77) 5 (I1 77 3)) 4 2) 6 0)) (by omega) (Nat.le_refl _) (fun j q1 q2 => by omega) (cB_fr hb1 (by rw [up_same, upd_ne (by decide), upd_ne (by decide), upd_ne (by decide)]) (by rw [up_ne (by decide), up_ne (by decide), up_ne (by decide)])) (by rw [up_same, upd_ne (by decide), upd_ne (by decide), upd_ne (by decide)]; exact ha2) (by rw [up_same, upd_ne (by decide), upd_ne (by decide), upd_same]; exact ha2) (by rw [up_same, upd_same, Nat.sub_self]; rfl)
        refine ⟨I2, ?_, ⟨cB_fr hb1 ?_ ?_, by rw [b2, k2], ?_, ?_, fun _ => ?_⟩, fun a q => ?_, ?_⟩
        · unfold x_dg at hd
          rw [hd]
          exact b1
        · rw [b5 2 (by decide) (by decide), up_same, upd_ne (by decide), upd_ne (by decide), upd_ne (by decide)]
        · rw [b4 78 (by decide), up_ne (by decide), up_ne (by decide), up_ne (by decide)]
        · rw [b5 4 (by decide) (by decide), up_same, upd_ne (by decide), upd_same, k1]
          rfl
        · rw [b5 5 (by decide) (by decide), up_same, upd_ne (by decide), upd_ne (by decide), upd_same, hS]
          exact ha2
        · rw [b3, eN, ← eE, k2]
        · rw [b4 a q, up_ne q, up_ne q, up_ne q, a3 a q]
        · rw [b5 1 (by decide) (by decide), up_same, upd_ne (by decide), upd_ne (by decide), upd_ne (by decide), a4 1 (by decide)]
      | false =>
        have hd' : (decide (48 ≤ X.2 s) && decide (X.2 s ≤ 57)) = false := hd
        obtain ⟨v, i1, i2⟩ := C_ix (g := g) (N := N) (sw := sw) (lv := lv) (I := am_up I1 77 (upd (I1 77) 5 (I1 77 3))) (L := L) (sO_lo hs1 (fun a q => up_ne (by omega))) (hx.2 s h0)
        have k1 : x_K X p = cond (x_mk (X.2 s)) (X.2 s) 3 := by
          rw [eK]
          unfold x_Ks
          rw [d_f (by omega), hl, hd]
          rfl
        have k2 : x_E X p = s + 1 := by
          rw [eE]
          unfold x_Es
          rw [d_f (by omega), hl, hd]
          rfl
        have u3 : ∀ y : Int32, upd (upd (I1 77) 5 (I1 77 3)) 4 y 3 = Int32.ofNat s := fun y => by rw [upd_ne (by decide)]; exact q3
        have k3 : x_K X p ≠ 2 := by
          rw [k1]
          have : ∀ b, cond (x_mk b) b 3 ≠ 2 := fun b => by
            cases hm : x_mk b with
            | false => exact (by decide : (3 : Nat) ≠ 2)
            | true =>
              intro q
              rw [show b = 2 from q] at hm
              revert hm
              decide
          exact this _
        have key : ∀ y : Int32, y = Int32.ofNat (x_K X p) → ∃ I2, am_R 61 8 304 [.ref 77, .int (Int32.ofNat (X.2 s))] [] (am_hp g N sw lv (am_up (am_up (am_up I1 77 (upd (I1 77) 5 (I1 77 3))) 77 (upd (upd (I1 77) 5 (I1 77 3)) 4 y)) 77 (upd (upd (upd (I1 77) 5 (I1 77 3)) 4 y) 3 (Int32.ofNat (s + 1)))) L) = some (.inl none, am_hp g N sw lv I2 L) ∧ cT X p I2 ∧ (∀ a, a ≠ 77 → I2 a = I a) ∧ I2 77 1 = I 77 1 := fun y hy => by
          refine ⟨_, y_Ta_step_304 _, ⟨cB_fr hb1 ?_ ?_, ?_, ?_, ?_, fun q => absurd q k3⟩, fun a q => ?_, ?_⟩
          · rw [up_same, upd_ne (by decide), upd_ne (by decide), upd_ne (by decide)]
          · rw [up_ne (by decide), up_ne (by decide), up_ne (by decide)]
          · rw [up_same, upd_same, k2]
          · rw [up_same, upd_ne (by decide), upd_same, hy]
          · rw [up_same, upd_ne (by decide), upd_ne (by decide), upd_same, hS]
            exact ha2
          · rw [up_ne q, up_ne q, up_ne q, a3 a q]
          · rw [up_same, upd_ne (by decide), upd_ne (by decide), upd_ne (by decide), a4 1 (by decide)]
        rw [hd']
        simp only [Bool.not_false, cond_true]
        rw [i1, am_bd_ok, am_tl, y_Ta_step_283 _ _, i2, up_same, u3, u3, nb_s]
        cases hm : x_mk (X.2 s) with
        | true =>
          rw [hm] at k1
          exact key (Int32.ofNat (X.2 s)) (by rw [k1]; rfl)
        | false =>
          rw [hm] at k1
          exact key 3 (by rw [k1]; rfl)
  · have k1 : x_K X p = 0 := by
      rw [eK]
      unfold x_Ks
      rw [d_t (by omega)]
    have k2 : x_E X p = s := by
      rw [eE]
      unfold x_Es
      rw [d_t (by omega)]
    rw [d_f h0]
    refine ⟨_, y_Ta_step_304 _, ⟨cB_fr hb1 ?_ ?_, ?_, ?_, ?_, fun q => by rw [k1] at q; cases q⟩, fun a q => ?_, ?_⟩
    · rw [up_same, upd_ne (by decide), upd_ne (by decide)]
    · rw [up_ne (by decide), up_ne (by decide)]
    · rw [up_same, upd_ne (by decide), upd_ne (by decide), k2]
      exact ha2
    · rw [up_same, upd_same, k1]
      rfl
    · rw [up_same, upd_ne (by decide), upd_same, hS]
      exact ha2
    · rw [up_ne q, up_ne q, a3 a q]
    · rw [up_same, upd_ne (by decide), upd_ne (by decide), a4 1 (by decide)]
end TOK
