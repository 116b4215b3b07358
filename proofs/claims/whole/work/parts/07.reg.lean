/-! names for the regions: which address is what -/
def am_isr (r : Nat) : Prop := r = 99 ∨ r = 109
def am_isc (rc : Nat) : Prop := rc = 79 ∨ rc = 89
def am_isu (ru : Nat) : Prop := ru = 85 ∨ ru = 86 ∨ ru = 95 ∨ ru = 96
def am_isa (ac : Nat) : Prop := ac = 119 ∨ ac = 137
def am_iss (se : Nat) : Prop := se = 121 ∨ se = 139
def am_isw (wo : Nat) : Prop := wo = 1 ∨ wo = 2 ∨ wo = 3 ∨ wo = 4 ∨ wo = 5 ∨ wo = 6 ∨ wo = 7 ∨ wo = 8 ∨ wo = 9 ∨ wo = 10 ∨ wo = 11 ∨ wo = 12 ∨ wo = 13 ∨ wo = 14
def am_ist (sa : Nat) : Prop := sa = 16 ∨ sa = 18 ∨ sa = 20 ∨ sa = 22 ∨ sa = 24 ∨ sa = 26 ∨ sa = 28 ∨ sa = 30 ∨ sa = 32 ∨ sa = 34 ∨ sa = 36 ∨ sa = 38 ∨ sa = 40 ∨ sa = 42 ∨ sa = 44 ∨ sa = 46 ∨ sa = 48 ∨ sa = 50 ∨ sa = 52 ∨ sa = 54 ∨ sa = 56 ∨ sa = 58 ∨ sa = 60 ∨ sa = 62 ∨ sa = 64 ∨ sa = 66 ∨ sa = 68 ∨ sa = 70 ∨ sa = 72
def am_isk (aa : Nat) : Prop := aa = 167 ∨ aa = 171 ∨ aa = 174 ∨ aa = 179
def am_isg (sg : Nat) : Prop := sg = 158 ∨ sg = 159
def am_ish (hf : Nat) : Prop := hf = 151 ∨ hf = 152 ∨ hf = 153 ∨ hf = 154 ∨ hf = 155 ∨ hf = 156 ∨ hf = 157 ∨ hf = 158 ∨ hf = 159
/-- the text of a word -/
def am_tx (w : Nat) : Nat := cond (Nat.ble w 7) (cond (Nat.ble w 3) (cond (Nat.ble w 1) (46) (cond (Nat.ble w 2) (48) (52))) (cond (Nat.ble w 5) (cond (Nat.ble w 4) (60) (56)) (cond (Nat.ble w 6) (58) (54)))) (cond (Nat.ble w 10) (cond (Nat.ble w 8) (62) (cond (Nat.ble w 9) (64) (50))) (cond (Nat.ble w 12) (cond (Nat.ble w 11) (66) (68)) (cond (Nat.ble w 13) (70) (72))))
theorem am_bd_ok {v : Option Value} {h : am_H} {f : Option Value → am_H → Option am_Res} {g : Nat → am_H → Option am_Res} : am_bd (some (.inl v, h)) f g = f v h := rfl
theorem am_bd_thr {c : Nat} {h : am_H} {f : Option Value → am_H → Option am_Res} {g : Nat → am_H → Option am_Res} : am_bd (some (.inr c, h)) f g = g c h := rfl
theorem am_bd_none {f : Option Value → am_H → Option am_Res} {g : Nat → am_H → Option am_Res} : am_bd none f g = none := rfl
theorem am_bd_cond {c : Bool} {x y : Option am_Res} {f : Option Value → am_H → Option am_Res} {g : Nat → am_H → Option am_Res} : am_bd (cond c x y) f g = cond c (am_bd x f g) (am_bd y f g) := by cases c <;> rfl
theorem am_tl {v : Value} {l : List Value} : (some v).toList ++ l = v :: l := rfl
theorem am_tn {l : List Value} : (none : Option Value).toList ++ l = l := rfl
theorem up_same {α : Type} {I : Nat → α} {a : Nat} {f : α} : am_up I a f a = f := if_pos rfl
theorem up_ne {α : Type} {I : Nat → α} {a b : Nat} {f : α} (h : b ≠ a) : am_up I a f b = I b := if_neg h
theorem up_c {α : Type} {I : Nat → α} {a b : Nat} {f : α} (h : (b == a) = false) : am_up I a f b = I b := up_ne (by simpa using h)
theorem up_l {α : Type} {I : Nat → α} {r k : Nat} {f : α} (h : (k == 0) = false) : am_up I (r + k) f r = I r := by
  have : k ≠ 0 := by simpa using h
  exact up_ne (by omega)
theorem up_r {α : Type} {I : Nat → α} {r k : Nat} {f : α} (h : (k == 0) = false) : am_up I r f (r + k) = I (r + k) := by
  have : k ≠ 0 := by simpa using h
  exact up_ne (by omega)
theorem up_b {α : Type} {I : Nat → α} {r j k : Nat} {f : α} (h : (k == j) = false) : am_up I (r + j) f (r + k) = I (r + k) := by
  have : k ≠ j := by simpa using h
  exact up_ne (by omega)
theorem am_isr99 : am_isr 99 = True := eq_true (by unfold am_isr; decide)
theorem am_isr109 : am_isr 109 = True := eq_true (by unfold am_isr; decide)
theorem am_iscT {sw : Bool} : am_isc (cond sw 89 79) = True := eq_true (by cases sw <;> (unfold am_isc; decide))
theorem am_iscF {sw : Bool} : am_isc (cond sw 79 89) = True := eq_true (by cases sw <;> (unfold am_isc; decide))
theorem am_isc79 : am_isc 79 = True := eq_true (by unfold am_isc; decide)
theorem am_isc89 : am_isc 89 = True := eq_true (by unfold am_isc; decide)
theorem am_isuT {sw : Bool} : am_isu (cond sw 89 79 + 6) = True := eq_true (by cases sw <;> (unfold am_isu; decide))
theorem am_isuF {sw : Bool} : am_isu (cond sw 79 89 + 6) = True := eq_true (by cases sw <;> (unfold am_isu; decide))
theorem am_isuT2 {sw : Bool} : am_isu (cond sw 89 79 + 7) = True := eq_true (by cases sw <;> (unfold am_isu; decide))
theorem am_isuF2 {sw : Bool} : am_isu (cond sw 79 89 + 7) = True := eq_true (by cases sw <;> (unfold am_isu; decide))
theorem am_isuC {rc : Nat} (h : am_isc rc) : am_isu (rc + 6) = True := eq_true (by rcases h with rfl | rfl <;> (unfold am_isu; decide))
theorem am_isuD {rc : Nat} (h : am_isc rc) : am_isu (rc + 7) = True := eq_true (by rcases h with rfl | rfl <;> (unfold am_isu; decide))
theorem am_isa119 : am_isa 119 = True := eq_true (by unfold am_isa; decide)
theorem am_isa137 : am_isa 137 = True := eq_true (by unfold am_isa; decide)
theorem am_iss121 : am_iss 121 = True := eq_true (by unfold am_iss; decide)
theorem am_iss139 : am_iss 139 = True := eq_true (by unfold am_iss; decide)
theorem am_istx {w : Nat} (h : am_isw w) : am_ist (am_tx w) = True := eq_true (by rcases h with rfl | rfl | rfl | rfl | rfl | rfl | rfl | rfl | rfl | rfl | rfl | rfl | rfl | rfl <;> (unfold am_ist; decide))
