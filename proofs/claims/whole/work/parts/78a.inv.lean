/-! what no call changes: a rule's count of values; the reference's flag -/
def iv_bad (k : Nat) : Bool := Nat.beq k 0 || (Nat.beq k 3 || (Nat.beq k 4 || Nat.beq k 300))
def iv_cx (o : Option am_C) : Bool := match o with
  | none => true
  | some (_, _, op, a, c, d, _, _) => cond (Nat.beq op 17) (cond (Nat.beq a 6) (!(Nat.beq c 0)) (cond (Nat.beq a 11) (cond (Nat.beq c 26) (Nat.beq d 3) true) true)) (cond (Nat.beq op 19) (Nat.ble 100 a) (cond (Nat.beq op 23) (!(iv_bad a)) true))
def iv_ck (k _pc : Nat) (o : Option am_C) : Bool := iv_bad k || iv_cx o
theorem iv_cc {k pc : Nat} {c : Bool} {a b : Option am_C} (ha : iv_ck k pc a = true) (hb : iv_ck k pc b = true) : iv_ck k pc (cond c a b) = true := by cases c <;> assumption
theorem iv_lf {k pc j : Nat} {o : Option am_C} (h : iv_ck j pc o = true) : iv_ck k pc (cond (Nat.beq k j) o none) = true := by
  cases e : Nat.beq k j with
  | true =>
    rw [Nat.eq_of_beq_eq_true e]
    exact h
  | false =>
    show (iv_bad k || true) = true
    rw [Bool.or_true]
theorem iv_of {pc n : Nat} {o : Option am_C} (j : Nat) (h : pc < n → iv_cx o = true) (hn : Nat.blt pc n = false → o = none) : iv_ck j pc o = true := by
  by_cases q : pc < n
  · show (iv_bad j || iv_cx o) = true
    rw [h q, Bool.or_true]
  · have e : Nat.blt pc n = false := by
      cases e : Nat.blt pc n with
      | false => rfl
      | true => exact absurd (Nat.le_of_ble_eq_true e) q
    rw [hn e]
    show (iv_bad j || true) = true
    rw [Bool.or_true]
theorem iv_m0 (pc : Nat) : iv_ck 0 pc (am_f0 pc) = true := rfl
set_option maxRecDepth 100000 in
theorem iv_d1 : ∀ pc, pc < 26 → iv_cx (am_f1 pc) = true := by decide +kernel
theorem iv_m1 (pc : Nat) : iv_ck 1 pc (am_f1 pc) = true := iv_of 1 (iv_d1 pc) (fun e => by unfold am_f1; rw [e]; rfl)
set_option maxRecDepth 100000 in
theorem iv_d2 : ∀ pc, pc < 44 → iv_cx (am_f2 pc) = true := by decide +kernel
theorem iv_m2 (pc : Nat) : iv_ck 2 pc (am_f2 pc) = true := iv_of 2 (iv_d2 pc) (fun e => by unfold am_f2; rw [e]; rfl)
theorem iv_m3 (pc : Nat) : iv_ck 3 pc (am_f3 pc) = true := rfl
theorem iv_m4 (pc : Nat) : iv_ck 4 pc (am_f4 pc) = true := rfl
set_option maxRecDepth 100000 in
theorem iv_d5 : ∀ pc, pc < 92 → iv_cx (am_f5 pc) = true := by decide +kernel
theorem iv_m5 (pc : Nat) : iv_ck 5 pc (am_f5 pc) = true := iv_of 5 (iv_d5 pc) (fun e => by unfold am_f5; rw [e]; rfl)
set_option maxRecDepth 100000 in
theorem iv_d6 : ∀ pc, pc < 24 → iv_cx (am_f6 pc) = true := by decide +kernel
theorem iv_m6 (pc : Nat) : iv_ck 6 pc (am_f6 pc) = true := iv_of 6 (iv_d6 pc) (fun e => by unfold am_f6; rw [e]; rfl)
set_option maxRecDepth 100000 in
theorem iv_d7 : ∀ pc, pc < 34 → iv_cx (am_f7 pc) = true := by decide +kernel
theorem iv_m7 (pc : Nat) : iv_ck 7 pc (am_f7 pc) = true := iv_of 7 (iv_d7 pc) (fun e => by unfold am_f7; rw [e]; rfl)
set_option maxRecDepth 100000 in
theorem iv_d8 : ∀ pc, pc < 50 → iv_cx (am_f8 pc) = true := by decide +kernel
theorem iv_m8 (pc : Nat) : iv_ck 8 pc (am_f8 pc) = true := iv_of 8 (iv_d8 pc) (fun e => by unfold am_f8; rw [e]; rfl)
set_option maxRecDepth 100000 in
theorem iv_d9 : ∀ pc, pc < 10 → iv_cx (am_f9 pc) = true := by decide +kernel
theorem iv_m9 (pc : Nat) : iv_ck 9 pc (am_f9 pc) = true := iv_of 9 (iv_d9 pc) (fun e => by unfold am_f9; rw [e]; rfl)
set_option maxRecDepth 100000 in
theorem iv_d10 : ∀ pc, pc < 63 → iv_cx (am_f10 pc) = true := by decide +kernel
theorem iv_m10 (pc : Nat) : iv_ck 10 pc (am_f10 pc) = true := iv_of 10 (iv_d10 pc) (fun e => by unfold am_f10; rw [e]; rfl)
set_option maxRecDepth 100000 in
theorem iv_d11 : ∀ pc, pc < 47 → iv_cx (am_f11 pc) = true := by decide +kernel
theorem iv_m11 (pc : Nat) : iv_ck 11 pc (am_f11 pc) = true := iv_of 11 (iv_d11 pc) (fun e => by unfold am_f11; rw [e]; rfl)
set_option maxRecDepth 100000 in
theorem iv_d12 : ∀ pc, pc < 5 → iv_cx (am_f12 pc) = true := by decide +kernel
theorem iv_m12 (pc : Nat) : iv_ck 12 pc (am_f12 pc) = true := iv_of 12 (iv_d12 pc) (fun e => by unfold am_f12; rw [e]; rfl)
set_option maxRecDepth 100000 in
theorem iv_d13 : ∀ pc, pc < 69 → iv_cx (am_f13 pc) = true := by decide +kernel
theorem iv_m13 (pc : Nat) : iv_ck 13 pc (am_f13 pc) = true := iv_of 13 (iv_d13 pc) (fun e => by unfold am_f13; rw [e]; rfl)
set_option maxRecDepth 100000 in
theorem iv_d14 : ∀ pc, pc < 44 → iv_cx (am_f14 pc) = true := by decide +kernel
theorem iv_m14 (pc : Nat) : iv_ck 14 pc (am_f14 pc) = true := iv_of 14 (iv_d14 pc) (fun e => by unfold am_f14; rw [e]; rfl)
set_option maxRecDepth 100000 in
theorem iv_d15 : ∀ pc, pc < 106 → iv_cx (am_f15 pc) = true := by decide +kernel
theorem iv_m15 (pc : Nat) : iv_ck 15 pc (am_f15 pc) = true := iv_of 15 (iv_d15 pc) (fun e => by unfold am_f15; rw [e]; rfl)
set_option maxRecDepth 100000 in
theorem iv_d16 : ∀ pc, pc < 27 → iv_cx (am_f16 pc) = true := by decide +kernel
theorem iv_m16 (pc : Nat) : iv_ck 16 pc (am_f16 pc) = true := iv_of 16 (iv_d16 pc) (fun e => by unfold am_f16; rw [e]; rfl)
set_option maxRecDepth 100000 in
theorem iv_d17 : ∀ pc, pc < 25 → iv_cx (am_f17 pc) = true := by decide +kernel
theorem iv_m17 (pc : Nat) : iv_ck 17 pc (am_f17 pc) = true := iv_of 17 (iv_d17 pc) (fun e => by unfold am_f17; rw [e]; rfl)
set_option maxRecDepth 100000 in
theorem iv_d18 : ∀ pc, pc < 92 → iv_cx (am_f18 pc) = true := by decide +kernel
theorem iv_m18 (pc : Nat) : iv_ck 18 pc (am_f18 pc) = true := iv_of 18 (iv_d18 pc) (fun e => by unfold am_f18; rw [e]; rfl)
set_option maxRecDepth 100000 in
theorem iv_d19 : ∀ pc, pc < 117 → iv_cx (am_f19 pc) = true := by decide +kernel
theorem iv_m19 (pc : Nat) : iv_ck 19 pc (am_f19 pc) = true := iv_of 19 (iv_d19 pc) (fun e => by unfold am_f19; rw [e]; rfl)
set_option maxRecDepth 100000 in
theorem iv_d20 : ∀ pc, pc < 17 → iv_cx (am_f20 pc) = true := by decide +kernel
theorem iv_m20 (pc : Nat) : iv_ck 20 pc (am_f20 pc) = true := iv_of 20 (iv_d20 pc) (fun e => by unfold am_f20; rw [e]; rfl)
set_option maxRecDepth 100000 in
theorem iv_d21 : ∀ pc, pc < 54 → iv_cx (am_f21 pc) = true := by decide +kernel
theorem iv_m21 (pc : Nat) : iv_ck 21 pc (am_f21 pc) = true := iv_of 21 (iv_d21 pc) (fun e => by unfold am_f21; rw [e]; rfl)
set_option maxRecDepth 100000 in
theorem iv_d22 : ∀ pc, pc < 175 → iv_cx (am_f22 pc) = true := by decide +kernel
theorem iv_m22 (pc : Nat) : iv_ck 22 pc (am_f22 pc) = true := iv_of 22 (iv_d22 pc) (fun e => by unfold am_f22; rw [e]; rfl)
set_option maxRecDepth 100000 in
theorem iv_d23 : ∀ pc, pc < 118 → iv_cx (am_f23 pc) = true := by decide +kernel
theorem iv_m23 (pc : Nat) : iv_ck 23 pc (am_f23 pc) = true := iv_of 23 (iv_d23 pc) (fun e => by unfold am_f23; rw [e]; rfl)
set_option maxRecDepth 100000 in
theorem iv_d24 : ∀ pc, pc < 10 → iv_cx (am_f24 pc) = true := by decide +kernel
theorem iv_m24 (pc : Nat) : iv_ck 24 pc (am_f24 pc) = true := iv_of 24 (iv_d24 pc) (fun e => by unfold am_f24; rw [e]; rfl)
set_option maxRecDepth 100000 in
theorem iv_d25 : ∀ pc, pc < 84 → iv_cx (am_f25 pc) = true := by decide +kernel
theorem iv_m25 (pc : Nat) : iv_ck 25 pc (am_f25 pc) = true := iv_of 25 (iv_d25 pc) (fun e => by unfold am_f25; rw [e]; rfl)
set_option maxRecDepth 100000 in
theorem iv_d26 : ∀ pc, pc < 124 → iv_cx (am_f26 pc) = true := by decide +kernel
theorem iv_m26 (pc : Nat) : iv_ck 26 pc (am_f26 pc) = true := iv_of 26 (iv_d26 pc) (fun e => by unfold am_f26; rw [e]; rfl)
set_option maxRecDepth 100000 in
theorem iv_d27 : ∀ pc, pc < 68 → iv_cx (am_f27 pc) = true := by decide +kernel
theorem iv_m27 (pc : Nat) : iv_ck 27 pc (am_f27 pc) = true := iv_of 27 (iv_d27 pc) (fun e => by unfold am_f27; rw [e]; rfl)
set_option maxRecDepth 100000 in
theorem iv_d28 : ∀ pc, pc < 104 → iv_cx (am_f28 pc) = true := by decide +kernel
theorem iv_m28 (pc : Nat) : iv_ck 28 pc (am_f28 pc) = true := iv_of 28 (iv_d28 pc) (fun e => by unfold am_f28; rw [e]; rfl)
set_option maxRecDepth 100000 in
theorem iv_d29 : ∀ pc, pc < 31 → iv_cx (am_f29 pc) = true := by decide +kernel
theorem iv_m29 (pc : Nat) : iv_ck 29 pc (am_f29 pc) = true := iv_of 29 (iv_d29 pc) (fun e => by unfold am_f29; rw [e]; rfl)
set_option maxRecDepth 100000 in
theorem iv_d30 : ∀ pc, pc < 50 → iv_cx (am_f30 pc) = true := by decide +kernel
theorem iv_m30 (pc : Nat) : iv_ck 30 pc (am_f30 pc) = true := iv_of 30 (iv_d30 pc) (fun e => by unfold am_f30; rw [e]; rfl)
set_option maxRecDepth 100000 in
theorem iv_d31 : ∀ pc, pc < 152 → iv_cx (am_f31 pc) = true := by decide +kernel
theorem iv_m31 (pc : Nat) : iv_ck 31 pc (am_f31 pc) = true := iv_of 31 (iv_d31 pc) (fun e => by unfold am_f31; rw [e]; rfl)
set_option maxRecDepth 100000 in
theorem iv_d32 : ∀ pc, pc < 88 → iv_cx (am_f32 pc) = true := by decide +kernel
theorem iv_m32 (pc : Nat) : iv_ck 32 pc (am_f32 pc) = true := iv_of 32 (iv_d32 pc) (fun e => by unfold am_f32; rw [e]; rfl)
set_option maxRecDepth 100000 in
theorem iv_d33 : ∀ pc, pc < 24 → iv_cx (am_f33 pc) = true := by decide +kernel
theorem iv_m33 (pc : Nat) : iv_ck 33 pc (am_f33 pc) = true := iv_of 33 (iv_d33 pc) (fun e => by unfold am_f33; rw [e]; rfl)
set_option maxRecDepth 100000 in
theorem iv_d34 : ∀ pc, pc < 115 → iv_cx (am_f34 pc) = true := by decide +kernel
theorem iv_m34 (pc : Nat) : iv_ck 34 pc (am_f34 pc) = true := iv_of 34 (iv_d34 pc) (fun e => by unfold am_f34; rw [e]; rfl)
set_option maxRecDepth 100000 in
theorem iv_d35 : ∀ pc, pc < 13 → iv_cx (am_f35 pc) = true := by decide +kernel
theorem iv_m35 (pc : Nat) : iv_ck 35 pc (am_f35 pc) = true := iv_of 35 (iv_d35 pc) (fun e => by unfold am_f35; rw [e]; rfl)
set_option maxRecDepth 100000 in
theorem iv_d36 : ∀ pc, pc < 117 → iv_cx (am_f36 pc) = true := by decide +kernel
theorem iv_m36 (pc : Nat) : iv_ck 36 pc (am_f36 pc) = true := iv_of 36 (iv_d36 pc) (fun e => by unfold am_f36; rw [e]; rfl)
set_option maxRecDepth 100000 in
theorem iv_d37 : ∀ pc, pc < 127 → iv_cx (am_f37 pc) = true := by decide +kernel
theorem iv_m37 (pc : Nat) : iv_ck 37 pc (am_f37 pc) = true := iv_of 37 (iv_d37 pc) (fun e => by unfold am_f37; rw [e]; rfl)
set_option maxRecDepth 100000 in
theorem iv_d38 : ∀ pc, pc < 10 → iv_cx (am_f38 pc) = true := by decide +kernel
theorem iv_m38 (pc : Nat) : iv_ck 38 pc (am_f38 pc) = true := iv_of 38 (iv_d38 pc) (fun e => by unfold am_f38; rw [e]; rfl)
set_option maxRecDepth 100000 in
theorem iv_d39 : ∀ pc, pc < 51 → iv_cx (am_f39 pc) = true := by decide +kernel
theorem iv_m39 (pc : Nat) : iv_ck 39 pc (am_f39 pc) = true := iv_of 39 (iv_d39 pc) (fun e => by unfold am_f39; rw [e]; rfl)
set_option maxRecDepth 100000 in
theorem iv_d40 : ∀ pc, pc < 25 → iv_cx (am_f40 pc) = true := by decide +kernel
theorem iv_m40 (pc : Nat) : iv_ck 40 pc (am_f40 pc) = true := iv_of 40 (iv_d40 pc) (fun e => by unfold am_f40; rw [e]; rfl)
set_option maxRecDepth 100000 in
theorem iv_d41 : ∀ pc, pc < 51 → iv_cx (am_f41 pc) = true := by decide +kernel
theorem iv_m41 (pc : Nat) : iv_ck 41 pc (am_f41 pc) = true := iv_of 41 (iv_d41 pc) (fun e => by unfold am_f41; rw [e]; rfl)
set_option maxRecDepth 100000 in
theorem iv_d42 : ∀ pc, pc < 48 → iv_cx (am_f42 pc) = true := by decide +kernel
theorem iv_m42 (pc : Nat) : iv_ck 42 pc (am_f42 pc) = true := iv_of 42 (iv_d42 pc) (fun e => by unfold am_f42; rw [e]; rfl)
set_option maxRecDepth 100000 in
theorem iv_d43 : ∀ pc, pc < 10 → iv_cx (am_f43 pc) = true := by decide +kernel
theorem iv_m43 (pc : Nat) : iv_ck 43 pc (am_f43 pc) = true := iv_of 43 (iv_d43 pc) (fun e => by unfold am_f43; rw [e]; rfl)
set_option maxRecDepth 100000 in
theorem iv_d44 : ∀ pc, pc < 34 → iv_cx (am_f44 pc) = true := by decide +kernel
theorem iv_m44 (pc : Nat) : iv_ck 44 pc (am_f44 pc) = true := iv_of 44 (iv_d44 pc) (fun e => by unfold am_f44; rw [e]; rfl)
set_option maxRecDepth 100000 in
theorem iv_d45 : ∀ pc, pc < 42 → iv_cx (am_f45 pc) = true := by decide +kernel
theorem iv_m45 (pc : Nat) : iv_ck 45 pc (am_f45 pc) = true := iv_of 45 (iv_d45 pc) (fun e => by unfold am_f45; rw [e]; rfl)
set_option maxRecDepth 100000 in
theorem iv_d46 : ∀ pc, pc < 50 → iv_cx (am_f46 pc) = true := by decide +kernel
theorem iv_m46 (pc : Nat) : iv_ck 46 pc (am_f46 pc) = true := iv_of 46 (iv_d46 pc) (fun e => by unfold am_f46; rw [e]; rfl)
set_option maxRecDepth 100000 in
theorem iv_d47 : ∀ pc, pc < 72 → iv_cx (am_f47 pc) = true := by decide +kernel
theorem iv_m47 (pc : Nat) : iv_ck 47 pc (am_f47 pc) = true := iv_of 47 (iv_d47 pc) (fun e => by unfold am_f47; rw [e]; rfl)
set_option maxRecDepth 100000 in
theorem iv_d48 : ∀ pc, pc < 32 → iv_cx (am_f48 pc) = true := by decide +kernel
theorem iv_m48 (pc : Nat) : iv_ck 48 pc (am_f48 pc) = true := iv_of 48 (iv_d48 pc) (fun e => by unfold am_f48; rw [e]; rfl)
set_option maxRecDepth 100000 in
theorem iv_d49 : ∀ pc, pc < 25 → iv_cx (am_f49 pc) = true := by decide +kernel
theorem iv_m49 (pc : Nat) : iv_ck 49 pc (am_f49 pc) = true := iv_of 49 (iv_d49 pc) (fun e => by unfold am_f49; rw [e]; rfl)
set_option maxRecDepth 100000 in
theorem iv_d50 : ∀ pc, pc < 56 → iv_cx (am_f50 pc) = true := by decide +kernel
theorem iv_m50 (pc : Nat) : iv_ck 50 pc (am_f50 pc) = true := iv_of 50 (iv_d50 pc) (fun e => by unfold am_f50; rw [e]; rfl)
set_option maxRecDepth 100000 in
theorem iv_d51 : ∀ pc, pc < 8 → iv_cx (am_f51 pc) = true := by decide +kernel
theorem iv_m51 (pc : Nat) : iv_ck 51 pc (am_f51 pc) = true := iv_of 51 (iv_d51 pc) (fun e => by unfold am_f51; rw [e]; rfl)
set_option maxRecDepth 100000 in
theorem iv_d52 : ∀ pc, pc < 6 → iv_cx (am_f52 pc) = true := by decide +kernel
theorem iv_m52 (pc : Nat) : iv_ck 52 pc (am_f52 pc) = true := iv_of 52 (iv_d52 pc) (fun e => by unfold am_f52; rw [e]; rfl)
set_option maxRecDepth 100000 in
theorem iv_d53 : ∀ pc, pc < 68 → iv_cx (am_f53 pc) = true := by decide +kernel
theorem iv_m53 (pc : Nat) : iv_ck 53 pc (am_f53 pc) = true := iv_of 53 (iv_d53 pc) (fun e => by unfold am_f53; rw [e]; rfl)
set_option maxRecDepth 100000 in
theorem iv_d54 : ∀ pc, pc < 35 → iv_cx (am_f54 pc) = true := by decide +kernel
theorem iv_m54 (pc : Nat) : iv_ck 54 pc (am_f54 pc) = true := iv_of 54 (iv_d54 pc) (fun e => by unfold am_f54; rw [e]; rfl)
set_option maxRecDepth 100000 in
theorem iv_d55 : ∀ pc, pc < 54 → iv_cx (am_f55 pc) = true := by decide +kernel
theorem iv_m55 (pc : Nat) : iv_ck 55 pc (am_f55 pc) = true := iv_of 55 (iv_d55 pc) (fun e => by unfold am_f55; rw [e]; rfl)
set_option maxRecDepth 100000 in
theorem iv_d56 : ∀ pc, pc < 73 → iv_cx (am_f56 pc) = true := by decide +kernel
theorem iv_m56 (pc : Nat) : iv_ck 56 pc (am_f56 pc) = true := iv_of 56 (iv_d56 pc) (fun e => by unfold am_f56; rw [e]; rfl)
set_option maxRecDepth 100000 in
theorem iv_d57 : ∀ pc, pc < 137 → iv_cx (am_f57 pc) = true := by decide +kernel
theorem iv_m57 (pc : Nat) : iv_ck 57 pc (am_f57 pc) = true := iv_of 57 (iv_d57 pc) (fun e => by unfold am_f57; rw [e]; rfl)
set_option maxRecDepth 100000 in
theorem iv_d58 : ∀ pc, pc < 64 → iv_cx (am_f58 pc) = true := by decide +kernel
theorem iv_m58 (pc : Nat) : iv_ck 58 pc (am_f58 pc) = true := iv_of 58 (iv_d58 pc) (fun e => by unfold am_f58; rw [e]; rfl)
set_option maxRecDepth 100000 in
theorem iv_d59 : ∀ pc, pc < 37 → iv_cx (am_f59 pc) = true := by decide +kernel
theorem iv_m59 (pc : Nat) : iv_ck 59 pc (am_f59 pc) = true := iv_of 59 (iv_d59 pc) (fun e => by unfold am_f59; rw [e]; rfl)
