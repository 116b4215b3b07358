/-! the check of methods 0 .. 66 (decided) -/
def am_okx (k pc : Nat) (o : Option am_C) : Bool := match o with
  | none => true
  | some q => am_ok k pc q && (cond (Nat.beq q.2.2.1 23) (am_nt q.2.2.2.2.2.2.1 || (am_hchk k pc 0 (am_hd k pc 0) && am_hchk k pc 1 (am_hd k pc 1))) true)
set_option maxRecDepth 100000 in
theorem am_okm0 : ∀ pc, pc < 132 → am_okx 0 pc (am_f0 pc) = true := by decide +kernel
set_option maxRecDepth 100000 in
theorem am_okm1 : ∀ pc, pc < 26 → am_okx 1 pc (am_f1 pc) = true := by decide +kernel
set_option maxRecDepth 100000 in
theorem am_okm2 : ∀ pc, pc < 44 → am_okx 2 pc (am_f2 pc) = true := by decide +kernel
set_option maxRecDepth 100000 in
theorem am_okm3 : ∀ pc, pc < 107 → am_okx 3 pc (am_f3 pc) = true := by decide +kernel
set_option maxRecDepth 100000 in
theorem am_okm4 : ∀ pc, pc < 25 → am_okx 4 pc (am_f4 pc) = true := by decide +kernel
set_option maxRecDepth 100000 in
theorem am_okm5 : ∀ pc, pc < 92 → am_okx 5 pc (am_f5 pc) = true := by decide +kernel
set_option maxRecDepth 100000 in
theorem am_okm6 : ∀ pc, pc < 24 → am_okx 6 pc (am_f6 pc) = true := by decide +kernel
set_option maxRecDepth 100000 in
theorem am_okm7 : ∀ pc, pc < 34 → am_okx 7 pc (am_f7 pc) = true := by decide +kernel
set_option maxRecDepth 100000 in
theorem am_okm8 : ∀ pc, pc < 50 → am_okx 8 pc (am_f8 pc) = true := by decide +kernel
set_option maxRecDepth 100000 in
theorem am_okm9 : ∀ pc, pc < 10 → am_okx 9 pc (am_f9 pc) = true := by decide +kernel
set_option maxRecDepth 100000 in
theorem am_okm10 : ∀ pc, pc < 63 → am_okx 10 pc (am_f10 pc) = true := by decide +kernel
set_option maxRecDepth 100000 in
theorem am_okm11 : ∀ pc, pc < 47 → am_okx 11 pc (am_f11 pc) = true := by decide +kernel
set_option maxRecDepth 100000 in
theorem am_okm12 : ∀ pc, pc < 5 → am_okx 12 pc (am_f12 pc) = true := by decide +kernel
set_option maxRecDepth 100000 in
theorem am_okm13 : ∀ pc, pc < 69 → am_okx 13 pc (am_f13 pc) = true := by decide +kernel
set_option maxRecDepth 100000 in
theorem am_okm14 : ∀ pc, pc < 44 → am_okx 14 pc (am_f14 pc) = true := by decide +kernel
set_option maxRecDepth 100000 in
theorem am_okm15 : ∀ pc, pc < 106 → am_okx 15 pc (am_f15 pc) = true := by decide +kernel
set_option maxRecDepth 100000 in
theorem am_okm16 : ∀ pc, pc < 27 → am_okx 16 pc (am_f16 pc) = true := by decide +kernel
set_option maxRecDepth 100000 in
theorem am_okm17 : ∀ pc, pc < 25 → am_okx 17 pc (am_f17 pc) = true := by decide +kernel
set_option maxRecDepth 100000 in
theorem am_okm18 : ∀ pc, pc < 92 → am_okx 18 pc (am_f18 pc) = true := by decide +kernel
set_option maxRecDepth 100000 in
theorem am_okm19 : ∀ pc, pc < 117 → am_okx 19 pc (am_f19 pc) = true := by decide +kernel
set_option maxRecDepth 100000 in
theorem am_okm20 : ∀ pc, pc < 17 → am_okx 20 pc (am_f20 pc) = true := by decide +kernel
set_option maxRecDepth 100000 in
theorem am_okm21 : ∀ pc, pc < 54 → am_okx 21 pc (am_f21 pc) = true := by decide +kernel
set_option maxRecDepth 100000 in
theorem am_okm22 : ∀ pc, pc < 175 → am_okx 22 pc (am_f22 pc) = true := by decide +kernel
set_option maxRecDepth 100000 in
theorem am_okm23 : ∀ pc, pc < 118 → am_okx 23 pc (am_f23 pc) = true := by decide +kernel
set_option maxRecDepth 100000 in
theorem am_okm24 : ∀ pc, pc < 10 → am_okx 24 pc (am_f24 pc) = true := by decide +kernel
set_option maxRecDepth 100000 in
theorem am_okm25 : ∀ pc, pc < 84 → am_okx 25 pc (am_f25 pc) = true := by decide +kernel
set_option maxRecDepth 100000 in
theorem am_okm26 : ∀ pc, pc < 124 → am_okx 26 pc (am_f26 pc) = true := by decide +kernel
set_option maxRecDepth 100000 in
theorem am_okm27 : ∀ pc, pc < 68 → am_okx 27 pc (am_f27 pc) = true := by decide +kernel
set_option maxRecDepth 100000 in
theorem am_okm28 : ∀ pc, pc < 104 → am_okx 28 pc (am_f28 pc) = true := by decide +kernel
set_option maxRecDepth 100000 in
theorem am_okm29 : ∀ pc, pc < 31 → am_okx 29 pc (am_f29 pc) = true := by decide +kernel
set_option maxRecDepth 100000 in
theorem am_okm30 : ∀ pc, pc < 50 → am_okx 30 pc (am_f30 pc) = true := by decide +kernel
set_option maxRecDepth 100000 in
theorem am_okm31 : ∀ pc, pc < 152 → am_okx 31 pc (am_f31 pc) = true := by decide +kernel
set_option maxRecDepth 100000 in
theorem am_okm32 : ∀ pc, pc < 88 → am_okx 32 pc (am_f32 pc) = true := by decide +kernel
set_option maxRecDepth 100000 in
theorem am_okm33 : ∀ pc, pc < 24 → am_okx 33 pc (am_f33 pc) = true := by decide +kernel
set_option maxRecDepth 100000 in
theorem am_okm34 : ∀ pc, pc < 115 → am_okx 34 pc (am_f34 pc) = true := by decide +kernel
set_option maxRecDepth 100000 in
theorem am_okm35 : ∀ pc, pc < 13 → am_okx 35 pc (am_f35 pc) = true := by decide +kernel
set_option maxRecDepth 100000 in
theorem am_okm36 : ∀ pc, pc < 117 → am_okx 36 pc (am_f36 pc) = true := by decide +kernel
set_option maxRecDepth 100000 in
theorem am_okm37 : ∀ pc, pc < 127 → am_okx 37 pc (am_f37 pc) = true := by decide +kernel
set_option maxRecDepth 100000 in
theorem am_okm38 : ∀ pc, pc < 10 → am_okx 38 pc (am_f38 pc) = true := by decide +kernel
set_option maxRecDepth 100000 in
theorem am_okm39 : ∀ pc, pc < 51 → am_okx 39 pc (am_f39 pc) = true := by decide +kernel
set_option maxRecDepth 100000 in
theorem am_okm40 : ∀ pc, pc < 25 → am_okx 40 pc (am_f40 pc) = true := by decide +kernel
set_option maxRecDepth 100000 in
theorem am_okm41 : ∀ pc, pc < 51 → am_okx 41 pc (am_f41 pc) = true := by decide +kernel
set_option maxRecDepth 100000 in
theorem am_okm42 : ∀ pc, pc < 48 → am_okx 42 pc (am_f42 pc) = true := by decide +kernel
set_option maxRecDepth 100000 in
theorem am_okm43 : ∀ pc, pc < 10 → am_okx 43 pc (am_f43 pc) = true := by decide +kernel
set_option maxRecDepth 100000 in
theorem am_okm44 : ∀ pc, pc < 34 → am_okx 44 pc (am_f44 pc) = true := by decide +kernel
set_option maxRecDepth 100000 in
theorem am_okm45 : ∀ pc, pc < 42 → am_okx 45 pc (am_f45 pc) = true := by decide +kernel
set_option maxRecDepth 100000 in
theorem am_okm46 : ∀ pc, pc < 50 → am_okx 46 pc (am_f46 pc) = true := by decide +kernel
set_option maxRecDepth 100000 in
theorem am_okm47 : ∀ pc, pc < 72 → am_okx 47 pc (am_f47 pc) = true := by decide +kernel
set_option maxRecDepth 100000 in
theorem am_okm48 : ∀ pc, pc < 32 → am_okx 48 pc (am_f48 pc) = true := by decide +kernel
set_option maxRecDepth 100000 in
theorem am_okm49 : ∀ pc, pc < 25 → am_okx 49 pc (am_f49 pc) = true := by decide +kernel
set_option maxRecDepth 100000 in
theorem am_okm50 : ∀ pc, pc < 56 → am_okx 50 pc (am_f50 pc) = true := by decide +kernel
set_option maxRecDepth 100000 in
theorem am_okm51 : ∀ pc, pc < 8 → am_okx 51 pc (am_f51 pc) = true := by decide +kernel
set_option maxRecDepth 100000 in
theorem am_okm52 : ∀ pc, pc < 6 → am_okx 52 pc (am_f52 pc) = true := by decide +kernel
set_option maxRecDepth 100000 in
theorem am_okm53 : ∀ pc, pc < 68 → am_okx 53 pc (am_f53 pc) = true := by decide +kernel
set_option maxRecDepth 100000 in
theorem am_okm54 : ∀ pc, pc < 35 → am_okx 54 pc (am_f54 pc) = true := by decide +kernel
set_option maxRecDepth 100000 in
theorem am_okm55 : ∀ pc, pc < 54 → am_okx 55 pc (am_f55 pc) = true := by decide +kernel
set_option maxRecDepth 100000 in
theorem am_okm56 : ∀ pc, pc < 73 → am_okx 56 pc (am_f56 pc) = true := by decide +kernel
set_option maxRecDepth 100000 in
theorem am_okm57 : ∀ pc, pc < 137 → am_okx 57 pc (am_f57 pc) = true := by decide +kernel
set_option maxRecDepth 100000 in
theorem am_okm58 : ∀ pc, pc < 64 → am_okx 58 pc (am_f58 pc) = true := by decide +kernel
set_option maxRecDepth 100000 in
theorem am_okm59 : ∀ pc, pc < 37 → am_okx 59 pc (am_f59 pc) = true := by decide +kernel
set_option maxRecDepth 100000 in
theorem am_okm60 : ∀ pc, pc < 22 → am_okx 60 pc (am_f60 pc) = true := by decide +kernel
set_option maxRecDepth 100000 in
theorem am_okm61 : ∀ pc, pc < 305 → am_okx 61 pc (am_f61 pc) = true := by decide +kernel
set_option maxRecDepth 100000 in
theorem am_okm62 : ∀ pc, pc < 16 → am_okx 62 pc (am_f62 pc) = true := by decide +kernel
set_option maxRecDepth 100000 in
theorem am_okm63 : ∀ pc, pc < 121 → am_okx 63 pc (am_f63 pc) = true := by decide +kernel
set_option maxRecDepth 100000 in
theorem am_okm64 : ∀ pc, pc < 33 → am_okx 64 pc (am_f64 pc) = true := by decide +kernel
set_option maxRecDepth 100000 in
theorem am_okm65 : ∀ pc, pc < 62 → am_okx 65 pc (am_f65 pc) = true := by decide +kernel
set_option maxRecDepth 100000 in
theorem am_okm66 : ∀ pc, pc < 92 → am_okx 66 pc (am_f66 pc) = true := by decide +kernel
