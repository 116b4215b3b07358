/-! the check of the law, piece by piece (decided) -/
set_option maxRecDepth 100000 in
theorem am_okl1400 : ∀ pc, pc < 100 → am_okx 300 (1400 + pc) (am_f300 (1400 + pc)) = true := by decide +kernel
set_option maxRecDepth 100000 in
theorem am_okl1500 : ∀ pc, pc < 100 → am_okx 300 (1500 + pc) (am_f300 (1500 + pc)) = true := by decide +kernel
set_option maxRecDepth 100000 in
theorem am_okl1600 : ∀ pc, pc < 100 → am_okx 300 (1600 + pc) (am_f300 (1600 + pc)) = true := by decide +kernel
set_option maxRecDepth 100000 in
theorem am_okl1700 : ∀ pc, pc < 100 → am_okx 300 (1700 + pc) (am_f300 (1700 + pc)) = true := by decide +kernel
set_option maxRecDepth 100000 in
theorem am_okl1800 : ∀ pc, pc < 100 → am_okx 300 (1800 + pc) (am_f300 (1800 + pc)) = true := by decide +kernel
set_option maxRecDepth 100000 in
theorem am_okl1900 : ∀ pc, pc < 100 → am_okx 300 (1900 + pc) (am_f300 (1900 + pc)) = true := by decide +kernel
set_option maxRecDepth 100000 in
theorem am_okl2000 : ∀ pc, pc < 100 → am_okx 300 (2000 + pc) (am_f300 (2000 + pc)) = true := by decide +kernel
