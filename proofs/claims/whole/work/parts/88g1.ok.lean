/-! the check of the law, piece by piece (decided) -/
set_option maxRecDepth 100000 in
theorem am_okl700 : ∀ pc, pc < 100 → am_okx 300 (700 + pc) (am_f300 (700 + pc)) = true := by decide +kernel
set_option maxRecDepth 100000 in
theorem am_okl800 : ∀ pc, pc < 100 → am_okx 300 (800 + pc) (am_f300 (800 + pc)) = true := by decide +kernel
set_option maxRecDepth 100000 in
theorem am_okl900 : ∀ pc, pc < 100 → am_okx 300 (900 + pc) (am_f300 (900 + pc)) = true := by decide +kernel
set_option maxRecDepth 100000 in
theorem am_okl1000 : ∀ pc, pc < 100 → am_okx 300 (1000 + pc) (am_f300 (1000 + pc)) = true := by decide +kernel
set_option maxRecDepth 100000 in
theorem am_okl1100 : ∀ pc, pc < 100 → am_okx 300 (1100 + pc) (am_f300 (1100 + pc)) = true := by decide +kernel
set_option maxRecDepth 100000 in
theorem am_okl1200 : ∀ pc, pc < 100 → am_okx 300 (1200 + pc) (am_f300 (1200 + pc)) = true := by decide +kernel
set_option maxRecDepth 100000 in
theorem am_okl1300 : ∀ pc, pc < 100 → am_okx 300 (1300 + pc) (am_f300 (1300 + pc)) = true := by decide +kernel
