/-! the check of the law, piece by piece (decided) -/
set_option maxRecDepth 100000 in
theorem am_okl0 : ∀ pc, pc < 100 → am_okx 300 (0 + pc) (am_f300 (0 + pc)) = true := by decide +kernel
set_option maxRecDepth 100000 in
theorem am_okl100 : ∀ pc, pc < 100 → am_okx 300 (100 + pc) (am_f300 (100 + pc)) = true := by decide +kernel
set_option maxRecDepth 100000 in
theorem am_okl200 : ∀ pc, pc < 100 → am_okx 300 (200 + pc) (am_f300 (200 + pc)) = true := by decide +kernel
set_option maxRecDepth 100000 in
theorem am_okl300 : ∀ pc, pc < 100 → am_okx 300 (300 + pc) (am_f300 (300 + pc)) = true := by decide +kernel
set_option maxRecDepth 100000 in
theorem am_okl400 : ∀ pc, pc < 100 → am_okx 300 (400 + pc) (am_f300 (400 + pc)) = true := by decide +kernel
set_option maxRecDepth 100000 in
theorem am_okl500 : ∀ pc, pc < 100 → am_okx 300 (500 + pc) (am_f300 (500 + pc)) = true := by decide +kernel
set_option maxRecDepth 100000 in
theorem am_okl600 : ∀ pc, pc < 100 → am_okx 300 (600 + pc) (am_f300 (600 + pc)) = true := by decide +kernel
