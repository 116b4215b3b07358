/-! the check of the law, piece by piece (decided) -/
set_option maxRecDepth 100000 in
theorem am_okl2100 : ∀ pc, pc < 100 → am_okx 300 (2100 + pc) (am_f300 (2100 + pc)) = true := by decide +kernel
set_option maxRecDepth 100000 in
theorem am_okl2200 : ∀ pc, pc < 100 → am_okx 300 (2200 + pc) (am_f300 (2200 + pc)) = true := by decide +kernel
set_option maxRecDepth 100000 in
theorem am_okl2300 : ∀ pc, pc < 100 → am_okx 300 (2300 + pc) (am_f300 (2300 + pc)) = true := by decide +kernel
set_option maxRecDepth 100000 in
theorem am_okl2400 : ∀ pc, pc < 100 → am_okx 300 (2400 + pc) (am_f300 (2400 + pc)) = true := by decide +kernel
set_option maxRecDepth 100000 in
theorem am_okl2500 : ∀ pc, pc < 100 → am_okx 300 (2500 + pc) (am_f300 (2500 + pc)) = true := by decide +kernel
set_option maxRecDepth 100000 in
theorem am_okl2600 : ∀ pc, pc < 100 → am_okx 300 (2600 + pc) (am_f300 (2600 + pc)) = true := by decide +kernel
set_option maxRecDepth 100000 in
theorem am_okl2700 : ∀ pc, pc < 100 → am_okx 300 (2700 + pc) (am_f300 (2700 + pc)) = true := by decide +kernel
theorem am_okm300 : ∀ pc, pc < 2776 → am_okx 300 pc (am_f300 pc) = true := by
  intro pc h
  by_cases h0 : pc < 100
  · have := am_okl0 (pc - 0) (by omega)
    rw [show 0 + (pc - 0) = pc by omega] at this
    exact this
  by_cases h100 : pc < 200
  · have := am_okl100 (pc - 100) (by omega)
    rw [show 100 + (pc - 100) = pc by omega] at this
    exact this
  by_cases h200 : pc < 300
  · have := am_okl200 (pc - 200) (by omega)
    rw [show 200 + (pc - 200) = pc by omega] at this
    exact this
  by_cases h300 : pc < 400
  · have := am_okl300 (pc - 300) (by omega)
    rw [show 300 + (pc - 300) = pc by omega] at this
    exact this
  by_cases h400 : pc < 500
  · have := am_okl400 (pc - 400) (by omega)
    rw [show 400 + (pc - 400) = pc by omega] at this
    exact this
  by_cases h500 : pc < 600
  · have := am_okl500 (pc - 500) (by omega)
    rw [show 500 + (pc - 500) = pc by omega] at this
    exact this
  by_cases h600 : pc < 700
  · have := am_okl600 (pc - 600) (by omega)
    rw [show 600 + (pc - 600) = pc by omega] at this
    exact this
  by_cases h700 : pc < 800
  · have := am_okl700 (pc - 700) (by omega)
    rw [show 700 + (pc - 700) = pc by omega] at this
    exact this
  by_cases h800 : pc < 900
  · have := am_okl800 (pc - 800) (by omega)
    rw [show 800 + (pc - 800) = pc by omega] at this
    exact this
  by_cases h900 : pc < 1000
  · have := am_okl900 (pc - 900) (by omega)
    rw [show 900 + (pc - 900) = pc by omega] at this
    exact this
  by_cases h1000 : pc < 1100
  · have := am_okl1000 (pc - 1000) (by omega)
    rw [show 1000 + (pc - 1000) = pc by omega] at this
    exact this
  by_cases h1100 : pc < 1200
  · have := am_okl1100 (pc - 1100) (by omega)
    rw [show 1100 + (pc - 1100) = pc by omega] at this
    exact this
  by_cases h1200 : pc < 1300
  · have := am_okl1200 (pc - 1200) (by omega)
    rw [show 1200 + (pc - 1200) = pc by omega] at this
    exact this
  by_cases h1300 : pc < 1400
  · have := am_okl1300 (pc - 1300) (by omega)
    rw [show 1300 + (pc - 1300) = pc by omega] at this
    exact this
  by_cases h1400 : pc < 1500
  · have := am_okl1400 (pc - 1400) (by omega)
    rw [show 1400 + (pc - 1400) = pc by omega] at this
    exact this
  by_cases h1500 : pc < 1600
  · have := am_okl1500 (pc - 1500) (by omega)
    rw [show 1500 + (pc - 1500) = pc by omega] at this
    exact this
  by_cases h1600 : pc < 1700
  · have := am_okl1600 (pc - 1600) (by omega)
    rw [show 1600 + (pc - 1600) = pc by omega] at this
    exact this
  by_cases h1700 : pc < 1800
  · have := am_okl1700 (pc - 1700) (by omega)
    rw [show 1700 + (pc - 1700) = pc by omega] at this
    exact this
  by_cases h1800 : pc < 1900
  · have := am_okl1800 (pc - 1800) (by omega)
    rw [show 1800 + (pc - 1800) = pc by omega] at this
    exact this
  by_cases h1900 : pc < 2000
  · have := am_okl1900 (pc - 1900) (by omega)
    rw [show 1900 + (pc - 1900) = pc by omega] at this
    exact this
  by_cases h2000 : pc < 2100
  · have := am_okl2000 (pc - 2000) (by omega)
    rw [show 2000 + (pc - 2000) = pc by omega] at this
    exact this
  by_cases h2100 : pc < 2200
  · have := am_okl2100 (pc - 2100) (by omega)
    rw [show 2100 + (pc - 2100) = pc by omega] at this
    exact this
  by_cases h2200 : pc < 2300
  · have := am_okl2200 (pc - 2200) (by omega)
    rw [show 2200 + (pc - 2200) = pc by omega] at this
    exact this
  by_cases h2300 : pc < 2400
  · have := am_okl2300 (pc - 2300) (by omega)
    rw [show 2300 + (pc - 2300) = pc by omega] at this
    exact this
  by_cases h2400 : pc < 2500
  · have := am_okl2400 (pc - 2400) (by omega)
    rw [show 2400 + (pc - 2400) = pc by omega] at this
    exact this
  by_cases h2500 : pc < 2600
  · have := am_okl2500 (pc - 2500) (by omega)
    rw [show 2500 + (pc - 2500) = pc by omega] at this
    exact this
  by_cases h2600 : pc < 2700
  · have := am_okl2600 (pc - 2600) (by omega)
    rw [show 2600 + (pc - 2600) = pc by omega] at this
    exact this
  by_cases h2700 : pc < 2800
  · have := am_okl2700 (pc - 2700) (by omega)
    rw [show 2700 + (pc - 2700) = pc by omega] at this
    exact this
  omega
