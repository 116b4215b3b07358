/-! the check of methods 67 .. 133 (decided) -/
set_option maxRecDepth 100000 in
theorem am_okm67 : ∀ pc, pc < 24 → am_okx 67 pc (am_f67 pc) = true := by decide +kernel
set_option maxRecDepth 100000 in
theorem am_okm68 : ∀ pc, pc < 61 → am_okx 68 pc (am_f68 pc) = true := by decide +kernel
set_option maxRecDepth 100000 in
theorem am_okm69 : ∀ pc, pc < 33 → am_okx 69 pc (am_f69 pc) = true := by decide +kernel
set_option maxRecDepth 100000 in
theorem am_okm70 : ∀ pc, pc < 86 → am_okx 70 pc (am_f70 pc) = true := by decide +kernel
set_option maxRecDepth 100000 in
theorem am_okm71 : ∀ pc, pc < 104 → am_okx 71 pc (am_f71 pc) = true := by decide +kernel
set_option maxRecDepth 100000 in
theorem am_okm72 : ∀ pc, pc < 30 → am_okx 72 pc (am_f72 pc) = true := by decide +kernel
set_option maxRecDepth 100000 in
theorem am_okm73 : ∀ pc, pc < 55 → am_okx 73 pc (am_f73 pc) = true := by decide +kernel
set_option maxRecDepth 100000 in
theorem am_okm74 : ∀ pc, pc < 70 → am_okx 74 pc (am_f74 pc) = true := by decide +kernel
set_option maxRecDepth 100000 in
theorem am_okm75 : ∀ pc, pc < 112 → am_okx 75 pc (am_f75 pc) = true := by decide +kernel
set_option maxRecDepth 100000 in
theorem am_okm76 : ∀ pc, pc < 135 → am_okx 76 pc (am_f76 pc) = true := by decide +kernel
set_option maxRecDepth 100000 in
theorem am_okm77 : ∀ pc, pc < 130 → am_okx 77 pc (am_f77 pc) = true := by decide +kernel
set_option maxRecDepth 100000 in
theorem am_okm78 : ∀ pc, pc < 60 → am_okx 78 pc (am_f78 pc) = true := by decide +kernel
set_option maxRecDepth 100000 in
theorem am_okm79 : ∀ pc, pc < 31 → am_okx 79 pc (am_f79 pc) = true := by decide +kernel
set_option maxRecDepth 100000 in
theorem am_okm80 : ∀ pc, pc < 128 → am_okx 80 pc (am_f80 pc) = true := by decide +kernel
set_option maxRecDepth 100000 in
theorem am_okm81 : ∀ pc, pc < 39 → am_okx 81 pc (am_f81 pc) = true := by decide +kernel
set_option maxRecDepth 100000 in
theorem am_okm82 : ∀ pc, pc < 99 → am_okx 82 pc (am_f82 pc) = true := by decide +kernel
set_option maxRecDepth 100000 in
theorem am_okm83 : ∀ pc, pc < 11 → am_okx 83 pc (am_f83 pc) = true := by decide +kernel
set_option maxRecDepth 100000 in
theorem am_okm84 : ∀ pc, pc < 148 → am_okx 84 pc (am_f84 pc) = true := by decide +kernel
set_option maxRecDepth 100000 in
theorem am_okm85 : ∀ pc, pc < 21 → am_okx 85 pc (am_f85 pc) = true := by decide +kernel
set_option maxRecDepth 100000 in
theorem am_okm86 : ∀ pc, pc < 13 → am_okx 86 pc (am_f86 pc) = true := by decide +kernel
set_option maxRecDepth 100000 in
theorem am_okm87 : ∀ pc, pc < 35 → am_okx 87 pc (am_f87 pc) = true := by decide +kernel
set_option maxRecDepth 100000 in
theorem am_okm88 : ∀ pc, pc < 130 → am_okx 88 pc (am_f88 pc) = true := by decide +kernel
set_option maxRecDepth 100000 in
theorem am_okm89 : ∀ pc, pc < 27 → am_okx 89 pc (am_f89 pc) = true := by decide +kernel
set_option maxRecDepth 100000 in
theorem am_okm90 : ∀ pc, pc < 35 → am_okx 90 pc (am_f90 pc) = true := by decide +kernel
set_option maxRecDepth 100000 in
theorem am_okm91 : ∀ pc, pc < 63 → am_okx 91 pc (am_f91 pc) = true := by decide +kernel
set_option maxRecDepth 100000 in
theorem am_okm92 : ∀ pc, pc < 58 → am_okx 92 pc (am_f92 pc) = true := by decide +kernel
set_option maxRecDepth 100000 in
theorem am_okm93 : ∀ pc, pc < 47 → am_okx 93 pc (am_f93 pc) = true := by decide +kernel
set_option maxRecDepth 100000 in
theorem am_okm94 : ∀ pc, pc < 75 → am_okx 94 pc (am_f94 pc) = true := by decide +kernel
set_option maxRecDepth 100000 in
theorem am_okm95 : ∀ pc, pc < 59 → am_okx 95 pc (am_f95 pc) = true := by decide +kernel
set_option maxRecDepth 100000 in
theorem am_okm96 : ∀ pc, pc < 22 → am_okx 96 pc (am_f96 pc) = true := by decide +kernel
set_option maxRecDepth 100000 in
theorem am_okm97 : ∀ pc, pc < 49 → am_okx 97 pc (am_f97 pc) = true := by decide +kernel
set_option maxRecDepth 100000 in
theorem am_okm98 : ∀ pc, pc < 85 → am_okx 98 pc (am_f98 pc) = true := by decide +kernel
set_option maxRecDepth 100000 in
theorem am_okm99 : ∀ pc, pc < 23 → am_okx 99 pc (am_f99 pc) = true := by decide +kernel
set_option maxRecDepth 100000 in
theorem am_okm100 : ∀ pc, pc < 37 → am_okx 100 pc (am_f100 pc) = true := by decide +kernel
set_option maxRecDepth 100000 in
theorem am_okm101 : ∀ pc, pc < 84 → am_okx 101 pc (am_f101 pc) = true := by decide +kernel
set_option maxRecDepth 100000 in
theorem am_okm102 : ∀ pc, pc < 44 → am_okx 102 pc (am_f102 pc) = true := by decide +kernel
set_option maxRecDepth 100000 in
theorem am_okm103 : ∀ pc, pc < 66 → am_okx 103 pc (am_f103 pc) = true := by decide +kernel
set_option maxRecDepth 100000 in
theorem am_okm104 : ∀ pc, pc < 10 → am_okx 104 pc (am_f104 pc) = true := by decide +kernel
set_option maxRecDepth 100000 in
theorem am_okm105 : ∀ pc, pc < 26 → am_okx 105 pc (am_f105 pc) = true := by decide +kernel
set_option maxRecDepth 100000 in
theorem am_okm106 : ∀ pc, pc < 38 → am_okx 106 pc (am_f106 pc) = true := by decide +kernel
set_option maxRecDepth 100000 in
theorem am_okm107 : ∀ pc, pc < 101 → am_okx 107 pc (am_f107 pc) = true := by decide +kernel
set_option maxRecDepth 100000 in
theorem am_okm108 : ∀ pc, pc < 128 → am_okx 108 pc (am_f108 pc) = true := by decide +kernel
set_option maxRecDepth 100000 in
theorem am_okm109 : ∀ pc, pc < 19 → am_okx 109 pc (am_f109 pc) = true := by decide +kernel
set_option maxRecDepth 100000 in
theorem am_okm110 : ∀ pc, pc < 22 → am_okx 110 pc (am_f110 pc) = true := by decide +kernel
set_option maxRecDepth 100000 in
theorem am_okm111 : ∀ pc, pc < 80 → am_okx 111 pc (am_f111 pc) = true := by decide +kernel
set_option maxRecDepth 100000 in
theorem am_okm112 : ∀ pc, pc < 17 → am_okx 112 pc (am_f112 pc) = true := by decide +kernel
set_option maxRecDepth 100000 in
theorem am_okm113 : ∀ pc, pc < 24 → am_okx 113 pc (am_f113 pc) = true := by decide +kernel
set_option maxRecDepth 100000 in
theorem am_okm114 : ∀ pc, pc < 68 → am_okx 114 pc (am_f114 pc) = true := by decide +kernel
set_option maxRecDepth 100000 in
theorem am_okm115 : ∀ pc, pc < 105 → am_okx 115 pc (am_f115 pc) = true := by decide +kernel
set_option maxRecDepth 100000 in
theorem am_okm116 : ∀ pc, pc < 77 → am_okx 116 pc (am_f116 pc) = true := by decide +kernel
set_option maxRecDepth 100000 in
theorem am_okm117 : ∀ pc, pc < 26 → am_okx 117 pc (am_f117 pc) = true := by decide +kernel
set_option maxRecDepth 100000 in
theorem am_okm118 : ∀ pc, pc < 59 → am_okx 118 pc (am_f118 pc) = true := by decide +kernel
set_option maxRecDepth 100000 in
theorem am_okm119 : ∀ pc, pc < 75 → am_okx 119 pc (am_f119 pc) = true := by decide +kernel
set_option maxRecDepth 100000 in
theorem am_okm120 : ∀ pc, pc < 107 → am_okx 120 pc (am_f120 pc) = true := by decide +kernel
set_option maxRecDepth 100000 in
theorem am_okm121 : ∀ pc, pc < 10 → am_okx 121 pc (am_f121 pc) = true := by decide +kernel
set_option maxRecDepth 100000 in
theorem am_okm122 : ∀ pc, pc < 40 → am_okx 122 pc (am_f122 pc) = true := by decide +kernel
set_option maxRecDepth 100000 in
theorem am_okm123 : ∀ pc, pc < 19 → am_okx 123 pc (am_f123 pc) = true := by decide +kernel
set_option maxRecDepth 100000 in
theorem am_okm124 : ∀ pc, pc < 102 → am_okx 124 pc (am_f124 pc) = true := by decide +kernel
set_option maxRecDepth 100000 in
theorem am_okm125 : ∀ pc, pc < 56 → am_okx 125 pc (am_f125 pc) = true := by decide +kernel
set_option maxRecDepth 100000 in
theorem am_okm126 : ∀ pc, pc < 58 → am_okx 126 pc (am_f126 pc) = true := by decide +kernel
set_option maxRecDepth 100000 in
theorem am_okm127 : ∀ pc, pc < 123 → am_okx 127 pc (am_f127 pc) = true := by decide +kernel
set_option maxRecDepth 100000 in
theorem am_okm128 : ∀ pc, pc < 31 → am_okx 128 pc (am_f128 pc) = true := by decide +kernel
set_option maxRecDepth 100000 in
theorem am_okm129 : ∀ pc, pc < 69 → am_okx 129 pc (am_f129 pc) = true := by decide +kernel
set_option maxRecDepth 100000 in
theorem am_okm130 : ∀ pc, pc < 57 → am_okx 130 pc (am_f130 pc) = true := by decide +kernel
set_option maxRecDepth 100000 in
theorem am_okm131 : ∀ pc, pc < 92 → am_okx 131 pc (am_f131 pc) = true := by decide +kernel
set_option maxRecDepth 100000 in
theorem am_okm132 : ∀ pc, pc < 128 → am_okx 132 pc (am_f132 pc) = true := by decide +kernel
set_option maxRecDepth 100000 in
theorem am_okm133 : ∀ pc, pc < 32 → am_okx 133 pc (am_f133 pc) = true := by decide +kernel
