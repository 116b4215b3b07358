/-! what no call changes: the check, on -/
set_option maxRecDepth 100000 in
theorem iv_d60 : ∀ pc, pc < 22 → iv_cx (am_f60 pc) = true := by decide +kernel
theorem iv_m60 (pc : Nat) : iv_ck 60 pc (am_f60 pc) = true := iv_of 60 (iv_d60 pc) (fun e => by unfold am_f60; rw [e]; rfl)
set_option maxRecDepth 100000 in
theorem iv_d61 : ∀ pc, pc < 305 → iv_cx (am_f61 pc) = true := by decide +kernel
theorem iv_m61 (pc : Nat) : iv_ck 61 pc (am_f61 pc) = true := iv_of 61 (iv_d61 pc) (fun e => by unfold am_f61; rw [e]; rfl)
set_option maxRecDepth 100000 in
theorem iv_d62 : ∀ pc, pc < 16 → iv_cx (am_f62 pc) = true := by decide +kernel
theorem iv_m62 (pc : Nat) : iv_ck 62 pc (am_f62 pc) = true := iv_of 62 (iv_d62 pc) (fun e => by unfold am_f62; rw [e]; rfl)
set_option maxRecDepth 100000 in
theorem iv_d63 : ∀ pc, pc < 121 → iv_cx (am_f63 pc) = true := by decide +kernel
theorem iv_m63 (pc : Nat) : iv_ck 63 pc (am_f63 pc) = true := iv_of 63 (iv_d63 pc) (fun e => by unfold am_f63; rw [e]; rfl)
set_option maxRecDepth 100000 in
theorem iv_d64 : ∀ pc, pc < 33 → iv_cx (am_f64 pc) = true := by decide +kernel
theorem iv_m64 (pc : Nat) : iv_ck 64 pc (am_f64 pc) = true := iv_of 64 (iv_d64 pc) (fun e => by unfold am_f64; rw [e]; rfl)
set_option maxRecDepth 100000 in
theorem iv_d65 : ∀ pc, pc < 62 → iv_cx (am_f65 pc) = true := by decide +kernel
theorem iv_m65 (pc : Nat) : iv_ck 65 pc (am_f65 pc) = true := iv_of 65 (iv_d65 pc) (fun e => by unfold am_f65; rw [e]; rfl)
set_option maxRecDepth 100000 in
theorem iv_d66 : ∀ pc, pc < 92 → iv_cx (am_f66 pc) = true := by decide +kernel
theorem iv_m66 (pc : Nat) : iv_ck 66 pc (am_f66 pc) = true := iv_of 66 (iv_d66 pc) (fun e => by unfold am_f66; rw [e]; rfl)
set_option maxRecDepth 100000 in
theorem iv_d67 : ∀ pc, pc < 24 → iv_cx (am_f67 pc) = true := by decide +kernel
theorem iv_m67 (pc : Nat) : iv_ck 67 pc (am_f67 pc) = true := iv_of 67 (iv_d67 pc) (fun e => by unfold am_f67; rw [e]; rfl)
set_option maxRecDepth 100000 in
theorem iv_d68 : ∀ pc, pc < 61 → iv_cx (am_f68 pc) = true := by decide +kernel
theorem iv_m68 (pc : Nat) : iv_ck 68 pc (am_f68 pc) = true := iv_of 68 (iv_d68 pc) (fun e => by unfold am_f68; rw [e]; rfl)
set_option maxRecDepth 100000 in
theorem iv_d69 : ∀ pc, pc < 33 → iv_cx (am_f69 pc) = true := by decide +kernel
theorem iv_m69 (pc : Nat) : iv_ck 69 pc (am_f69 pc) = true := iv_of 69 (iv_d69 pc) (fun e => by unfold am_f69; rw [e]; rfl)
set_option maxRecDepth 100000 in
theorem iv_d70 : ∀ pc, pc < 86 → iv_cx (am_f70 pc) = true := by decide +kernel
theorem iv_m70 (pc : Nat) : iv_ck 70 pc (am_f70 pc) = true := iv_of 70 (iv_d70 pc) (fun e => by unfold am_f70; rw [e]; rfl)
set_option maxRecDepth 100000 in
theorem iv_d71 : ∀ pc, pc < 104 → iv_cx (am_f71 pc) = true := by decide +kernel
theorem iv_m71 (pc : Nat) : iv_ck 71 pc (am_f71 pc) = true := iv_of 71 (iv_d71 pc) (fun e => by unfold am_f71; rw [e]; rfl)
set_option maxRecDepth 100000 in
theorem iv_d72 : ∀ pc, pc < 30 → iv_cx (am_f72 pc) = true := by decide +kernel
theorem iv_m72 (pc : Nat) : iv_ck 72 pc (am_f72 pc) = true := iv_of 72 (iv_d72 pc) (fun e => by unfold am_f72; rw [e]; rfl)
set_option maxRecDepth 100000 in
theorem iv_d73 : ∀ pc, pc < 55 → iv_cx (am_f73 pc) = true := by decide +kernel
theorem iv_m73 (pc : Nat) : iv_ck 73 pc (am_f73 pc) = true := iv_of 73 (iv_d73 pc) (fun e => by unfold am_f73; rw [e]; rfl)
set_option maxRecDepth 100000 in
theorem iv_d74 : ∀ pc, pc < 70 → iv_cx (am_f74 pc) = true := by decide +kernel
theorem iv_m74 (pc : Nat) : iv_ck 74 pc (am_f74 pc) = true := iv_of 74 (iv_d74 pc) (fun e => by unfold am_f74; rw [e]; rfl)
set_option maxRecDepth 100000 in
theorem iv_d75 : ∀ pc, pc < 112 → iv_cx (am_f75 pc) = true := by decide +kernel
theorem iv_m75 (pc : Nat) : iv_ck 75 pc (am_f75 pc) = true := iv_of 75 (iv_d75 pc) (fun e => by unfold am_f75; rw [e]; rfl)
set_option maxRecDepth 100000 in
theorem iv_d76 : ∀ pc, pc < 135 → iv_cx (am_f76 pc) = true := by decide +kernel
theorem iv_m76 (pc : Nat) : iv_ck 76 pc (am_f76 pc) = true := iv_of 76 (iv_d76 pc) (fun e => by unfold am_f76; rw [e]; rfl)
set_option maxRecDepth 100000 in
theorem iv_d77 : ∀ pc, pc < 130 → iv_cx (am_f77 pc) = true := by decide +kernel
theorem iv_m77 (pc : Nat) : iv_ck 77 pc (am_f77 pc) = true := iv_of 77 (iv_d77 pc) (fun e => by unfold am_f77; rw [e]; rfl)
set_option maxRecDepth 100000 in
theorem iv_d78 : ∀ pc, pc < 60 → iv_cx (am_f78 pc) = true := by decide +kernel
theorem iv_m78 (pc : Nat) : iv_ck 78 pc (am_f78 pc) = true := iv_of 78 (iv_d78 pc) (fun e => by unfold am_f78; rw [e]; rfl)
set_option maxRecDepth 100000 in
theorem iv_d79 : ∀ pc, pc < 31 → iv_cx (am_f79 pc) = true := by decide +kernel
theorem iv_m79 (pc : Nat) : iv_ck 79 pc (am_f79 pc) = true := iv_of 79 (iv_d79 pc) (fun e => by unfold am_f79; rw [e]; rfl)
set_option maxRecDepth 100000 in
theorem iv_d80 : ∀ pc, pc < 128 → iv_cx (am_f80 pc) = true := by decide +kernel
theorem iv_m80 (pc : Nat) : iv_ck 80 pc (am_f80 pc) = true := iv_of 80 (iv_d80 pc) (fun e => by unfold am_f80; rw [e]; rfl)
set_option maxRecDepth 100000 in
theorem iv_d81 : ∀ pc, pc < 39 → iv_cx (am_f81 pc) = true := by decide +kernel
theorem iv_m81 (pc : Nat) : iv_ck 81 pc (am_f81 pc) = true := iv_of 81 (iv_d81 pc) (fun e => by unfold am_f81; rw [e]; rfl)
set_option maxRecDepth 100000 in
theorem iv_d82 : ∀ pc, pc < 99 → iv_cx (am_f82 pc) = true := by decide +kernel
theorem iv_m82 (pc : Nat) : iv_ck 82 pc (am_f82 pc) = true := iv_of 82 (iv_d82 pc) (fun e => by unfold am_f82; rw [e]; rfl)
set_option maxRecDepth 100000 in
theorem iv_d83 : ∀ pc, pc < 11 → iv_cx (am_f83 pc) = true := by decide +kernel
theorem iv_m83 (pc : Nat) : iv_ck 83 pc (am_f83 pc) = true := iv_of 83 (iv_d83 pc) (fun e => by unfold am_f83; rw [e]; rfl)
set_option maxRecDepth 100000 in
theorem iv_d84 : ∀ pc, pc < 148 → iv_cx (am_f84 pc) = true := by decide +kernel
theorem iv_m84 (pc : Nat) : iv_ck 84 pc (am_f84 pc) = true := iv_of 84 (iv_d84 pc) (fun e => by unfold am_f84; rw [e]; rfl)
set_option maxRecDepth 100000 in
theorem iv_d85 : ∀ pc, pc < 21 → iv_cx (am_f85 pc) = true := by decide +kernel
theorem iv_m85 (pc : Nat) : iv_ck 85 pc (am_f85 pc) = true := iv_of 85 (iv_d85 pc) (fun e => by unfold am_f85; rw [e]; rfl)
set_option maxRecDepth 100000 in
theorem iv_d86 : ∀ pc, pc < 13 → iv_cx (am_f86 pc) = true := by decide +kernel
theorem iv_m86 (pc : Nat) : iv_ck 86 pc (am_f86 pc) = true := iv_of 86 (iv_d86 pc) (fun e => by unfold am_f86; rw [e]; rfl)
set_option maxRecDepth 100000 in
theorem iv_d87 : ∀ pc, pc < 35 → iv_cx (am_f87 pc) = true := by decide +kernel
theorem iv_m87 (pc : Nat) : iv_ck 87 pc (am_f87 pc) = true := iv_of 87 (iv_d87 pc) (fun e => by unfold am_f87; rw [e]; rfl)
set_option maxRecDepth 100000 in
theorem iv_d88 : ∀ pc, pc < 130 → iv_cx (am_f88 pc) = true := by decide +kernel
theorem iv_m88 (pc : Nat) : iv_ck 88 pc (am_f88 pc) = true := iv_of 88 (iv_d88 pc) (fun e => by unfold am_f88; rw [e]; rfl)
set_option maxRecDepth 100000 in
theorem iv_d89 : ∀ pc, pc < 27 → iv_cx (am_f89 pc) = true := by decide +kernel
theorem iv_m89 (pc : Nat) : iv_ck 89 pc (am_f89 pc) = true := iv_of 89 (iv_d89 pc) (fun e => by unfold am_f89; rw [e]; rfl)
set_option maxRecDepth 100000 in
theorem iv_d90 : ∀ pc, pc < 35 → iv_cx (am_f90 pc) = true := by decide +kernel
theorem iv_m90 (pc : Nat) : iv_ck 90 pc (am_f90 pc) = true := iv_of 90 (iv_d90 pc) (fun e => by unfold am_f90; rw [e]; rfl)
set_option maxRecDepth 100000 in
theorem iv_d91 : ∀ pc, pc < 63 → iv_cx (am_f91 pc) = true := by decide +kernel
theorem iv_m91 (pc : Nat) : iv_ck 91 pc (am_f91 pc) = true := iv_of 91 (iv_d91 pc) (fun e => by unfold am_f91; rw [e]; rfl)
set_option maxRecDepth 100000 in
theorem iv_d92 : ∀ pc, pc < 58 → iv_cx (am_f92 pc) = true := by decide +kernel
theorem iv_m92 (pc : Nat) : iv_ck 92 pc (am_f92 pc) = true := iv_of 92 (iv_d92 pc) (fun e => by unfold am_f92; rw [e]; rfl)
set_option maxRecDepth 100000 in
theorem iv_d93 : ∀ pc, pc < 47 → iv_cx (am_f93 pc) = true := by decide +kernel
theorem iv_m93 (pc : Nat) : iv_ck 93 pc (am_f93 pc) = true := iv_of 93 (iv_d93 pc) (fun e => by unfold am_f93; rw [e]; rfl)
set_option maxRecDepth 100000 in
theorem iv_d94 : ∀ pc, pc < 75 → iv_cx (am_f94 pc) = true := by decide +kernel
theorem iv_m94 (pc : Nat) : iv_ck 94 pc (am_f94 pc) = true := iv_of 94 (iv_d94 pc) (fun e => by unfold am_f94; rw [e]; rfl)
set_option maxRecDepth 100000 in
theorem iv_d95 : ∀ pc, pc < 59 → iv_cx (am_f95 pc) = true := by decide +kernel
theorem iv_m95 (pc : Nat) : iv_ck 95 pc (am_f95 pc) = true := iv_of 95 (iv_d95 pc) (fun e => by unfold am_f95; rw [e]; rfl)
set_option maxRecDepth 100000 in
theorem iv_d96 : ∀ pc, pc < 22 → iv_cx (am_f96 pc) = true := by decide +kernel
theorem iv_m96 (pc : Nat) : iv_ck 96 pc (am_f96 pc) = true := iv_of 96 (iv_d96 pc) (fun e => by unfold am_f96; rw [e]; rfl)
set_option maxRecDepth 100000 in
theorem iv_d97 : ∀ pc, pc < 49 → iv_cx (am_f97 pc) = true := by decide +kernel
theorem iv_m97 (pc : Nat) : iv_ck 97 pc (am_f97 pc) = true := iv_of 97 (iv_d97 pc) (fun e => by unfold am_f97; rw [e]; rfl)
set_option maxRecDepth 100000 in
theorem iv_d98 : ∀ pc, pc < 85 → iv_cx (am_f98 pc) = true := by decide +kernel
theorem iv_m98 (pc : Nat) : iv_ck 98 pc (am_f98 pc) = true := iv_of 98 (iv_d98 pc) (fun e => by unfold am_f98; rw [e]; rfl)
set_option maxRecDepth 100000 in
theorem iv_d99 : ∀ pc, pc < 23 → iv_cx (am_f99 pc) = true := by decide +kernel
theorem iv_m99 (pc : Nat) : iv_ck 99 pc (am_f99 pc) = true := iv_of 99 (iv_d99 pc) (fun e => by unfold am_f99; rw [e]; rfl)
set_option maxRecDepth 100000 in
theorem iv_d100 : ∀ pc, pc < 37 → iv_cx (am_f100 pc) = true := by decide +kernel
theorem iv_m100 (pc : Nat) : iv_ck 100 pc (am_f100 pc) = true := iv_of 100 (iv_d100 pc) (fun e => by unfold am_f100; rw [e]; rfl)
set_option maxRecDepth 100000 in
theorem iv_d101 : ∀ pc, pc < 84 → iv_cx (am_f101 pc) = true := by decide +kernel
theorem iv_m101 (pc : Nat) : iv_ck 101 pc (am_f101 pc) = true := iv_of 101 (iv_d101 pc) (fun e => by unfold am_f101; rw [e]; rfl)
set_option maxRecDepth 100000 in
theorem iv_d102 : ∀ pc, pc < 44 → iv_cx (am_f102 pc) = true := by decide +kernel
theorem iv_m102 (pc : Nat) : iv_ck 102 pc (am_f102 pc) = true := iv_of 102 (iv_d102 pc) (fun e => by unfold am_f102; rw [e]; rfl)
set_option maxRecDepth 100000 in
theorem iv_d103 : ∀ pc, pc < 66 → iv_cx (am_f103 pc) = true := by decide +kernel
theorem iv_m103 (pc : Nat) : iv_ck 103 pc (am_f103 pc) = true := iv_of 103 (iv_d103 pc) (fun e => by unfold am_f103; rw [e]; rfl)
set_option maxRecDepth 100000 in
theorem iv_d104 : ∀ pc, pc < 10 → iv_cx (am_f104 pc) = true := by decide +kernel
theorem iv_m104 (pc : Nat) : iv_ck 104 pc (am_f104 pc) = true := iv_of 104 (iv_d104 pc) (fun e => by unfold am_f104; rw [e]; rfl)
set_option maxRecDepth 100000 in
theorem iv_d105 : ∀ pc, pc < 26 → iv_cx (am_f105 pc) = true := by decide +kernel
theorem iv_m105 (pc : Nat) : iv_ck 105 pc (am_f105 pc) = true := iv_of 105 (iv_d105 pc) (fun e => by unfold am_f105; rw [e]; rfl)
set_option maxRecDepth 100000 in
theorem iv_d106 : ∀ pc, pc < 38 → iv_cx (am_f106 pc) = true := by decide +kernel
theorem iv_m106 (pc : Nat) : iv_ck 106 pc (am_f106 pc) = true := iv_of 106 (iv_d106 pc) (fun e => by unfold am_f106; rw [e]; rfl)
set_option maxRecDepth 100000 in
theorem iv_d107 : ∀ pc, pc < 101 → iv_cx (am_f107 pc) = true := by decide +kernel
theorem iv_m107 (pc : Nat) : iv_ck 107 pc (am_f107 pc) = true := iv_of 107 (iv_d107 pc) (fun e => by unfold am_f107; rw [e]; rfl)
set_option maxRecDepth 100000 in
theorem iv_d108 : ∀ pc, pc < 128 → iv_cx (am_f108 pc) = true := by decide +kernel
theorem iv_m108 (pc : Nat) : iv_ck 108 pc (am_f108 pc) = true := iv_of 108 (iv_d108 pc) (fun e => by unfold am_f108; rw [e]; rfl)
set_option maxRecDepth 100000 in
theorem iv_d109 : ∀ pc, pc < 19 → iv_cx (am_f109 pc) = true := by decide +kernel
theorem iv_m109 (pc : Nat) : iv_ck 109 pc (am_f109 pc) = true := iv_of 109 (iv_d109 pc) (fun e => by unfold am_f109; rw [e]; rfl)
set_option maxRecDepth 100000 in
theorem iv_d110 : ∀ pc, pc < 22 → iv_cx (am_f110 pc) = true := by decide +kernel
theorem iv_m110 (pc : Nat) : iv_ck 110 pc (am_f110 pc) = true := iv_of 110 (iv_d110 pc) (fun e => by unfold am_f110; rw [e]; rfl)
set_option maxRecDepth 100000 in
theorem iv_d111 : ∀ pc, pc < 80 → iv_cx (am_f111 pc) = true := by decide +kernel
theorem iv_m111 (pc : Nat) : iv_ck 111 pc (am_f111 pc) = true := iv_of 111 (iv_d111 pc) (fun e => by unfold am_f111; rw [e]; rfl)
set_option maxRecDepth 100000 in
theorem iv_d112 : ∀ pc, pc < 17 → iv_cx (am_f112 pc) = true := by decide +kernel
theorem iv_m112 (pc : Nat) : iv_ck 112 pc (am_f112 pc) = true := iv_of 112 (iv_d112 pc) (fun e => by unfold am_f112; rw [e]; rfl)
set_option maxRecDepth 100000 in
theorem iv_d113 : ∀ pc, pc < 24 → iv_cx (am_f113 pc) = true := by decide +kernel
theorem iv_m113 (pc : Nat) : iv_ck 113 pc (am_f113 pc) = true := iv_of 113 (iv_d113 pc) (fun e => by unfold am_f113; rw [e]; rfl)
set_option maxRecDepth 100000 in
theorem iv_d114 : ∀ pc, pc < 68 → iv_cx (am_f114 pc) = true := by decide +kernel
theorem iv_m114 (pc : Nat) : iv_ck 114 pc (am_f114 pc) = true := iv_of 114 (iv_d114 pc) (fun e => by unfold am_f114; rw [e]; rfl)
set_option maxRecDepth 100000 in
theorem iv_d115 : ∀ pc, pc < 105 → iv_cx (am_f115 pc) = true := by decide +kernel
theorem iv_m115 (pc : Nat) : iv_ck 115 pc (am_f115 pc) = true := iv_of 115 (iv_d115 pc) (fun e => by unfold am_f115; rw [e]; rfl)
set_option maxRecDepth 100000 in
theorem iv_d116 : ∀ pc, pc < 77 → iv_cx (am_f116 pc) = true := by decide +kernel
theorem iv_m116 (pc : Nat) : iv_ck 116 pc (am_f116 pc) = true := iv_of 116 (iv_d116 pc) (fun e => by unfold am_f116; rw [e]; rfl)
set_option maxRecDepth 100000 in
theorem iv_d117 : ∀ pc, pc < 26 → iv_cx (am_f117 pc) = true := by decide +kernel
theorem iv_m117 (pc : Nat) : iv_ck 117 pc (am_f117 pc) = true := iv_of 117 (iv_d117 pc) (fun e => by unfold am_f117; rw [e]; rfl)
set_option maxRecDepth 100000 in
theorem iv_d118 : ∀ pc, pc < 59 → iv_cx (am_f118 pc) = true := by decide +kernel
theorem iv_m118 (pc : Nat) : iv_ck 118 pc (am_f118 pc) = true := iv_of 118 (iv_d118 pc) (fun e => by unfold am_f118; rw [e]; rfl)
set_option maxRecDepth 100000 in
theorem iv_d119 : ∀ pc, pc < 75 → iv_cx (am_f119 pc) = true := by decide +kernel
theorem iv_m119 (pc : Nat) : iv_ck 119 pc (am_f119 pc) = true := iv_of 119 (iv_d119 pc) (fun e => by unfold am_f119; rw [e]; rfl)
