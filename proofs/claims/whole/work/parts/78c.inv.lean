/-! what no call changes: the check, on -/
set_option maxRecDepth 100000 in
theorem iv_d120 : ∀ pc, pc < 107 → iv_cx (am_f120 pc) = true := by decide +kernel
theorem iv_m120 (pc : Nat) : iv_ck 120 pc (am_f120 pc) = true := iv_of 120 (iv_d120 pc) (fun e => by unfold am_f120; rw [e]; rfl)
set_option maxRecDepth 100000 in
theorem iv_d121 : ∀ pc, pc < 10 → iv_cx (am_f121 pc) = true := by decide +kernel
theorem iv_m121 (pc : Nat) : iv_ck 121 pc (am_f121 pc) = true := iv_of 121 (iv_d121 pc) (fun e => by unfold am_f121; rw [e]; rfl)
set_option maxRecDepth 100000 in
theorem iv_d122 : ∀ pc, pc < 40 → iv_cx (am_f122 pc) = true := by decide +kernel
theorem iv_m122 (pc : Nat) : iv_ck 122 pc (am_f122 pc) = true := iv_of 122 (iv_d122 pc) (fun e => by unfold am_f122; rw [e]; rfl)
set_option maxRecDepth 100000 in
theorem iv_d123 : ∀ pc, pc < 19 → iv_cx (am_f123 pc) = true := by decide +kernel
theorem iv_m123 (pc : Nat) : iv_ck 123 pc (am_f123 pc) = true := iv_of 123 (iv_d123 pc) (fun e => by unfold am_f123; rw [e]; rfl)
set_option maxRecDepth 100000 in
theorem iv_d124 : ∀ pc, pc < 102 → iv_cx (am_f124 pc) = true := by decide +kernel
theorem iv_m124 (pc : Nat) : iv_ck 124 pc (am_f124 pc) = true := iv_of 124 (iv_d124 pc) (fun e => by unfold am_f124; rw [e]; rfl)
set_option maxRecDepth 100000 in
theorem iv_d125 : ∀ pc, pc < 56 → iv_cx (am_f125 pc) = true := by decide +kernel
theorem iv_m125 (pc : Nat) : iv_ck 125 pc (am_f125 pc) = true := iv_of 125 (iv_d125 pc) (fun e => by unfold am_f125; rw [e]; rfl)
set_option maxRecDepth 100000 in
theorem iv_d126 : ∀ pc, pc < 58 → iv_cx (am_f126 pc) = true := by decide +kernel
theorem iv_m126 (pc : Nat) : iv_ck 126 pc (am_f126 pc) = true := iv_of 126 (iv_d126 pc) (fun e => by unfold am_f126; rw [e]; rfl)
set_option maxRecDepth 100000 in
theorem iv_d127 : ∀ pc, pc < 123 → iv_cx (am_f127 pc) = true := by decide +kernel
theorem iv_m127 (pc : Nat) : iv_ck 127 pc (am_f127 pc) = true := iv_of 127 (iv_d127 pc) (fun e => by unfold am_f127; rw [e]; rfl)
set_option maxRecDepth 100000 in
theorem iv_d128 : ∀ pc, pc < 31 → iv_cx (am_f128 pc) = true := by decide +kernel
theorem iv_m128 (pc : Nat) : iv_ck 128 pc (am_f128 pc) = true := iv_of 128 (iv_d128 pc) (fun e => by unfold am_f128; rw [e]; rfl)
set_option maxRecDepth 100000 in
theorem iv_d129 : ∀ pc, pc < 69 → iv_cx (am_f129 pc) = true := by decide +kernel
theorem iv_m129 (pc : Nat) : iv_ck 129 pc (am_f129 pc) = true := iv_of 129 (iv_d129 pc) (fun e => by unfold am_f129; rw [e]; rfl)
set_option maxRecDepth 100000 in
theorem iv_d130 : ∀ pc, pc < 57 → iv_cx (am_f130 pc) = true := by decide +kernel
theorem iv_m130 (pc : Nat) : iv_ck 130 pc (am_f130 pc) = true := iv_of 130 (iv_d130 pc) (fun e => by unfold am_f130; rw [e]; rfl)
set_option maxRecDepth 100000 in
theorem iv_d131 : ∀ pc, pc < 92 → iv_cx (am_f131 pc) = true := by decide +kernel
theorem iv_m131 (pc : Nat) : iv_ck 131 pc (am_f131 pc) = true := iv_of 131 (iv_d131 pc) (fun e => by unfold am_f131; rw [e]; rfl)
set_option maxRecDepth 100000 in
theorem iv_d132 : ∀ pc, pc < 128 → iv_cx (am_f132 pc) = true := by decide +kernel
theorem iv_m132 (pc : Nat) : iv_ck 132 pc (am_f132 pc) = true := iv_of 132 (iv_d132 pc) (fun e => by unfold am_f132; rw [e]; rfl)
set_option maxRecDepth 100000 in
theorem iv_d133 : ∀ pc, pc < 32 → iv_cx (am_f133 pc) = true := by decide +kernel
theorem iv_m133 (pc : Nat) : iv_ck 133 pc (am_f133 pc) = true := iv_of 133 (iv_d133 pc) (fun e => by unfold am_f133; rw [e]; rfl)
set_option maxRecDepth 100000 in
theorem iv_d134 : ∀ pc, pc < 153 → iv_cx (am_f134 pc) = true := by decide +kernel
theorem iv_m134 (pc : Nat) : iv_ck 134 pc (am_f134 pc) = true := iv_of 134 (iv_d134 pc) (fun e => by unfold am_f134; rw [e]; rfl)
set_option maxRecDepth 100000 in
theorem iv_d135 : ∀ pc, pc < 33 → iv_cx (am_f135 pc) = true := by decide +kernel
theorem iv_m135 (pc : Nat) : iv_ck 135 pc (am_f135 pc) = true := iv_of 135 (iv_d135 pc) (fun e => by unfold am_f135; rw [e]; rfl)
set_option maxRecDepth 100000 in
theorem iv_d136 : ∀ pc, pc < 58 → iv_cx (am_f136 pc) = true := by decide +kernel
theorem iv_m136 (pc : Nat) : iv_ck 136 pc (am_f136 pc) = true := iv_of 136 (iv_d136 pc) (fun e => by unfold am_f136; rw [e]; rfl)
set_option maxRecDepth 100000 in
theorem iv_d137 : ∀ pc, pc < 167 → iv_cx (am_f137 pc) = true := by decide +kernel
theorem iv_m137 (pc : Nat) : iv_ck 137 pc (am_f137 pc) = true := iv_of 137 (iv_d137 pc) (fun e => by unfold am_f137; rw [e]; rfl)
set_option maxRecDepth 100000 in
theorem iv_d138 : ∀ pc, pc < 37 → iv_cx (am_f138 pc) = true := by decide +kernel
theorem iv_m138 (pc : Nat) : iv_ck 138 pc (am_f138 pc) = true := iv_of 138 (iv_d138 pc) (fun e => by unfold am_f138; rw [e]; rfl)
set_option maxRecDepth 100000 in
theorem iv_d139 : ∀ pc, pc < 73 → iv_cx (am_f139 pc) = true := by decide +kernel
theorem iv_m139 (pc : Nat) : iv_ck 139 pc (am_f139 pc) = true := iv_of 139 (iv_d139 pc) (fun e => by unfold am_f139; rw [e]; rfl)
set_option maxRecDepth 100000 in
theorem iv_d140 : ∀ pc, pc < 396 → iv_cx (am_f140 pc) = true := by decide +kernel
theorem iv_m140 (pc : Nat) : iv_ck 140 pc (am_f140 pc) = true := iv_of 140 (iv_d140 pc) (fun e => by unfold am_f140; rw [e]; rfl)
set_option maxRecDepth 100000 in
theorem iv_d141 : ∀ pc, pc < 5 → iv_cx (am_f141 pc) = true := by decide +kernel
theorem iv_m141 (pc : Nat) : iv_ck 141 pc (am_f141 pc) = true := iv_of 141 (iv_d141 pc) (fun e => by unfold am_f141; rw [e]; rfl)
set_option maxRecDepth 100000 in
theorem iv_d142 : ∀ pc, pc < 125 → iv_cx (am_f142 pc) = true := by decide +kernel
theorem iv_m142 (pc : Nat) : iv_ck 142 pc (am_f142 pc) = true := iv_of 142 (iv_d142 pc) (fun e => by unfold am_f142; rw [e]; rfl)
set_option maxRecDepth 100000 in
theorem iv_d143 : ∀ pc, pc < 135 → iv_cx (am_f143 pc) = true := by decide +kernel
theorem iv_m143 (pc : Nat) : iv_ck 143 pc (am_f143 pc) = true := iv_of 143 (iv_d143 pc) (fun e => by unfold am_f143; rw [e]; rfl)
set_option maxRecDepth 100000 in
theorem iv_d144 : ∀ pc, pc < 7 → iv_cx (am_f144 pc) = true := by decide +kernel
theorem iv_m144 (pc : Nat) : iv_ck 144 pc (am_f144 pc) = true := iv_of 144 (iv_d144 pc) (fun e => by unfold am_f144; rw [e]; rfl)
set_option maxRecDepth 100000 in
theorem iv_d145 : ∀ pc, pc < 221 → iv_cx (am_f145 pc) = true := by decide +kernel
theorem iv_m145 (pc : Nat) : iv_ck 145 pc (am_f145 pc) = true := iv_of 145 (iv_d145 pc) (fun e => by unfold am_f145; rw [e]; rfl)
set_option maxRecDepth 100000 in
theorem iv_d146 : ∀ pc, pc < 19 → iv_cx (am_f146 pc) = true := by decide +kernel
theorem iv_m146 (pc : Nat) : iv_ck 146 pc (am_f146 pc) = true := iv_of 146 (iv_d146 pc) (fun e => by unfold am_f146; rw [e]; rfl)
set_option maxRecDepth 100000 in
theorem iv_d147 : ∀ pc, pc < 18 → iv_cx (am_f147 pc) = true := by decide +kernel
theorem iv_m147 (pc : Nat) : iv_ck 147 pc (am_f147 pc) = true := iv_of 147 (iv_d147 pc) (fun e => by unfold am_f147; rw [e]; rfl)
set_option maxRecDepth 100000 in
theorem iv_d148 : ∀ pc, pc < 18 → iv_cx (am_f148 pc) = true := by decide +kernel
theorem iv_m148 (pc : Nat) : iv_ck 148 pc (am_f148 pc) = true := iv_of 148 (iv_d148 pc) (fun e => by unfold am_f148; rw [e]; rfl)
set_option maxRecDepth 100000 in
theorem iv_d149 : ∀ pc, pc < 60 → iv_cx (am_f149 pc) = true := by decide +kernel
theorem iv_m149 (pc : Nat) : iv_ck 149 pc (am_f149 pc) = true := iv_of 149 (iv_d149 pc) (fun e => by unfold am_f149; rw [e]; rfl)
set_option maxRecDepth 100000 in
theorem iv_d150 : ∀ pc, pc < 110 → iv_cx (am_f150 pc) = true := by decide +kernel
theorem iv_m150 (pc : Nat) : iv_ck 150 pc (am_f150 pc) = true := iv_of 150 (iv_d150 pc) (fun e => by unfold am_f150; rw [e]; rfl)
set_option maxRecDepth 100000 in
theorem iv_d151 : ∀ pc, pc < 28 → iv_cx (am_f151 pc) = true := by decide +kernel
theorem iv_m151 (pc : Nat) : iv_ck 151 pc (am_f151 pc) = true := iv_of 151 (iv_d151 pc) (fun e => by unfold am_f151; rw [e]; rfl)
set_option maxRecDepth 100000 in
theorem iv_d152 : ∀ pc, pc < 84 → iv_cx (am_f152 pc) = true := by decide +kernel
theorem iv_m152 (pc : Nat) : iv_ck 152 pc (am_f152 pc) = true := iv_of 152 (iv_d152 pc) (fun e => by unfold am_f152; rw [e]; rfl)
set_option maxRecDepth 100000 in
theorem iv_d153 : ∀ pc, pc < 22 → iv_cx (am_f153 pc) = true := by decide +kernel
theorem iv_m153 (pc : Nat) : iv_ck 153 pc (am_f153 pc) = true := iv_of 153 (iv_d153 pc) (fun e => by unfold am_f153; rw [e]; rfl)
set_option maxRecDepth 100000 in
theorem iv_d154 : ∀ pc, pc < 56 → iv_cx (am_f154 pc) = true := by decide +kernel
theorem iv_m154 (pc : Nat) : iv_ck 154 pc (am_f154 pc) = true := iv_of 154 (iv_d154 pc) (fun e => by unfold am_f154; rw [e]; rfl)
set_option maxRecDepth 100000 in
theorem iv_d155 : ∀ pc, pc < 88 → iv_cx (am_f155 pc) = true := by decide +kernel
theorem iv_m155 (pc : Nat) : iv_ck 155 pc (am_f155 pc) = true := iv_of 155 (iv_d155 pc) (fun e => by unfold am_f155; rw [e]; rfl)
set_option maxRecDepth 100000 in
theorem iv_d156 : ∀ pc, pc < 88 → iv_cx (am_f156 pc) = true := by decide +kernel
theorem iv_m156 (pc : Nat) : iv_ck 156 pc (am_f156 pc) = true := iv_of 156 (iv_d156 pc) (fun e => by unfold am_f156; rw [e]; rfl)
set_option maxRecDepth 100000 in
theorem iv_d157 : ∀ pc, pc < 96 → iv_cx (am_f157 pc) = true := by decide +kernel
theorem iv_m157 (pc : Nat) : iv_ck 157 pc (am_f157 pc) = true := iv_of 157 (iv_d157 pc) (fun e => by unfold am_f157; rw [e]; rfl)
set_option maxRecDepth 100000 in
theorem iv_d158 : ∀ pc, pc < 34 → iv_cx (am_f158 pc) = true := by decide +kernel
theorem iv_m158 (pc : Nat) : iv_ck 158 pc (am_f158 pc) = true := iv_of 158 (iv_d158 pc) (fun e => by unfold am_f158; rw [e]; rfl)
set_option maxRecDepth 100000 in
theorem iv_d159 : ∀ pc, pc < 34 → iv_cx (am_f159 pc) = true := by decide +kernel
theorem iv_m159 (pc : Nat) : iv_ck 159 pc (am_f159 pc) = true := iv_of 159 (iv_d159 pc) (fun e => by unfold am_f159; rw [e]; rfl)
set_option maxRecDepth 100000 in
theorem iv_d160 : ∀ pc, pc < 113 → iv_cx (am_f160 pc) = true := by decide +kernel
theorem iv_m160 (pc : Nat) : iv_ck 160 pc (am_f160 pc) = true := iv_of 160 (iv_d160 pc) (fun e => by unfold am_f160; rw [e]; rfl)
set_option maxRecDepth 100000 in
theorem iv_d161 : ∀ pc, pc < 58 → iv_cx (am_f161 pc) = true := by decide +kernel
theorem iv_m161 (pc : Nat) : iv_ck 161 pc (am_f161 pc) = true := iv_of 161 (iv_d161 pc) (fun e => by unfold am_f161; rw [e]; rfl)
set_option maxRecDepth 100000 in
theorem iv_d162 : ∀ pc, pc < 58 → iv_cx (am_f162 pc) = true := by decide +kernel
theorem iv_m162 (pc : Nat) : iv_ck 162 pc (am_f162 pc) = true := iv_of 162 (iv_d162 pc) (fun e => by unfold am_f162; rw [e]; rfl)
set_option maxRecDepth 100000 in
theorem iv_d163 : ∀ pc, pc < 95 → iv_cx (am_f163 pc) = true := by decide +kernel
theorem iv_m163 (pc : Nat) : iv_ck 163 pc (am_f163 pc) = true := iv_of 163 (iv_d163 pc) (fun e => by unfold am_f163; rw [e]; rfl)
set_option maxRecDepth 100000 in
theorem iv_d164 : ∀ pc, pc < 66 → iv_cx (am_f164 pc) = true := by decide +kernel
theorem iv_m164 (pc : Nat) : iv_ck 164 pc (am_f164 pc) = true := iv_of 164 (iv_d164 pc) (fun e => by unfold am_f164; rw [e]; rfl)
set_option maxRecDepth 100000 in
theorem iv_d165 : ∀ pc, pc < 32 → iv_cx (am_f165 pc) = true := by decide +kernel
theorem iv_m165 (pc : Nat) : iv_ck 165 pc (am_f165 pc) = true := iv_of 165 (iv_d165 pc) (fun e => by unfold am_f165; rw [e]; rfl)
set_option maxRecDepth 100000 in
theorem iv_d166 : ∀ pc, pc < 122 → iv_cx (am_f166 pc) = true := by decide +kernel
theorem iv_m166 (pc : Nat) : iv_ck 166 pc (am_f166 pc) = true := iv_of 166 (iv_d166 pc) (fun e => by unfold am_f166; rw [e]; rfl)
set_option maxRecDepth 100000 in
theorem iv_d167 : ∀ pc, pc < 193 → iv_cx (am_f167 pc) = true := by decide +kernel
theorem iv_m167 (pc : Nat) : iv_ck 167 pc (am_f167 pc) = true := iv_of 167 (iv_d167 pc) (fun e => by unfold am_f167; rw [e]; rfl)
set_option maxRecDepth 100000 in
theorem iv_d168 : ∀ pc, pc < 28 → iv_cx (am_f168 pc) = true := by decide +kernel
theorem iv_m168 (pc : Nat) : iv_ck 168 pc (am_f168 pc) = true := iv_of 168 (iv_d168 pc) (fun e => by unfold am_f168; rw [e]; rfl)
set_option maxRecDepth 100000 in
theorem iv_d169 : ∀ pc, pc < 10 → iv_cx (am_f169 pc) = true := by decide +kernel
theorem iv_m169 (pc : Nat) : iv_ck 169 pc (am_f169 pc) = true := iv_of 169 (iv_d169 pc) (fun e => by unfold am_f169; rw [e]; rfl)
set_option maxRecDepth 100000 in
theorem iv_d170 : ∀ pc, pc < 131 → iv_cx (am_f170 pc) = true := by decide +kernel
theorem iv_m170 (pc : Nat) : iv_ck 170 pc (am_f170 pc) = true := iv_of 170 (iv_d170 pc) (fun e => by unfold am_f170; rw [e]; rfl)
set_option maxRecDepth 100000 in
theorem iv_d171 : ∀ pc, pc < 45 → iv_cx (am_f171 pc) = true := by decide +kernel
theorem iv_m171 (pc : Nat) : iv_ck 171 pc (am_f171 pc) = true := iv_of 171 (iv_d171 pc) (fun e => by unfold am_f171; rw [e]; rfl)
set_option maxRecDepth 100000 in
theorem iv_d172 : ∀ pc, pc < 18 → iv_cx (am_f172 pc) = true := by decide +kernel
theorem iv_m172 (pc : Nat) : iv_ck 172 pc (am_f172 pc) = true := iv_of 172 (iv_d172 pc) (fun e => by unfold am_f172; rw [e]; rfl)
set_option maxRecDepth 100000 in
theorem iv_d173 : ∀ pc, pc < 36 → iv_cx (am_f173 pc) = true := by decide +kernel
theorem iv_m173 (pc : Nat) : iv_ck 173 pc (am_f173 pc) = true := iv_of 173 (iv_d173 pc) (fun e => by unfold am_f173; rw [e]; rfl)
set_option maxRecDepth 100000 in
theorem iv_d174 : ∀ pc, pc < 26 → iv_cx (am_f174 pc) = true := by decide +kernel
theorem iv_m174 (pc : Nat) : iv_ck 174 pc (am_f174 pc) = true := iv_of 174 (iv_d174 pc) (fun e => by unfold am_f174; rw [e]; rfl)
set_option maxRecDepth 100000 in
theorem iv_d175 : ∀ pc, pc < 52 → iv_cx (am_f175 pc) = true := by decide +kernel
theorem iv_m175 (pc : Nat) : iv_ck 175 pc (am_f175 pc) = true := iv_of 175 (iv_d175 pc) (fun e => by unfold am_f175; rw [e]; rfl)
set_option maxRecDepth 100000 in
theorem iv_d176 : ∀ pc, pc < 17 → iv_cx (am_f176 pc) = true := by decide +kernel
theorem iv_m176 (pc : Nat) : iv_ck 176 pc (am_f176 pc) = true := iv_of 176 (iv_d176 pc) (fun e => by unfold am_f176; rw [e]; rfl)
set_option maxRecDepth 100000 in
theorem iv_d177 : ∀ pc, pc < 15 → iv_cx (am_f177 pc) = true := by decide +kernel
theorem iv_m177 (pc : Nat) : iv_ck 177 pc (am_f177 pc) = true := iv_of 177 (iv_d177 pc) (fun e => by unfold am_f177; rw [e]; rfl)
set_option maxRecDepth 100000 in
theorem iv_d178 : ∀ pc, pc < 56 → iv_cx (am_f178 pc) = true := by decide +kernel
theorem iv_m178 (pc : Nat) : iv_ck 178 pc (am_f178 pc) = true := iv_of 178 (iv_d178 pc) (fun e => by unfold am_f178; rw [e]; rfl)
set_option maxRecDepth 100000 in
theorem iv_d179 : ∀ pc, pc < 55 → iv_cx (am_f179 pc) = true := by decide +kernel
theorem iv_m179 (pc : Nat) : iv_ck 179 pc (am_f179 pc) = true := iv_of 179 (iv_d179 pc) (fun e => by unfold am_f179; rw [e]; rfl)
