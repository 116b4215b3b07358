/-! the check of methods 134 .. 200 (decided) -/
set_option maxRecDepth 100000 in
theorem am_okm134 : ∀ pc, pc < 153 → am_okx 134 pc (am_f134 pc) = true := by decide +kernel
set_option maxRecDepth 100000 in
theorem am_okm135 : ∀ pc, pc < 33 → am_okx 135 pc (am_f135 pc) = true := by decide +kernel
set_option maxRecDepth 100000 in
theorem am_okm136 : ∀ pc, pc < 58 → am_okx 136 pc (am_f136 pc) = true := by decide +kernel
set_option maxRecDepth 100000 in
theorem am_okm137 : ∀ pc, pc < 167 → am_okx 137 pc (am_f137 pc) = true := by decide +kernel
set_option maxRecDepth 100000 in
theorem am_okm138 : ∀ pc, pc < 37 → am_okx 138 pc (am_f138 pc) = true := by decide +kernel
set_option maxRecDepth 100000 in
theorem am_okm139 : ∀ pc, pc < 73 → am_okx 139 pc (am_f139 pc) = true := by decide +kernel
set_option maxRecDepth 100000 in
theorem am_okm140 : ∀ pc, pc < 396 → am_okx 140 pc (am_f140 pc) = true := by decide +kernel
set_option maxRecDepth 100000 in
theorem am_okm141 : ∀ pc, pc < 5 → am_okx 141 pc (am_f141 pc) = true := by decide +kernel
set_option maxRecDepth 100000 in
theorem am_okm142 : ∀ pc, pc < 125 → am_okx 142 pc (am_f142 pc) = true := by decide +kernel
set_option maxRecDepth 100000 in
theorem am_okm143 : ∀ pc, pc < 135 → am_okx 143 pc (am_f143 pc) = true := by decide +kernel
set_option maxRecDepth 100000 in
theorem am_okm144 : ∀ pc, pc < 7 → am_okx 144 pc (am_f144 pc) = true := by decide +kernel
set_option maxRecDepth 100000 in
theorem am_okm145 : ∀ pc, pc < 221 → am_okx 145 pc (am_f145 pc) = true := by decide +kernel
set_option maxRecDepth 100000 in
theorem am_okm146 : ∀ pc, pc < 19 → am_okx 146 pc (am_f146 pc) = true := by decide +kernel
set_option maxRecDepth 100000 in
theorem am_okm147 : ∀ pc, pc < 18 → am_okx 147 pc (am_f147 pc) = true := by decide +kernel
set_option maxRecDepth 100000 in
theorem am_okm148 : ∀ pc, pc < 18 → am_okx 148 pc (am_f148 pc) = true := by decide +kernel
set_option maxRecDepth 100000 in
theorem am_okm149 : ∀ pc, pc < 60 → am_okx 149 pc (am_f149 pc) = true := by decide +kernel
set_option maxRecDepth 100000 in
theorem am_okm150 : ∀ pc, pc < 110 → am_okx 150 pc (am_f150 pc) = true := by decide +kernel
set_option maxRecDepth 100000 in
theorem am_okm151 : ∀ pc, pc < 28 → am_okx 151 pc (am_f151 pc) = true := by decide +kernel
set_option maxRecDepth 100000 in
theorem am_okm152 : ∀ pc, pc < 84 → am_okx 152 pc (am_f152 pc) = true := by decide +kernel
set_option maxRecDepth 100000 in
theorem am_okm153 : ∀ pc, pc < 22 → am_okx 153 pc (am_f153 pc) = true := by decide +kernel
set_option maxRecDepth 100000 in
theorem am_okm154 : ∀ pc, pc < 56 → am_okx 154 pc (am_f154 pc) = true := by decide +kernel
set_option maxRecDepth 100000 in
theorem am_okm155 : ∀ pc, pc < 88 → am_okx 155 pc (am_f155 pc) = true := by decide +kernel
set_option maxRecDepth 100000 in
theorem am_okm156 : ∀ pc, pc < 88 → am_okx 156 pc (am_f156 pc) = true := by decide +kernel
set_option maxRecDepth 100000 in
theorem am_okm157 : ∀ pc, pc < 96 → am_okx 157 pc (am_f157 pc) = true := by decide +kernel
set_option maxRecDepth 100000 in
theorem am_okm158 : ∀ pc, pc < 34 → am_okx 158 pc (am_f158 pc) = true := by decide +kernel
set_option maxRecDepth 100000 in
theorem am_okm159 : ∀ pc, pc < 34 → am_okx 159 pc (am_f159 pc) = true := by decide +kernel
set_option maxRecDepth 100000 in
theorem am_okm160 : ∀ pc, pc < 113 → am_okx 160 pc (am_f160 pc) = true := by decide +kernel
set_option maxRecDepth 100000 in
theorem am_okm161 : ∀ pc, pc < 58 → am_okx 161 pc (am_f161 pc) = true := by decide +kernel
set_option maxRecDepth 100000 in
theorem am_okm162 : ∀ pc, pc < 58 → am_okx 162 pc (am_f162 pc) = true := by decide +kernel
set_option maxRecDepth 100000 in
theorem am_okm163 : ∀ pc, pc < 95 → am_okx 163 pc (am_f163 pc) = true := by decide +kernel
set_option maxRecDepth 100000 in
theorem am_okm164 : ∀ pc, pc < 66 → am_okx 164 pc (am_f164 pc) = true := by decide +kernel
set_option maxRecDepth 100000 in
theorem am_okm165 : ∀ pc, pc < 32 → am_okx 165 pc (am_f165 pc) = true := by decide +kernel
set_option maxRecDepth 100000 in
theorem am_okm166 : ∀ pc, pc < 122 → am_okx 166 pc (am_f166 pc) = true := by decide +kernel
set_option maxRecDepth 100000 in
theorem am_okm167 : ∀ pc, pc < 193 → am_okx 167 pc (am_f167 pc) = true := by decide +kernel
set_option maxRecDepth 100000 in
theorem am_okm168 : ∀ pc, pc < 28 → am_okx 168 pc (am_f168 pc) = true := by decide +kernel
set_option maxRecDepth 100000 in
theorem am_okm169 : ∀ pc, pc < 10 → am_okx 169 pc (am_f169 pc) = true := by decide +kernel
set_option maxRecDepth 100000 in
theorem am_okm170 : ∀ pc, pc < 131 → am_okx 170 pc (am_f170 pc) = true := by decide +kernel
set_option maxRecDepth 100000 in
theorem am_okm171 : ∀ pc, pc < 45 → am_okx 171 pc (am_f171 pc) = true := by decide +kernel
set_option maxRecDepth 100000 in
theorem am_okm172 : ∀ pc, pc < 18 → am_okx 172 pc (am_f172 pc) = true := by decide +kernel
set_option maxRecDepth 100000 in
theorem am_okm173 : ∀ pc, pc < 36 → am_okx 173 pc (am_f173 pc) = true := by decide +kernel
set_option maxRecDepth 100000 in
theorem am_okm174 : ∀ pc, pc < 26 → am_okx 174 pc (am_f174 pc) = true := by decide +kernel
set_option maxRecDepth 100000 in
theorem am_okm175 : ∀ pc, pc < 52 → am_okx 175 pc (am_f175 pc) = true := by decide +kernel
set_option maxRecDepth 100000 in
theorem am_okm176 : ∀ pc, pc < 17 → am_okx 176 pc (am_f176 pc) = true := by decide +kernel
set_option maxRecDepth 100000 in
theorem am_okm177 : ∀ pc, pc < 15 → am_okx 177 pc (am_f177 pc) = true := by decide +kernel
set_option maxRecDepth 100000 in
theorem am_okm178 : ∀ pc, pc < 56 → am_okx 178 pc (am_f178 pc) = true := by decide +kernel
set_option maxRecDepth 100000 in
theorem am_okm179 : ∀ pc, pc < 55 → am_okx 179 pc (am_f179 pc) = true := by decide +kernel
set_option maxRecDepth 100000 in
theorem am_okm180 : ∀ pc, pc < 32 → am_okx 180 pc (am_f180 pc) = true := by decide +kernel
set_option maxRecDepth 100000 in
theorem am_okm181 : ∀ pc, pc < 19 → am_okx 181 pc (am_f181 pc) = true := by decide +kernel
set_option maxRecDepth 100000 in
theorem am_okm182 : ∀ pc, pc < 57 → am_okx 182 pc (am_f182 pc) = true := by decide +kernel
set_option maxRecDepth 100000 in
theorem am_okm183 : ∀ pc, pc < 22 → am_okx 183 pc (am_f183 pc) = true := by decide +kernel
set_option maxRecDepth 100000 in
theorem am_okm184 : ∀ pc, pc < 31 → am_okx 184 pc (am_f184 pc) = true := by decide +kernel
set_option maxRecDepth 100000 in
theorem am_okm185 : ∀ pc, pc < 124 → am_okx 185 pc (am_f185 pc) = true := by decide +kernel
set_option maxRecDepth 100000 in
theorem am_okm186 : ∀ pc, pc < 16 → am_okx 186 pc (am_f186 pc) = true := by decide +kernel
set_option maxRecDepth 100000 in
theorem am_okm187 : ∀ pc, pc < 28 → am_okx 187 pc (am_f187 pc) = true := by decide +kernel
set_option maxRecDepth 100000 in
theorem am_okm188 : ∀ pc, pc < 49 → am_okx 188 pc (am_f188 pc) = true := by decide +kernel
set_option maxRecDepth 100000 in
theorem am_okm189 : ∀ pc, pc < 12 → am_okx 189 pc (am_f189 pc) = true := by decide +kernel
set_option maxRecDepth 100000 in
theorem am_okm190 : ∀ pc, pc < 78 → am_okx 190 pc (am_f190 pc) = true := by decide +kernel
set_option maxRecDepth 100000 in
theorem am_okm191 : ∀ pc, pc < 114 → am_okx 191 pc (am_f191 pc) = true := by decide +kernel
set_option maxRecDepth 100000 in
theorem am_okm192 : ∀ pc, pc < 18 → am_okx 192 pc (am_f192 pc) = true := by decide +kernel
set_option maxRecDepth 100000 in
theorem am_okm193 : ∀ pc, pc < 233 → am_okx 193 pc (am_f193 pc) = true := by decide +kernel
set_option maxRecDepth 100000 in
theorem am_okm194 : ∀ pc, pc < 52 → am_okx 194 pc (am_f194 pc) = true := by decide +kernel
set_option maxRecDepth 100000 in
theorem am_okm195 : ∀ pc, pc < 57 → am_okx 195 pc (am_f195 pc) = true := by decide +kernel
set_option maxRecDepth 100000 in
theorem am_okm196 : ∀ pc, pc < 132 → am_okx 196 pc (am_f196 pc) = true := by decide +kernel
set_option maxRecDepth 100000 in
theorem am_okm197 : ∀ pc, pc < 118 → am_okx 197 pc (am_f197 pc) = true := by decide +kernel
set_option maxRecDepth 100000 in
theorem am_okm198 : ∀ pc, pc < 100 → am_okx 198 pc (am_f198 pc) = true := by decide +kernel
set_option maxRecDepth 100000 in
theorem am_okm199 : ∀ pc, pc < 23 → am_okx 199 pc (am_f199 pc) = true := by decide +kernel
set_option maxRecDepth 100000 in
theorem am_okm200 : ∀ pc, pc < 12 → am_okx 200 pc (am_f200 pc) = true := by decide +kernel
