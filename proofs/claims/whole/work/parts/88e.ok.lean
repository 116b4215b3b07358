/-! the check of methods 201 .. 267 (decided) -/
set_option maxRecDepth 100000 in
theorem am_okm201 : ∀ pc, pc < 85 → am_okx 201 pc (am_f201 pc) = true := by decide +kernel
set_option maxRecDepth 100000 in
theorem am_okm202 : ∀ pc, pc < 54 → am_okx 202 pc (am_f202 pc) = true := by decide +kernel
set_option maxRecDepth 100000 in
theorem am_okm203 : ∀ pc, pc < 7 → am_okx 203 pc (am_f203 pc) = true := by decide +kernel
set_option maxRecDepth 100000 in
theorem am_okm204 : ∀ pc, pc < 12 → am_okx 204 pc (am_f204 pc) = true := by decide +kernel
set_option maxRecDepth 100000 in
theorem am_okm205 : ∀ pc, pc < 54 → am_okx 205 pc (am_f205 pc) = true := by decide +kernel
set_option maxRecDepth 100000 in
theorem am_okm206 : ∀ pc, pc < 50 → am_okx 206 pc (am_f206 pc) = true := by decide +kernel
set_option maxRecDepth 100000 in
theorem am_okm207 : ∀ pc, pc < 68 → am_okx 207 pc (am_f207 pc) = true := by decide +kernel
set_option maxRecDepth 100000 in
theorem am_okm208 : ∀ pc, pc < 42 → am_okx 208 pc (am_f208 pc) = true := by decide +kernel
set_option maxRecDepth 100000 in
theorem am_okm209 : ∀ pc, pc < 10 → am_okx 209 pc (am_f209 pc) = true := by decide +kernel
set_option maxRecDepth 100000 in
theorem am_okm210 : ∀ pc, pc < 25 → am_okx 210 pc (am_f210 pc) = true := by decide +kernel
set_option maxRecDepth 100000 in
theorem am_okm211 : ∀ pc, pc < 49 → am_okx 211 pc (am_f211 pc) = true := by decide +kernel
set_option maxRecDepth 100000 in
theorem am_okm212 : ∀ pc, pc < 29 → am_okx 212 pc (am_f212 pc) = true := by decide +kernel
set_option maxRecDepth 100000 in
theorem am_okm213 : ∀ pc, pc < 44 → am_okx 213 pc (am_f213 pc) = true := by decide +kernel
set_option maxRecDepth 100000 in
theorem am_okm214 : ∀ pc, pc < 114 → am_okx 214 pc (am_f214 pc) = true := by decide +kernel
set_option maxRecDepth 100000 in
theorem am_okm215 : ∀ pc, pc < 117 → am_okx 215 pc (am_f215 pc) = true := by decide +kernel
set_option maxRecDepth 100000 in
theorem am_okm216 : ∀ pc, pc < 80 → am_okx 216 pc (am_f216 pc) = true := by decide +kernel
set_option maxRecDepth 100000 in
theorem am_okm217 : ∀ pc, pc < 27 → am_okx 217 pc (am_f217 pc) = true := by decide +kernel
set_option maxRecDepth 100000 in
theorem am_okm218 : ∀ pc, pc < 55 → am_okx 218 pc (am_f218 pc) = true := by decide +kernel
set_option maxRecDepth 100000 in
theorem am_okm219 : ∀ pc, pc < 68 → am_okx 219 pc (am_f219 pc) = true := by decide +kernel
set_option maxRecDepth 100000 in
theorem am_okm220 : ∀ pc, pc < 76 → am_okx 220 pc (am_f220 pc) = true := by decide +kernel
set_option maxRecDepth 100000 in
theorem am_okm221 : ∀ pc, pc < 83 → am_okx 221 pc (am_f221 pc) = true := by decide +kernel
set_option maxRecDepth 100000 in
theorem am_okm222 : ∀ pc, pc < 98 → am_okx 222 pc (am_f222 pc) = true := by decide +kernel
set_option maxRecDepth 100000 in
theorem am_okm223 : ∀ pc, pc < 60 → am_okx 223 pc (am_f223 pc) = true := by decide +kernel
set_option maxRecDepth 100000 in
theorem am_okm224 : ∀ pc, pc < 88 → am_okx 224 pc (am_f224 pc) = true := by decide +kernel
set_option maxRecDepth 100000 in
theorem am_okm225 : ∀ pc, pc < 116 → am_okx 225 pc (am_f225 pc) = true := by decide +kernel
set_option maxRecDepth 100000 in
theorem am_okm226 : ∀ pc, pc < 53 → am_okx 226 pc (am_f226 pc) = true := by decide +kernel
set_option maxRecDepth 100000 in
theorem am_okm227 : ∀ pc, pc < 39 → am_okx 227 pc (am_f227 pc) = true := by decide +kernel
set_option maxRecDepth 100000 in
theorem am_okm228 : ∀ pc, pc < 53 → am_okx 228 pc (am_f228 pc) = true := by decide +kernel
set_option maxRecDepth 100000 in
theorem am_okm229 : ∀ pc, pc < 47 → am_okx 229 pc (am_f229 pc) = true := by decide +kernel
set_option maxRecDepth 100000 in
theorem am_okm230 : ∀ pc, pc < 104 → am_okx 230 pc (am_f230 pc) = true := by decide +kernel
set_option maxRecDepth 100000 in
theorem am_okm231 : ∀ pc, pc < 106 → am_okx 231 pc (am_f231 pc) = true := by decide +kernel
set_option maxRecDepth 100000 in
theorem am_okm232 : ∀ pc, pc < 33 → am_okx 232 pc (am_f232 pc) = true := by decide +kernel
set_option maxRecDepth 100000 in
theorem am_okm233 : ∀ pc, pc < 41 → am_okx 233 pc (am_f233 pc) = true := by decide +kernel
set_option maxRecDepth 100000 in
theorem am_okm234 : ∀ pc, pc < 16 → am_okx 234 pc (am_f234 pc) = true := by decide +kernel
set_option maxRecDepth 100000 in
theorem am_okm235 : ∀ pc, pc < 48 → am_okx 235 pc (am_f235 pc) = true := by decide +kernel
set_option maxRecDepth 100000 in
theorem am_okm236 : ∀ pc, pc < 99 → am_okx 236 pc (am_f236 pc) = true := by decide +kernel
set_option maxRecDepth 100000 in
theorem am_okm237 : ∀ pc, pc < 36 → am_okx 237 pc (am_f237 pc) = true := by decide +kernel
set_option maxRecDepth 100000 in
theorem am_okm238 : ∀ pc, pc < 18 → am_okx 238 pc (am_f238 pc) = true := by decide +kernel
set_option maxRecDepth 100000 in
theorem am_okm239 : ∀ pc, pc < 83 → am_okx 239 pc (am_f239 pc) = true := by decide +kernel
set_option maxRecDepth 100000 in
theorem am_okm240 : ∀ pc, pc < 93 → am_okx 240 pc (am_f240 pc) = true := by decide +kernel
set_option maxRecDepth 100000 in
theorem am_okm241 : ∀ pc, pc < 108 → am_okx 241 pc (am_f241 pc) = true := by decide +kernel
set_option maxRecDepth 100000 in
theorem am_okm242 : ∀ pc, pc < 43 → am_okx 242 pc (am_f242 pc) = true := by decide +kernel
set_option maxRecDepth 100000 in
theorem am_okm243 : ∀ pc, pc < 100 → am_okx 243 pc (am_f243 pc) = true := by decide +kernel
set_option maxRecDepth 100000 in
theorem am_okm244 : ∀ pc, pc < 67 → am_okx 244 pc (am_f244 pc) = true := by decide +kernel
set_option maxRecDepth 100000 in
theorem am_okm245 : ∀ pc, pc < 41 → am_okx 245 pc (am_f245 pc) = true := by decide +kernel
set_option maxRecDepth 100000 in
theorem am_okm246 : ∀ pc, pc < 53 → am_okx 246 pc (am_f246 pc) = true := by decide +kernel
set_option maxRecDepth 100000 in
theorem am_okm247 : ∀ pc, pc < 58 → am_okx 247 pc (am_f247 pc) = true := by decide +kernel
set_option maxRecDepth 100000 in
theorem am_okm248 : ∀ pc, pc < 94 → am_okx 248 pc (am_f248 pc) = true := by decide +kernel
set_option maxRecDepth 100000 in
theorem am_okm249 : ∀ pc, pc < 90 → am_okx 249 pc (am_f249 pc) = true := by decide +kernel
set_option maxRecDepth 100000 in
theorem am_okm250 : ∀ pc, pc < 74 → am_okx 250 pc (am_f250 pc) = true := by decide +kernel
set_option maxRecDepth 100000 in
theorem am_okm251 : ∀ pc, pc < 132 → am_okx 251 pc (am_f251 pc) = true := by decide +kernel
set_option maxRecDepth 100000 in
theorem am_okm252 : ∀ pc, pc < 115 → am_okx 252 pc (am_f252 pc) = true := by decide +kernel
set_option maxRecDepth 100000 in
theorem am_okm253 : ∀ pc, pc < 173 → am_okx 253 pc (am_f253 pc) = true := by decide +kernel
set_option maxRecDepth 100000 in
theorem am_okm254 : ∀ pc, pc < 89 → am_okx 254 pc (am_f254 pc) = true := by decide +kernel
set_option maxRecDepth 100000 in
theorem am_okm255 : ∀ pc, pc < 11 → am_okx 255 pc (am_f255 pc) = true := by decide +kernel
set_option maxRecDepth 100000 in
theorem am_okm256 : ∀ pc, pc < 196 → am_okx 256 pc (am_f256 pc) = true := by decide +kernel
set_option maxRecDepth 100000 in
theorem am_okm257 : ∀ pc, pc < 103 → am_okx 257 pc (am_f257 pc) = true := by decide +kernel
set_option maxRecDepth 100000 in
theorem am_okm258 : ∀ pc, pc < 25 → am_okx 258 pc (am_f258 pc) = true := by decide +kernel
set_option maxRecDepth 100000 in
theorem am_okm259 : ∀ pc, pc < 127 → am_okx 259 pc (am_f259 pc) = true := by decide +kernel
set_option maxRecDepth 100000 in
theorem am_okm260 : ∀ pc, pc < 104 → am_okx 260 pc (am_f260 pc) = true := by decide +kernel
set_option maxRecDepth 100000 in
theorem am_okm261 : ∀ pc, pc < 30 → am_okx 261 pc (am_f261 pc) = true := by decide +kernel
set_option maxRecDepth 100000 in
theorem am_okm262 : ∀ pc, pc < 106 → am_okx 262 pc (am_f262 pc) = true := by decide +kernel
set_option maxRecDepth 100000 in
theorem am_okm263 : ∀ pc, pc < 21 → am_okx 263 pc (am_f263 pc) = true := by decide +kernel
set_option maxRecDepth 100000 in
theorem am_okm264 : ∀ pc, pc < 111 → am_okx 264 pc (am_f264 pc) = true := by decide +kernel
set_option maxRecDepth 100000 in
theorem am_okm265 : ∀ pc, pc < 17 → am_okx 265 pc (am_f265 pc) = true := by decide +kernel
set_option maxRecDepth 100000 in
theorem am_okm266 : ∀ pc, pc < 17 → am_okx 266 pc (am_f266 pc) = true := by decide +kernel
set_option maxRecDepth 100000 in
theorem am_okm267 : ∀ pc, pc < 19 → am_okx 267 pc (am_f267 pc) = true := by decide +kernel
