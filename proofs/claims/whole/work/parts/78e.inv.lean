/-! what no call changes: the check, on -/
set_option maxRecDepth 100000 in
theorem iv_d240 : ∀ pc, pc < 93 → iv_cx (am_f240 pc) = true := by decide +kernel
theorem iv_m240 (pc : Nat) : iv_ck 240 pc (am_f240 pc) = true := iv_of 240 (iv_d240 pc) (fun e => by unfold am_f240; rw [e]; rfl)
set_option maxRecDepth 100000 in
theorem iv_d241 : ∀ pc, pc < 108 → iv_cx (am_f241 pc) = true := by decide +kernel
theorem iv_m241 (pc : Nat) : iv_ck 241 pc (am_f241 pc) = true := iv_of 241 (iv_d241 pc) (fun e => by unfold am_f241; rw [e]; rfl)
set_option maxRecDepth 100000 in
theorem iv_d242 : ∀ pc, pc < 43 → iv_cx (am_f242 pc) = true := by decide +kernel
theorem iv_m242 (pc : Nat) : iv_ck 242 pc (am_f242 pc) = true := iv_of 242 (iv_d242 pc) (fun e => by unfold am_f242; rw [e]; rfl)
set_option maxRecDepth 100000 in
theorem iv_d243 : ∀ pc, pc < 100 → iv_cx (am_f243 pc) = true := by decide +kernel
theorem iv_m243 (pc : Nat) : iv_ck 243 pc (am_f243 pc) = true := iv_of 243 (iv_d243 pc) (fun e => by unfold am_f243; rw [e]; rfl)
set_option maxRecDepth 100000 in
theorem iv_d244 : ∀ pc, pc < 67 → iv_cx (am_f244 pc) = true := by decide +kernel
theorem iv_m244 (pc : Nat) : iv_ck 244 pc (am_f244 pc) = true := iv_of 244 (iv_d244 pc) (fun e => by unfold am_f244; rw [e]; rfl)
set_option maxRecDepth 100000 in
theorem iv_d245 : ∀ pc, pc < 41 → iv_cx (am_f245 pc) = true := by decide +kernel
theorem iv_m245 (pc : Nat) : iv_ck 245 pc (am_f245 pc) = true := iv_of 245 (iv_d245 pc) (fun e => by unfold am_f245; rw [e]; rfl)
set_option maxRecDepth 100000 in
theorem iv_d246 : ∀ pc, pc < 53 → iv_cx (am_f246 pc) = true := by decide +kernel
theorem iv_m246 (pc : Nat) : iv_ck 246 pc (am_f246 pc) = true := iv_of 246 (iv_d246 pc) (fun e => by unfold am_f246; rw [e]; rfl)
set_option maxRecDepth 100000 in
theorem iv_d247 : ∀ pc, pc < 58 → iv_cx (am_f247 pc) = true := by decide +kernel
theorem iv_m247 (pc : Nat) : iv_ck 247 pc (am_f247 pc) = true := iv_of 247 (iv_d247 pc) (fun e => by unfold am_f247; rw [e]; rfl)
set_option maxRecDepth 100000 in
theorem iv_d248 : ∀ pc, pc < 94 → iv_cx (am_f248 pc) = true := by decide +kernel
theorem iv_m248 (pc : Nat) : iv_ck 248 pc (am_f248 pc) = true := iv_of 248 (iv_d248 pc) (fun e => by unfold am_f248; rw [e]; rfl)
set_option maxRecDepth 100000 in
theorem iv_d249 : ∀ pc, pc < 90 → iv_cx (am_f249 pc) = true := by decide +kernel
theorem iv_m249 (pc : Nat) : iv_ck 249 pc (am_f249 pc) = true := iv_of 249 (iv_d249 pc) (fun e => by unfold am_f249; rw [e]; rfl)
set_option maxRecDepth 100000 in
theorem iv_d250 : ∀ pc, pc < 74 → iv_cx (am_f250 pc) = true := by decide +kernel
theorem iv_m250 (pc : Nat) : iv_ck 250 pc (am_f250 pc) = true := iv_of 250 (iv_d250 pc) (fun e => by unfold am_f250; rw [e]; rfl)
set_option maxRecDepth 100000 in
theorem iv_d251 : ∀ pc, pc < 132 → iv_cx (am_f251 pc) = true := by decide +kernel
theorem iv_m251 (pc : Nat) : iv_ck 251 pc (am_f251 pc) = true := iv_of 251 (iv_d251 pc) (fun e => by unfold am_f251; rw [e]; rfl)
set_option maxRecDepth 100000 in
theorem iv_d252 : ∀ pc, pc < 115 → iv_cx (am_f252 pc) = true := by decide +kernel
theorem iv_m252 (pc : Nat) : iv_ck 252 pc (am_f252 pc) = true := iv_of 252 (iv_d252 pc) (fun e => by unfold am_f252; rw [e]; rfl)
set_option maxRecDepth 100000 in
theorem iv_d253 : ∀ pc, pc < 173 → iv_cx (am_f253 pc) = true := by decide +kernel
theorem iv_m253 (pc : Nat) : iv_ck 253 pc (am_f253 pc) = true := iv_of 253 (iv_d253 pc) (fun e => by unfold am_f253; rw [e]; rfl)
set_option maxRecDepth 100000 in
theorem iv_d254 : ∀ pc, pc < 89 → iv_cx (am_f254 pc) = true := by decide +kernel
theorem iv_m254 (pc : Nat) : iv_ck 254 pc (am_f254 pc) = true := iv_of 254 (iv_d254 pc) (fun e => by unfold am_f254; rw [e]; rfl)
set_option maxRecDepth 100000 in
theorem iv_d255 : ∀ pc, pc < 11 → iv_cx (am_f255 pc) = true := by decide +kernel
theorem iv_m255 (pc : Nat) : iv_ck 255 pc (am_f255 pc) = true := iv_of 255 (iv_d255 pc) (fun e => by unfold am_f255; rw [e]; rfl)
set_option maxRecDepth 100000 in
theorem iv_d256 : ∀ pc, pc < 196 → iv_cx (am_f256 pc) = true := by decide +kernel
theorem iv_m256 (pc : Nat) : iv_ck 256 pc (am_f256 pc) = true := iv_of 256 (iv_d256 pc) (fun e => by unfold am_f256; rw [e]; rfl)
set_option maxRecDepth 100000 in
theorem iv_d257 : ∀ pc, pc < 103 → iv_cx (am_f257 pc) = true := by decide +kernel
theorem iv_m257 (pc : Nat) : iv_ck 257 pc (am_f257 pc) = true := iv_of 257 (iv_d257 pc) (fun e => by unfold am_f257; rw [e]; rfl)
set_option maxRecDepth 100000 in
theorem iv_d258 : ∀ pc, pc < 25 → iv_cx (am_f258 pc) = true := by decide +kernel
theorem iv_m258 (pc : Nat) : iv_ck 258 pc (am_f258 pc) = true := iv_of 258 (iv_d258 pc) (fun e => by unfold am_f258; rw [e]; rfl)
set_option maxRecDepth 100000 in
theorem iv_d259 : ∀ pc, pc < 127 → iv_cx (am_f259 pc) = true := by decide +kernel
theorem iv_m259 (pc : Nat) : iv_ck 259 pc (am_f259 pc) = true := iv_of 259 (iv_d259 pc) (fun e => by unfold am_f259; rw [e]; rfl)
set_option maxRecDepth 100000 in
theorem iv_d260 : ∀ pc, pc < 104 → iv_cx (am_f260 pc) = true := by decide +kernel
theorem iv_m260 (pc : Nat) : iv_ck 260 pc (am_f260 pc) = true := iv_of 260 (iv_d260 pc) (fun e => by unfold am_f260; rw [e]; rfl)
set_option maxRecDepth 100000 in
theorem iv_d261 : ∀ pc, pc < 30 → iv_cx (am_f261 pc) = true := by decide +kernel
theorem iv_m261 (pc : Nat) : iv_ck 261 pc (am_f261 pc) = true := iv_of 261 (iv_d261 pc) (fun e => by unfold am_f261; rw [e]; rfl)
set_option maxRecDepth 100000 in
theorem iv_d262 : ∀ pc, pc < 106 → iv_cx (am_f262 pc) = true := by decide +kernel
theorem iv_m262 (pc : Nat) : iv_ck 262 pc (am_f262 pc) = true := iv_of 262 (iv_d262 pc) (fun e => by unfold am_f262; rw [e]; rfl)
set_option maxRecDepth 100000 in
theorem iv_d263 : ∀ pc, pc < 21 → iv_cx (am_f263 pc) = true := by decide +kernel
theorem iv_m263 (pc : Nat) : iv_ck 263 pc (am_f263 pc) = true := iv_of 263 (iv_d263 pc) (fun e => by unfold am_f263; rw [e]; rfl)
set_option maxRecDepth 100000 in
theorem iv_d264 : ∀ pc, pc < 111 → iv_cx (am_f264 pc) = true := by decide +kernel
theorem iv_m264 (pc : Nat) : iv_ck 264 pc (am_f264 pc) = true := iv_of 264 (iv_d264 pc) (fun e => by unfold am_f264; rw [e]; rfl)
set_option maxRecDepth 100000 in
theorem iv_d265 : ∀ pc, pc < 17 → iv_cx (am_f265 pc) = true := by decide +kernel
theorem iv_m265 (pc : Nat) : iv_ck 265 pc (am_f265 pc) = true := iv_of 265 (iv_d265 pc) (fun e => by unfold am_f265; rw [e]; rfl)
set_option maxRecDepth 100000 in
theorem iv_d266 : ∀ pc, pc < 17 → iv_cx (am_f266 pc) = true := by decide +kernel
theorem iv_m266 (pc : Nat) : iv_ck 266 pc (am_f266 pc) = true := iv_of 266 (iv_d266 pc) (fun e => by unfold am_f266; rw [e]; rfl)
set_option maxRecDepth 100000 in
theorem iv_d267 : ∀ pc, pc < 19 → iv_cx (am_f267 pc) = true := by decide +kernel
theorem iv_m267 (pc : Nat) : iv_ck 267 pc (am_f267 pc) = true := iv_of 267 (iv_d267 pc) (fun e => by unfold am_f267; rw [e]; rfl)
set_option maxRecDepth 100000 in
theorem iv_d268 : ∀ pc, pc < 17 → iv_cx (am_f268 pc) = true := by decide +kernel
theorem iv_m268 (pc : Nat) : iv_ck 268 pc (am_f268 pc) = true := iv_of 268 (iv_d268 pc) (fun e => by unfold am_f268; rw [e]; rfl)
set_option maxRecDepth 100000 in
theorem iv_d269 : ∀ pc, pc < 24 → iv_cx (am_f269 pc) = true := by decide +kernel
theorem iv_m269 (pc : Nat) : iv_ck 269 pc (am_f269 pc) = true := iv_of 269 (iv_d269 pc) (fun e => by unfold am_f269; rw [e]; rfl)
set_option maxRecDepth 100000 in
theorem iv_d270 : ∀ pc, pc < 19 → iv_cx (am_f270 pc) = true := by decide +kernel
theorem iv_m270 (pc : Nat) : iv_ck 270 pc (am_f270 pc) = true := iv_of 270 (iv_d270 pc) (fun e => by unfold am_f270; rw [e]; rfl)
set_option maxRecDepth 100000 in
theorem iv_d271 : ∀ pc, pc < 19 → iv_cx (am_f271 pc) = true := by decide +kernel
theorem iv_m271 (pc : Nat) : iv_ck 271 pc (am_f271 pc) = true := iv_of 271 (iv_d271 pc) (fun e => by unfold am_f271; rw [e]; rfl)
set_option maxRecDepth 100000 in
theorem iv_d272 : ∀ pc, pc < 19 → iv_cx (am_f272 pc) = true := by decide +kernel
theorem iv_m272 (pc : Nat) : iv_ck 272 pc (am_f272 pc) = true := iv_of 272 (iv_d272 pc) (fun e => by unfold am_f272; rw [e]; rfl)
set_option maxRecDepth 100000 in
theorem iv_d273 : ∀ pc, pc < 26 → iv_cx (am_f273 pc) = true := by decide +kernel
theorem iv_m273 (pc : Nat) : iv_ck 273 pc (am_f273 pc) = true := iv_of 273 (iv_d273 pc) (fun e => by unfold am_f273; rw [e]; rfl)
set_option maxRecDepth 100000 in
theorem iv_d274 : ∀ pc, pc < 25 → iv_cx (am_f274 pc) = true := by decide +kernel
theorem iv_m274 (pc : Nat) : iv_ck 274 pc (am_f274 pc) = true := iv_of 274 (iv_d274 pc) (fun e => by unfold am_f274; rw [e]; rfl)
set_option maxRecDepth 100000 in
theorem iv_d275 : ∀ pc, pc < 23 → iv_cx (am_f275 pc) = true := by decide +kernel
theorem iv_m275 (pc : Nat) : iv_ck 275 pc (am_f275 pc) = true := iv_of 275 (iv_d275 pc) (fun e => by unfold am_f275; rw [e]; rfl)
set_option maxRecDepth 100000 in
theorem iv_d276 : ∀ pc, pc < 17 → iv_cx (am_f276 pc) = true := by decide +kernel
theorem iv_m276 (pc : Nat) : iv_ck 276 pc (am_f276 pc) = true := iv_of 276 (iv_d276 pc) (fun e => by unfold am_f276; rw [e]; rfl)
set_option maxRecDepth 100000 in
theorem iv_d277 : ∀ pc, pc < 17 → iv_cx (am_f277 pc) = true := by decide +kernel
theorem iv_m277 (pc : Nat) : iv_ck 277 pc (am_f277 pc) = true := iv_of 277 (iv_d277 pc) (fun e => by unfold am_f277; rw [e]; rfl)
set_option maxRecDepth 100000 in
theorem iv_d278 : ∀ pc, pc < 17 → iv_cx (am_f278 pc) = true := by decide +kernel
theorem iv_m278 (pc : Nat) : iv_ck 278 pc (am_f278 pc) = true := iv_of 278 (iv_d278 pc) (fun e => by unfold am_f278; rw [e]; rfl)
set_option maxRecDepth 100000 in
theorem iv_d279 : ∀ pc, pc < 19 → iv_cx (am_f279 pc) = true := by decide +kernel
theorem iv_m279 (pc : Nat) : iv_ck 279 pc (am_f279 pc) = true := iv_of 279 (iv_d279 pc) (fun e => by unfold am_f279; rw [e]; rfl)
set_option maxRecDepth 100000 in
theorem iv_d280 : ∀ pc, pc < 17 → iv_cx (am_f280 pc) = true := by decide +kernel
theorem iv_m280 (pc : Nat) : iv_ck 280 pc (am_f280 pc) = true := iv_of 280 (iv_d280 pc) (fun e => by unfold am_f280; rw [e]; rfl)
set_option maxRecDepth 100000 in
theorem iv_d281 : ∀ pc, pc < 17 → iv_cx (am_f281 pc) = true := by decide +kernel
theorem iv_m281 (pc : Nat) : iv_ck 281 pc (am_f281 pc) = true := iv_of 281 (iv_d281 pc) (fun e => by unfold am_f281; rw [e]; rfl)
set_option maxRecDepth 100000 in
theorem iv_d282 : ∀ pc, pc < 23 → iv_cx (am_f282 pc) = true := by decide +kernel
theorem iv_m282 (pc : Nat) : iv_ck 282 pc (am_f282 pc) = true := iv_of 282 (iv_d282 pc) (fun e => by unfold am_f282; rw [e]; rfl)
set_option maxRecDepth 100000 in
theorem iv_d283 : ∀ pc, pc < 19 → iv_cx (am_f283 pc) = true := by decide +kernel
theorem iv_m283 (pc : Nat) : iv_ck 283 pc (am_f283 pc) = true := iv_of 283 (iv_d283 pc) (fun e => by unfold am_f283; rw [e]; rfl)
set_option maxRecDepth 100000 in
theorem iv_d284 : ∀ pc, pc < 23 → iv_cx (am_f284 pc) = true := by decide +kernel
theorem iv_m284 (pc : Nat) : iv_ck 284 pc (am_f284 pc) = true := iv_of 284 (iv_d284 pc) (fun e => by unfold am_f284; rw [e]; rfl)
set_option maxRecDepth 100000 in
theorem iv_d285 : ∀ pc, pc < 17 → iv_cx (am_f285 pc) = true := by decide +kernel
theorem iv_m285 (pc : Nat) : iv_ck 285 pc (am_f285 pc) = true := iv_of 285 (iv_d285 pc) (fun e => by unfold am_f285; rw [e]; rfl)
set_option maxRecDepth 100000 in
theorem iv_d286 : ∀ pc, pc < 17 → iv_cx (am_f286 pc) = true := by decide +kernel
theorem iv_m286 (pc : Nat) : iv_ck 286 pc (am_f286 pc) = true := iv_of 286 (iv_d286 pc) (fun e => by unfold am_f286; rw [e]; rfl)
set_option maxRecDepth 100000 in
theorem iv_d287 : ∀ pc, pc < 17 → iv_cx (am_f287 pc) = true := by decide +kernel
theorem iv_m287 (pc : Nat) : iv_ck 287 pc (am_f287 pc) = true := iv_of 287 (iv_d287 pc) (fun e => by unfold am_f287; rw [e]; rfl)
set_option maxRecDepth 100000 in
theorem iv_d288 : ∀ pc, pc < 17 → iv_cx (am_f288 pc) = true := by decide +kernel
theorem iv_m288 (pc : Nat) : iv_ck 288 pc (am_f288 pc) = true := iv_of 288 (iv_d288 pc) (fun e => by unfold am_f288; rw [e]; rfl)
set_option maxRecDepth 100000 in
theorem iv_d289 : ∀ pc, pc < 23 → iv_cx (am_f289 pc) = true := by decide +kernel
theorem iv_m289 (pc : Nat) : iv_ck 289 pc (am_f289 pc) = true := iv_of 289 (iv_d289 pc) (fun e => by unfold am_f289; rw [e]; rfl)
set_option maxRecDepth 100000 in
theorem iv_d290 : ∀ pc, pc < 23 → iv_cx (am_f290 pc) = true := by decide +kernel
theorem iv_m290 (pc : Nat) : iv_ck 290 pc (am_f290 pc) = true := iv_of 290 (iv_d290 pc) (fun e => by unfold am_f290; rw [e]; rfl)
set_option maxRecDepth 100000 in
theorem iv_d291 : ∀ pc, pc < 17 → iv_cx (am_f291 pc) = true := by decide +kernel
theorem iv_m291 (pc : Nat) : iv_ck 291 pc (am_f291 pc) = true := iv_of 291 (iv_d291 pc) (fun e => by unfold am_f291; rw [e]; rfl)
set_option maxRecDepth 100000 in
theorem iv_d292 : ∀ pc, pc < 17 → iv_cx (am_f292 pc) = true := by decide +kernel
theorem iv_m292 (pc : Nat) : iv_ck 292 pc (am_f292 pc) = true := iv_of 292 (iv_d292 pc) (fun e => by unfold am_f292; rw [e]; rfl)
set_option maxRecDepth 100000 in
theorem iv_d293 : ∀ pc, pc < 23 → iv_cx (am_f293 pc) = true := by decide +kernel
theorem iv_m293 (pc : Nat) : iv_ck 293 pc (am_f293 pc) = true := iv_of 293 (iv_d293 pc) (fun e => by unfold am_f293; rw [e]; rfl)
set_option maxRecDepth 100000 in
theorem iv_d294 : ∀ pc, pc < 19 → iv_cx (am_f294 pc) = true := by decide +kernel
theorem iv_m294 (pc : Nat) : iv_ck 294 pc (am_f294 pc) = true := iv_of 294 (iv_d294 pc) (fun e => by unfold am_f294; rw [e]; rfl)
set_option maxRecDepth 100000 in
theorem iv_d295 : ∀ pc, pc < 21 → iv_cx (am_f295 pc) = true := by decide +kernel
theorem iv_m295 (pc : Nat) : iv_ck 295 pc (am_f295 pc) = true := iv_of 295 (iv_d295 pc) (fun e => by unfold am_f295; rw [e]; rfl)
set_option maxRecDepth 100000 in
theorem iv_d296 : ∀ pc, pc < 17 → iv_cx (am_f296 pc) = true := by decide +kernel
theorem iv_m296 (pc : Nat) : iv_ck 296 pc (am_f296 pc) = true := iv_of 296 (iv_d296 pc) (fun e => by unfold am_f296; rw [e]; rfl)
set_option maxRecDepth 100000 in
theorem iv_d297 : ∀ pc, pc < 17 → iv_cx (am_f297 pc) = true := by decide +kernel
theorem iv_m297 (pc : Nat) : iv_ck 297 pc (am_f297 pc) = true := iv_of 297 (iv_d297 pc) (fun e => by unfold am_f297; rw [e]; rfl)
set_option maxRecDepth 100000 in
theorem iv_d298 : ∀ pc, pc < 27 → iv_cx (am_f298 pc) = true := by decide +kernel
theorem iv_m298 (pc : Nat) : iv_ck 298 pc (am_f298 pc) = true := iv_of 298 (iv_d298 pc) (fun e => by unfold am_f298; rw [e]; rfl)
set_option maxRecDepth 100000 in
theorem iv_d299 : ∀ pc, pc < 25 → iv_cx (am_f299 pc) = true := by decide +kernel
theorem iv_m299 (pc : Nat) : iv_ck 299 pc (am_f299 pc) = true := iv_of 299 (iv_d299 pc) (fun e => by unfold am_f299; rw [e]; rfl)
