/-! the check of methods 268 .. 339 (decided) -/
set_option maxRecDepth 100000 in
theorem am_okm268 : ∀ pc, pc < 17 → am_okx 268 pc (am_f268 pc) = true := by decide +kernel
set_option maxRecDepth 100000 in
theorem am_okm269 : ∀ pc, pc < 24 → am_okx 269 pc (am_f269 pc) = true := by decide +kernel
set_option maxRecDepth 100000 in
theorem am_okm270 : ∀ pc, pc < 19 → am_okx 270 pc (am_f270 pc) = true := by decide +kernel
set_option maxRecDepth 100000 in
theorem am_okm271 : ∀ pc, pc < 19 → am_okx 271 pc (am_f271 pc) = true := by decide +kernel
set_option maxRecDepth 100000 in
theorem am_okm272 : ∀ pc, pc < 19 → am_okx 272 pc (am_f272 pc) = true := by decide +kernel
set_option maxRecDepth 100000 in
theorem am_okm273 : ∀ pc, pc < 26 → am_okx 273 pc (am_f273 pc) = true := by decide +kernel
set_option maxRecDepth 100000 in
theorem am_okm274 : ∀ pc, pc < 25 → am_okx 274 pc (am_f274 pc) = true := by decide +kernel
set_option maxRecDepth 100000 in
theorem am_okm275 : ∀ pc, pc < 23 → am_okx 275 pc (am_f275 pc) = true := by decide +kernel
set_option maxRecDepth 100000 in
theorem am_okm276 : ∀ pc, pc < 17 → am_okx 276 pc (am_f276 pc) = true := by decide +kernel
set_option maxRecDepth 100000 in
theorem am_okm277 : ∀ pc, pc < 17 → am_okx 277 pc (am_f277 pc) = true := by decide +kernel
set_option maxRecDepth 100000 in
theorem am_okm278 : ∀ pc, pc < 17 → am_okx 278 pc (am_f278 pc) = true := by decide +kernel
set_option maxRecDepth 100000 in
theorem am_okm279 : ∀ pc, pc < 19 → am_okx 279 pc (am_f279 pc) = true := by decide +kernel
set_option maxRecDepth 100000 in
theorem am_okm280 : ∀ pc, pc < 17 → am_okx 280 pc (am_f280 pc) = true := by decide +kernel
set_option maxRecDepth 100000 in
theorem am_okm281 : ∀ pc, pc < 17 → am_okx 281 pc (am_f281 pc) = true := by decide +kernel
set_option maxRecDepth 100000 in
theorem am_okm282 : ∀ pc, pc < 23 → am_okx 282 pc (am_f282 pc) = true := by decide +kernel
set_option maxRecDepth 100000 in
theorem am_okm283 : ∀ pc, pc < 19 → am_okx 283 pc (am_f283 pc) = true := by decide +kernel
set_option maxRecDepth 100000 in
theorem am_okm284 : ∀ pc, pc < 23 → am_okx 284 pc (am_f284 pc) = true := by decide +kernel
set_option maxRecDepth 100000 in
theorem am_okm285 : ∀ pc, pc < 17 → am_okx 285 pc (am_f285 pc) = true := by decide +kernel
set_option maxRecDepth 100000 in
theorem am_okm286 : ∀ pc, pc < 17 → am_okx 286 pc (am_f286 pc) = true := by decide +kernel
set_option maxRecDepth 100000 in
theorem am_okm287 : ∀ pc, pc < 17 → am_okx 287 pc (am_f287 pc) = true := by decide +kernel
set_option maxRecDepth 100000 in
theorem am_okm288 : ∀ pc, pc < 17 → am_okx 288 pc (am_f288 pc) = true := by decide +kernel
set_option maxRecDepth 100000 in
theorem am_okm289 : ∀ pc, pc < 23 → am_okx 289 pc (am_f289 pc) = true := by decide +kernel
set_option maxRecDepth 100000 in
theorem am_okm290 : ∀ pc, pc < 23 → am_okx 290 pc (am_f290 pc) = true := by decide +kernel
set_option maxRecDepth 100000 in
theorem am_okm291 : ∀ pc, pc < 17 → am_okx 291 pc (am_f291 pc) = true := by decide +kernel
set_option maxRecDepth 100000 in
theorem am_okm292 : ∀ pc, pc < 17 → am_okx 292 pc (am_f292 pc) = true := by decide +kernel
set_option maxRecDepth 100000 in
theorem am_okm293 : ∀ pc, pc < 23 → am_okx 293 pc (am_f293 pc) = true := by decide +kernel
set_option maxRecDepth 100000 in
theorem am_okm294 : ∀ pc, pc < 19 → am_okx 294 pc (am_f294 pc) = true := by decide +kernel
set_option maxRecDepth 100000 in
theorem am_okm295 : ∀ pc, pc < 21 → am_okx 295 pc (am_f295 pc) = true := by decide +kernel
set_option maxRecDepth 100000 in
theorem am_okm296 : ∀ pc, pc < 17 → am_okx 296 pc (am_f296 pc) = true := by decide +kernel
set_option maxRecDepth 100000 in
theorem am_okm297 : ∀ pc, pc < 17 → am_okx 297 pc (am_f297 pc) = true := by decide +kernel
set_option maxRecDepth 100000 in
theorem am_okm298 : ∀ pc, pc < 27 → am_okx 298 pc (am_f298 pc) = true := by decide +kernel
set_option maxRecDepth 100000 in
theorem am_okm299 : ∀ pc, pc < 25 → am_okx 299 pc (am_f299 pc) = true := by decide +kernel
set_option maxRecDepth 100000 in
theorem am_okm301 : ∀ pc, pc < 11 → am_okx 301 pc (am_f301 pc) = true := by decide +kernel
set_option maxRecDepth 100000 in
theorem am_okm302 : ∀ pc, pc < 20 → am_okx 302 pc (am_f302 pc) = true := by decide +kernel
set_option maxRecDepth 100000 in
theorem am_okm303 : ∀ pc, pc < 11 → am_okx 303 pc (am_f303 pc) = true := by decide +kernel
set_option maxRecDepth 100000 in
theorem am_okm304 : ∀ pc, pc < 20 → am_okx 304 pc (am_f304 pc) = true := by decide +kernel
set_option maxRecDepth 100000 in
theorem am_okm305 : ∀ pc, pc < 11 → am_okx 305 pc (am_f305 pc) = true := by decide +kernel
set_option maxRecDepth 100000 in
theorem am_okm306 : ∀ pc, pc < 80 → am_okx 306 pc (am_f306 pc) = true := by decide +kernel
set_option maxRecDepth 100000 in
theorem am_okm307 : ∀ pc, pc < 53 → am_okx 307 pc (am_f307 pc) = true := by decide +kernel
set_option maxRecDepth 100000 in
theorem am_okm308 : ∀ pc, pc < 61 → am_okx 308 pc (am_f308 pc) = true := by decide +kernel
set_option maxRecDepth 100000 in
theorem am_okm314 : ∀ pc, pc < 7 → am_okx 314 pc (am_f314 pc) = true := by decide +kernel
set_option maxRecDepth 100000 in
theorem am_okm315 : ∀ pc, pc < 37 → am_okx 315 pc (am_f315 pc) = true := by decide +kernel
set_option maxRecDepth 100000 in
theorem am_okm316 : ∀ pc, pc < 19 → am_okx 316 pc (am_f316 pc) = true := by decide +kernel
set_option maxRecDepth 100000 in
theorem am_okm317 : ∀ pc, pc < 11 → am_okx 317 pc (am_f317 pc) = true := by decide +kernel
set_option maxRecDepth 100000 in
theorem am_okm318 : ∀ pc, pc < 15 → am_okx 318 pc (am_f318 pc) = true := by decide +kernel
set_option maxRecDepth 100000 in
theorem am_okm319 : ∀ pc, pc < 37 → am_okx 319 pc (am_f319 pc) = true := by decide +kernel
set_option maxRecDepth 100000 in
theorem am_okm320 : ∀ pc, pc < 17 → am_okx 320 pc (am_f320 pc) = true := by decide +kernel
set_option maxRecDepth 100000 in
theorem am_okm321 : ∀ pc, pc < 33 → am_okx 321 pc (am_f321 pc) = true := by decide +kernel
set_option maxRecDepth 100000 in
theorem am_okm322 : ∀ pc, pc < 44 → am_okx 322 pc (am_f322 pc) = true := by decide +kernel
set_option maxRecDepth 100000 in
theorem am_okm323 : ∀ pc, pc < 14 → am_okx 323 pc (am_f323 pc) = true := by decide +kernel
set_option maxRecDepth 100000 in
theorem am_okm324 : ∀ pc, pc < 10 → am_okx 324 pc (am_f324 pc) = true := by decide +kernel
set_option maxRecDepth 100000 in
theorem am_okm325 : ∀ pc, pc < 5 → am_okx 325 pc (am_f325 pc) = true := by decide +kernel
set_option maxRecDepth 100000 in
theorem am_okm326 : ∀ pc, pc < 11 → am_okx 326 pc (am_f326 pc) = true := by decide +kernel
set_option maxRecDepth 100000 in
theorem am_okm327 : ∀ pc, pc < 24 → am_okx 327 pc (am_f327 pc) = true := by decide +kernel
set_option maxRecDepth 100000 in
theorem am_okm328 : ∀ pc, pc < 30 → am_okx 328 pc (am_f328 pc) = true := by decide +kernel
set_option maxRecDepth 100000 in
theorem am_okm329 : ∀ pc, pc < 60 → am_okx 329 pc (am_f329 pc) = true := by decide +kernel
set_option maxRecDepth 100000 in
theorem am_okm330 : ∀ pc, pc < 71 → am_okx 330 pc (am_f330 pc) = true := by decide +kernel
set_option maxRecDepth 100000 in
theorem am_okm331 : ∀ pc, pc < 17 → am_okx 331 pc (am_f331 pc) = true := by decide +kernel
set_option maxRecDepth 100000 in
theorem am_okm332 : ∀ pc, pc < 9 → am_okx 332 pc (am_f332 pc) = true := by decide +kernel
set_option maxRecDepth 100000 in
theorem am_okm333 : ∀ pc, pc < 10 → am_okx 333 pc (am_f333 pc) = true := by decide +kernel
set_option maxRecDepth 100000 in
theorem am_okm334 : ∀ pc, pc < 25 → am_okx 334 pc (am_f334 pc) = true := by decide +kernel
set_option maxRecDepth 100000 in
theorem am_okm335 : ∀ pc, pc < 15 → am_okx 335 pc (am_f335 pc) = true := by decide +kernel
set_option maxRecDepth 100000 in
theorem am_okm336 : ∀ pc, pc < 10 → am_okx 336 pc (am_f336 pc) = true := by decide +kernel
set_option maxRecDepth 100000 in
theorem am_okm337 : ∀ pc, pc < 18 → am_okx 337 pc (am_f337 pc) = true := by decide +kernel
set_option maxRecDepth 100000 in
theorem am_okm338 : ∀ pc, pc < 11 → am_okx 338 pc (am_f338 pc) = true := by decide +kernel
set_option maxRecDepth 100000 in
theorem am_okm339 : ∀ pc, pc < 9 → am_okx 339 pc (am_f339 pc) = true := by decide +kernel
