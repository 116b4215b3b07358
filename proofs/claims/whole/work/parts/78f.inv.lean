/-! what no call changes: the check, on -/
theorem iv_m300 (pc : Nat) : iv_ck 300 pc (am_f300 pc) = true := rfl
set_option maxRecDepth 100000 in
theorem iv_d301 : ∀ pc, pc < 11 → iv_cx (am_f301 pc) = true := by decide +kernel
theorem iv_m301 (pc : Nat) : iv_ck 301 pc (am_f301 pc) = true := iv_of 301 (iv_d301 pc) (fun e => by unfold am_f301; rw [e]; rfl)
set_option maxRecDepth 100000 in
theorem iv_d302 : ∀ pc, pc < 20 → iv_cx (am_f302 pc) = true := by decide +kernel
theorem iv_m302 (pc : Nat) : iv_ck 302 pc (am_f302 pc) = true := iv_of 302 (iv_d302 pc) (fun e => by unfold am_f302; rw [e]; rfl)
set_option maxRecDepth 100000 in
theorem iv_d303 : ∀ pc, pc < 11 → iv_cx (am_f303 pc) = true := by decide +kernel
theorem iv_m303 (pc : Nat) : iv_ck 303 pc (am_f303 pc) = true := iv_of 303 (iv_d303 pc) (fun e => by unfold am_f303; rw [e]; rfl)
set_option maxRecDepth 100000 in
theorem iv_d304 : ∀ pc, pc < 20 → iv_cx (am_f304 pc) = true := by decide +kernel
theorem iv_m304 (pc : Nat) : iv_ck 304 pc (am_f304 pc) = true := iv_of 304 (iv_d304 pc) (fun e => by unfold am_f304; rw [e]; rfl)
set_option maxRecDepth 100000 in
theorem iv_d305 : ∀ pc, pc < 11 → iv_cx (am_f305 pc) = true := by decide +kernel
theorem iv_m305 (pc : Nat) : iv_ck 305 pc (am_f305 pc) = true := iv_of 305 (iv_d305 pc) (fun e => by unfold am_f305; rw [e]; rfl)
set_option maxRecDepth 100000 in
theorem iv_d306 : ∀ pc, pc < 80 → iv_cx (am_f306 pc) = true := by decide +kernel
theorem iv_m306 (pc : Nat) : iv_ck 306 pc (am_f306 pc) = true := iv_of 306 (iv_d306 pc) (fun e => by unfold am_f306; rw [e]; rfl)
set_option maxRecDepth 100000 in
theorem iv_d307 : ∀ pc, pc < 53 → iv_cx (am_f307 pc) = true := by decide +kernel
theorem iv_m307 (pc : Nat) : iv_ck 307 pc (am_f307 pc) = true := iv_of 307 (iv_d307 pc) (fun e => by unfold am_f307; rw [e]; rfl)
set_option maxRecDepth 100000 in
theorem iv_d308 : ∀ pc, pc < 61 → iv_cx (am_f308 pc) = true := by decide +kernel
theorem iv_m308 (pc : Nat) : iv_ck 308 pc (am_f308 pc) = true := iv_of 308 (iv_d308 pc) (fun e => by unfold am_f308; rw [e]; rfl)
set_option maxRecDepth 100000 in
theorem iv_d314 : ∀ pc, pc < 7 → iv_cx (am_f314 pc) = true := by decide +kernel
theorem iv_m314 (pc : Nat) : iv_ck 314 pc (am_f314 pc) = true := iv_of 314 (iv_d314 pc) (fun e => by unfold am_f314; rw [e]; rfl)
set_option maxRecDepth 100000 in
theorem iv_d315 : ∀ pc, pc < 37 → iv_cx (am_f315 pc) = true := by decide +kernel
theorem iv_m315 (pc : Nat) : iv_ck 315 pc (am_f315 pc) = true := iv_of 315 (iv_d315 pc) (fun e => by unfold am_f315; rw [e]; rfl)
set_option maxRecDepth 100000 in
theorem iv_d316 : ∀ pc, pc < 19 → iv_cx (am_f316 pc) = true := by decide +kernel
theorem iv_m316 (pc : Nat) : iv_ck 316 pc (am_f316 pc) = true := iv_of 316 (iv_d316 pc) (fun e => by unfold am_f316; rw [e]; rfl)
set_option maxRecDepth 100000 in
theorem iv_d317 : ∀ pc, pc < 11 → iv_cx (am_f317 pc) = true := by decide +kernel
theorem iv_m317 (pc : Nat) : iv_ck 317 pc (am_f317 pc) = true := iv_of 317 (iv_d317 pc) (fun e => by unfold am_f317; rw [e]; rfl)
set_option maxRecDepth 100000 in
theorem iv_d318 : ∀ pc, pc < 15 → iv_cx (am_f318 pc) = true := by decide +kernel
theorem iv_m318 (pc : Nat) : iv_ck 318 pc (am_f318 pc) = true := iv_of 318 (iv_d318 pc) (fun e => by unfold am_f318; rw [e]; rfl)
set_option maxRecDepth 100000 in
theorem iv_d319 : ∀ pc, pc < 37 → iv_cx (am_f319 pc) = true := by decide +kernel
theorem iv_m319 (pc : Nat) : iv_ck 319 pc (am_f319 pc) = true := iv_of 319 (iv_d319 pc) (fun e => by unfold am_f319; rw [e]; rfl)
set_option maxRecDepth 100000 in
theorem iv_d320 : ∀ pc, pc < 17 → iv_cx (am_f320 pc) = true := by decide +kernel
theorem iv_m320 (pc : Nat) : iv_ck 320 pc (am_f320 pc) = true := iv_of 320 (iv_d320 pc) (fun e => by unfold am_f320; rw [e]; rfl)
set_option maxRecDepth 100000 in
theorem iv_d321 : ∀ pc, pc < 33 → iv_cx (am_f321 pc) = true := by decide +kernel
theorem iv_m321 (pc : Nat) : iv_ck 321 pc (am_f321 pc) = true := iv_of 321 (iv_d321 pc) (fun e => by unfold am_f321; rw [e]; rfl)
set_option maxRecDepth 100000 in
theorem iv_d322 : ∀ pc, pc < 44 → iv_cx (am_f322 pc) = true := by decide +kernel
theorem iv_m322 (pc : Nat) : iv_ck 322 pc (am_f322 pc) = true := iv_of 322 (iv_d322 pc) (fun e => by unfold am_f322; rw [e]; rfl)
set_option maxRecDepth 100000 in
theorem iv_d323 : ∀ pc, pc < 14 → iv_cx (am_f323 pc) = true := by decide +kernel
theorem iv_m323 (pc : Nat) : iv_ck 323 pc (am_f323 pc) = true := iv_of 323 (iv_d323 pc) (fun e => by unfold am_f323; rw [e]; rfl)
set_option maxRecDepth 100000 in
theorem iv_d324 : ∀ pc, pc < 10 → iv_cx (am_f324 pc) = true := by decide +kernel
theorem iv_m324 (pc : Nat) : iv_ck 324 pc (am_f324 pc) = true := iv_of 324 (iv_d324 pc) (fun e => by unfold am_f324; rw [e]; rfl)
set_option maxRecDepth 100000 in
theorem iv_d325 : ∀ pc, pc < 5 → iv_cx (am_f325 pc) = true := by decide +kernel
theorem iv_m325 (pc : Nat) : iv_ck 325 pc (am_f325 pc) = true := iv_of 325 (iv_d325 pc) (fun e => by unfold am_f325; rw [e]; rfl)
set_option maxRecDepth 100000 in
theorem iv_d326 : ∀ pc, pc < 11 → iv_cx (am_f326 pc) = true := by decide +kernel
theorem iv_m326 (pc : Nat) : iv_ck 326 pc (am_f326 pc) = true := iv_of 326 (iv_d326 pc) (fun e => by unfold am_f326; rw [e]; rfl)
set_option maxRecDepth 100000 in
theorem iv_d327 : ∀ pc, pc < 24 → iv_cx (am_f327 pc) = true := by decide +kernel
theorem iv_m327 (pc : Nat) : iv_ck 327 pc (am_f327 pc) = true := iv_of 327 (iv_d327 pc) (fun e => by unfold am_f327; rw [e]; rfl)
set_option maxRecDepth 100000 in
theorem iv_d328 : ∀ pc, pc < 30 → iv_cx (am_f328 pc) = true := by decide +kernel
theorem iv_m328 (pc : Nat) : iv_ck 328 pc (am_f328 pc) = true := iv_of 328 (iv_d328 pc) (fun e => by unfold am_f328; rw [e]; rfl)
set_option maxRecDepth 100000 in
theorem iv_d329 : ∀ pc, pc < 60 → iv_cx (am_f329 pc) = true := by decide +kernel
theorem iv_m329 (pc : Nat) : iv_ck 329 pc (am_f329 pc) = true := iv_of 329 (iv_d329 pc) (fun e => by unfold am_f329; rw [e]; rfl)
set_option maxRecDepth 100000 in
theorem iv_d330 : ∀ pc, pc < 71 → iv_cx (am_f330 pc) = true := by decide +kernel
theorem iv_m330 (pc : Nat) : iv_ck 330 pc (am_f330 pc) = true := iv_of 330 (iv_d330 pc) (fun e => by unfold am_f330; rw [e]; rfl)
set_option maxRecDepth 100000 in
theorem iv_d331 : ∀ pc, pc < 17 → iv_cx (am_f331 pc) = true := by decide +kernel
theorem iv_m331 (pc : Nat) : iv_ck 331 pc (am_f331 pc) = true := iv_of 331 (iv_d331 pc) (fun e => by unfold am_f331; rw [e]; rfl)
set_option maxRecDepth 100000 in
theorem iv_d332 : ∀ pc, pc < 9 → iv_cx (am_f332 pc) = true := by decide +kernel
theorem iv_m332 (pc : Nat) : iv_ck 332 pc (am_f332 pc) = true := iv_of 332 (iv_d332 pc) (fun e => by unfold am_f332; rw [e]; rfl)
set_option maxRecDepth 100000 in
theorem iv_d333 : ∀ pc, pc < 10 → iv_cx (am_f333 pc) = true := by decide +kernel
theorem iv_m333 (pc : Nat) : iv_ck 333 pc (am_f333 pc) = true := iv_of 333 (iv_d333 pc) (fun e => by unfold am_f333; rw [e]; rfl)
set_option maxRecDepth 100000 in
theorem iv_d334 : ∀ pc, pc < 25 → iv_cx (am_f334 pc) = true := by decide +kernel
theorem iv_m334 (pc : Nat) : iv_ck 334 pc (am_f334 pc) = true := iv_of 334 (iv_d334 pc) (fun e => by unfold am_f334; rw [e]; rfl)
set_option maxRecDepth 100000 in
theorem iv_d335 : ∀ pc, pc < 15 → iv_cx (am_f335 pc) = true := by decide +kernel
theorem iv_m335 (pc : Nat) : iv_ck 335 pc (am_f335 pc) = true := iv_of 335 (iv_d335 pc) (fun e => by unfold am_f335; rw [e]; rfl)
set_option maxRecDepth 100000 in
theorem iv_d336 : ∀ pc, pc < 10 → iv_cx (am_f336 pc) = true := by decide +kernel
theorem iv_m336 (pc : Nat) : iv_ck 336 pc (am_f336 pc) = true := iv_of 336 (iv_d336 pc) (fun e => by unfold am_f336; rw [e]; rfl)
set_option maxRecDepth 100000 in
theorem iv_d337 : ∀ pc, pc < 18 → iv_cx (am_f337 pc) = true := by decide +kernel
theorem iv_m337 (pc : Nat) : iv_ck 337 pc (am_f337 pc) = true := iv_of 337 (iv_d337 pc) (fun e => by unfold am_f337; rw [e]; rfl)
set_option maxRecDepth 100000 in
theorem iv_d338 : ∀ pc, pc < 11 → iv_cx (am_f338 pc) = true := by decide +kernel
theorem iv_m338 (pc : Nat) : iv_ck 338 pc (am_f338 pc) = true := iv_of 338 (iv_d338 pc) (fun e => by unfold am_f338; rw [e]; rfl)
set_option maxRecDepth 100000 in
theorem iv_d339 : ∀ pc, pc < 9 → iv_cx (am_f339 pc) = true := by decide +kernel
theorem iv_m339 (pc : Nat) : iv_ck 339 pc (am_f339 pc) = true := iv_of 339 (iv_d339 pc) (fun e => by unfold am_f339; rw [e]; rfl)
set_option maxRecDepth 100000 in
theorem iv_fe (k pc : Nat) : iv_ck k pc (am_fe k pc) = true := (iv_cc (iv_cc (iv_cc (iv_cc (iv_cc (iv_cc (iv_cc (iv_cc (iv_lf (iv_m0 pc)) (iv_lf (iv_m1 pc))) (iv_cc (iv_lf (iv_m2 pc)) (iv_cc (iv_lf (iv_m3 pc)) (iv_lf (iv_m4 pc))))) (iv_cc (iv_cc (iv_lf (iv_m5 pc)) (iv_lf (iv_m6 pc))) (iv_cc (iv_lf (iv_m7 pc)) (iv_cc (iv_lf (iv_m8 pc)) (iv_lf (iv_m9 pc)))))) (iv_cc (iv_cc (iv_cc (iv_lf (iv_m10 pc)) (iv_lf (iv_m11 pc))) (iv_cc (iv_lf (iv_m12 pc)) (iv_cc (iv_lf (iv_m13 pc)) (iv_lf (iv_m14 pc))))) (iv_cc (iv_cc (iv_lf (iv_m15 pc)) (iv_lf (iv_m16 pc))) (iv_cc (iv_lf (iv_m17 pc)) (iv_cc (iv_lf (iv_m18 pc)) (iv_lf (iv_m19 pc))))))) (iv_cc (iv_cc (iv_cc (iv_cc (iv_lf (iv_m20 pc)) (iv_lf (iv_m21 pc))) (iv_cc (iv_lf (iv_m22 pc)) (iv_cc (iv_lf (iv_m23 pc)) (iv_lf (iv_m24 pc))))) (iv_cc (iv_cc (iv_lf (iv_m25 pc)) (iv_lf (iv_m26 pc))) (iv_cc (iv_lf (iv_m27 pc)) (iv_cc (iv_lf (iv_m28 pc)) (iv_lf (iv_m29 pc)))))) (iv_cc (iv_cc (iv_cc (iv_lf (iv_m30 pc)) (iv_lf (iv_m31 pc))) (iv_cc (iv_lf (iv_m32 pc)) (iv_cc (iv_lf (iv_m33 pc)) (iv_lf (iv_m34 pc))))) (iv_cc (iv_cc (iv_lf (iv_m35 pc)) (iv_cc (iv_lf (iv_m36 pc)) (iv_lf (iv_m37 pc)))) (iv_cc (iv_lf (iv_m38 pc)) (iv_cc (iv_lf (iv_m39 pc)) (iv_lf (iv_m40 pc)))))))) (iv_cc (iv_cc (iv_cc (iv_cc (iv_cc (iv_lf (iv_m41 pc)) (iv_lf (iv_m42 pc))) (iv_cc (iv_lf (iv_m43 pc)) (iv_cc (iv_lf (iv_m44 pc)) (iv_lf (iv_m45 pc))))) (iv_cc (iv_cc (iv_lf (iv_m46 pc)) (iv_lf (iv_m47 pc))) (iv_cc (iv_lf (iv_m48 pc)) (iv_cc (iv_lf (iv_m49 pc)) (iv_lf (iv_m50 pc)))))) (iv_cc (iv_cc (iv_cc (iv_lf (iv_m51 pc)) (iv_lf (iv_m52 pc))) (iv_cc (iv_lf (iv_m53 pc)) (iv_cc (iv_lf (iv_m54 pc)) (iv_lf (iv_m55 pc))))) (iv_cc (iv_cc (iv_lf (iv_m56 pc)) (iv_cc (iv_lf (iv_m57 pc)) (iv_lf (iv_m58 pc)))) (iv_cc (iv_lf (iv_m59 pc)) (iv_cc (iv_lf (iv_m60 pc)) (iv_lf (iv_m61 pc))))))) (iv_cc (iv_cc (iv_cc (iv_cc (iv_lf (iv_m62 pc)) (iv_lf (iv_m63 pc))) (iv_cc (iv_lf (iv_m64 pc)) (iv_cc (iv_lf (iv_m65 pc)) (iv_lf (iv_m66 pc))))) (iv_cc (iv_cc (iv_lf (iv_m67 pc)) (iv_lf (iv_m68 pc))) (iv_cc (iv_lf (iv_m69 pc)) (iv_cc (iv_lf (iv_m70 pc)) (iv_lf (iv_m71 pc)))))) (iv_cc (iv_cc (iv_cc (iv_lf (iv_m72 pc)) (iv_lf (iv_m73 pc))) (iv_cc (iv_lf (iv_m74 pc)) (iv_cc (iv_lf (iv_m75 pc)) (iv_lf (iv_m76 pc))))) (iv_cc (iv_cc (iv_lf (iv_m77 pc)) (iv_cc (iv_lf (iv_m78 pc)) (iv_lf (iv_m79 pc)))) (iv_cc (iv_lf (iv_m80 pc)) (iv_cc (iv_lf (iv_m81 pc)) (iv_lf (iv_m82 pc))))))))) (iv_cc (iv_cc (iv_cc (iv_cc (iv_cc (iv_cc (iv_lf (iv_m83 pc)) (iv_lf (iv_m84 pc))) (iv_cc (iv_lf (iv_m85 pc)) (iv_cc (iv_lf (iv_m86 pc)) (iv_lf (iv_m87 pc))))) (iv_cc (iv_cc (iv_lf (iv_m88 pc)) (iv_lf (iv_m89 pc))) (iv_cc (iv_lf (iv_m90 pc)) (iv_cc (iv_lf (iv_m91 pc)) (iv_lf (iv_m92 pc)))))) (iv_cc (iv_cc (iv_cc (iv_lf (iv_m93 pc)) (iv_lf (iv_m94 pc))) (iv_cc (iv_lf (iv_m95 pc)) (iv_cc (iv_lf (iv_m96 pc)) (iv_lf (iv_m97 pc))))) (iv_cc (iv_cc (iv_lf (iv_m98 pc)) (iv_cc (iv_lf (iv_m99 pc)) (iv_lf (iv_m100 pc)))) (iv_cc (iv_lf (iv_m101 pc)) (iv_cc (iv_lf (iv_m102 pc)) (iv_lf (iv_m103 pc))))))) (iv_cc (iv_cc (iv_cc (iv_cc (iv_lf (iv_m104 pc)) (iv_lf (iv_m105 pc))) (iv_cc (iv_lf (iv_m106 pc)) (iv_cc (iv_lf (iv_m107 pc)) (iv_lf (iv_m108 pc))))) (iv_cc (iv_cc (iv_lf (iv_m109 pc)) (iv_lf (iv_m110 pc))) (iv_cc (iv_lf (iv_m111 pc)) (iv_cc (iv_lf (iv_m112 pc)) (iv_lf (iv_m113 pc)))))) (iv_cc (iv_cc (iv_cc (iv_lf (iv_m114 pc)) (iv_lf (iv_m115 pc))) (iv_cc (iv_lf (iv_m116 pc)) (iv_cc (iv_lf (iv_m117 pc)) (iv_lf (iv_m118 pc))))) (iv_cc (iv_cc (iv_lf (iv_m119 pc)) (iv_cc (iv_lf (iv_m120 pc)) (iv_lf (iv_m121 pc)))) (iv_cc (iv_lf (iv_m122 pc)) (iv_cc (iv_lf (iv_m123 pc)) (iv_lf (iv_m124 pc)))))))) (iv_cc (iv_cc (iv_cc (iv_cc (iv_cc (iv_lf (iv_m125 pc)) (iv_lf (iv_m126 pc))) (iv_cc (iv_lf (iv_m127 pc)) (iv_cc (iv_lf (iv_m128 pc)) (iv_lf (iv_m129 pc))))) (iv_cc (iv_cc (iv_lf (iv_m130 pc)) (iv_lf (iv_m131 pc))) (iv_cc (iv_lf (iv_m132 pc)) (iv_cc (iv_lf (iv_m133 pc)) (iv_lf (iv_m134 pc)))))) (iv_cc (iv_cc (iv_cc (iv_lf (iv_m135 pc)) (iv_lf (iv_m136 pc))) (iv_cc (iv_lf (iv_m137 pc)) (iv_cc (iv_lf (iv_m138 pc)) (iv_lf (iv_m139 pc))))) (iv_cc (iv_cc (iv_lf (iv_m140 pc)) (iv_cc (iv_lf (iv_m141 pc)) (iv_lf (iv_m142 pc)))) (iv_cc (iv_lf (iv_m143 pc)) (iv_cc (iv_lf (iv_m144 pc)) (iv_lf (iv_m145 pc))))))) (iv_cc (iv_cc (iv_cc (iv_cc (iv_lf (iv_m146 pc)) (iv_lf (iv_m147 pc))) (iv_cc (iv_lf (iv_m148 pc)) (iv_cc (iv_lf (iv_m149 pc)) (iv_lf (iv_m150 pc))))) (iv_cc (iv_cc (iv_lf (iv_m151 pc)) (iv_lf (iv_m152 pc))) (iv_cc (iv_lf (iv_m153 pc)) (iv_cc (iv_lf (iv_m154 pc)) (iv_lf (iv_m155 pc)))))) (iv_cc (iv_cc (iv_cc (iv_lf (iv_m156 pc)) (iv_lf (iv_m157 pc))) (iv_cc (iv_lf (iv_m158 pc)) (iv_cc (iv_lf (iv_m159 pc)) (iv_lf (iv_m160 pc))))) (iv_cc (iv_cc (iv_lf (iv_m161 pc)) (iv_cc (iv_lf (iv_m162 pc)) (iv_lf (iv_m163 pc)))) (iv_cc (iv_lf (iv_m164 pc)) (iv_cc (iv_lf (iv_m165 pc)) (iv_lf (iv_m166 pc)))))))))) (iv_cc (iv_cc (iv_cc (iv_cc (iv_cc (iv_cc (iv_cc (iv_lf (iv_m167 pc)) (iv_lf (iv_m168 pc))) (iv_cc (iv_lf (iv_m169 pc)) (iv_cc (iv_lf (iv_m170 pc)) (iv_lf (iv_m171 pc))))) (iv_cc (iv_cc (iv_lf (iv_m172 pc)) (iv_lf (iv_m173 pc))) (iv_cc (iv_lf (iv_m174 pc)) (iv_cc (iv_lf (iv_m175 pc)) (iv_lf (iv_m176 pc)))))) (iv_cc (iv_cc (iv_cc (iv_lf (iv_m177 pc)) (iv_lf (iv_m178 pc))) (iv_cc (iv_lf (iv_m179 pc)) (iv_cc (iv_lf (iv_m180 pc)) (iv_lf (iv_m181 pc))))) (iv_cc (iv_cc (iv_lf (iv_m182 pc)) (iv_cc (iv_lf (iv_m183 pc)) (iv_lf (iv_m184 pc)))) (iv_cc (iv_lf (iv_m185 pc)) (iv_cc (iv_lf (iv_m186 pc)) (iv_lf (iv_m187 pc))))))) (iv_cc (iv_cc (iv_cc (iv_cc (iv_lf (iv_m188 pc)) (iv_lf (iv_m189 pc))) (iv_cc (iv_lf (iv_m190 pc)) (iv_cc (iv_lf (iv_m191 pc)) (iv_lf (iv_m192 pc))))) (iv_cc (iv_cc (iv_lf (iv_m193 pc)) (iv_lf (iv_m194 pc))) (iv_cc (iv_lf (iv_m195 pc)) (iv_cc (iv_lf (iv_m196 pc)) (iv_lf (iv_m197 pc)))))) (iv_cc (iv_cc (iv_cc (iv_lf (iv_m198 pc)) (iv_lf (iv_m199 pc))) (iv_cc (iv_lf (iv_m200 pc)) (iv_cc (iv_lf (iv_m201 pc)) (iv_lf (iv_m202 pc))))) (iv_cc (iv_cc (iv_lf (iv_m203 pc)) (iv_cc (iv_lf (iv_m204 pc)) (iv_lf (iv_m205 pc)))) (iv_cc (iv_lf (iv_m206 pc)) (iv_cc (iv_lf (iv_m207 pc)) (iv_lf (iv_m208 pc)))))))) (iv_cc (iv_cc (iv_cc (iv_cc (iv_cc (iv_lf (iv_m209 pc)) (iv_lf (iv_m210 pc))) (iv_cc (iv_lf (iv_m211 pc)) (iv_cc (iv_lf (iv_m212 pc)) (iv_lf (iv_m213 pc))))) (iv_cc (iv_cc (iv_lf (iv_m214 pc)) (iv_lf (iv_m215 pc))) (iv_cc (iv_lf (iv_m216 pc)) (iv_cc (iv_lf (iv_m217 pc)) (iv_lf (iv_m218 pc)))))) (iv_cc (iv_cc (iv_cc (iv_lf (iv_m219 pc)) (iv_lf (iv_m220 pc))) (iv_cc (iv_lf (iv_m221 pc)) (iv_cc (iv_lf (iv_m222 pc)) (iv_lf (iv_m223 pc))))) (iv_cc (iv_cc (iv_lf (iv_m224 pc)) (iv_cc (iv_lf (iv_m225 pc)) (iv_lf (iv_m226 pc)))) (iv_cc (iv_lf (iv_m227 pc)) (iv_cc (iv_lf (iv_m228 pc)) (iv_lf (iv_m229 pc))))))) (iv_cc (iv_cc (iv_cc (iv_cc (iv_lf (iv_m230 pc)) (iv_lf (iv_m231 pc))) (iv_cc (iv_lf (iv_m232 pc)) (iv_cc (iv_lf (iv_m233 pc)) (iv_lf (iv_m234 pc))))) (iv_cc (iv_cc (iv_lf (iv_m235 pc)) (iv_lf (iv_m236 pc))) (iv_cc (iv_lf (iv_m237 pc)) (iv_cc (iv_lf (iv_m238 pc)) (iv_lf (iv_m239 pc)))))) (iv_cc (iv_cc (iv_cc (iv_lf (iv_m240 pc)) (iv_lf (iv_m241 pc))) (iv_cc (iv_lf (iv_m242 pc)) (iv_cc (iv_lf (iv_m243 pc)) (iv_lf (iv_m244 pc))))) (iv_cc (iv_cc (iv_lf (iv_m245 pc)) (iv_cc (iv_lf (iv_m246 pc)) (iv_lf (iv_m247 pc)))) (iv_cc (iv_lf (iv_m248 pc)) (iv_cc (iv_lf (iv_m249 pc)) (iv_lf (iv_m250 pc))))))))) (iv_cc (iv_cc (iv_cc (iv_cc (iv_cc (iv_cc (iv_lf (iv_m251 pc)) (iv_lf (iv_m252 pc))) (iv_cc (iv_lf (iv_m253 pc)) (iv_cc (iv_lf (iv_m254 pc)) (iv_lf (iv_m255 pc))))) (iv_cc (iv_cc (iv_lf (iv_m256 pc)) (iv_lf (iv_m257 pc))) (iv_cc (iv_lf (iv_m258 pc)) (iv_cc (iv_lf (iv_m259 pc)) (iv_lf (iv_m260 pc)))))) (iv_cc (iv_cc (iv_cc (iv_lf (iv_m261 pc)) (iv_lf (iv_m262 pc))) (iv_cc (iv_lf (iv_m263 pc)) (iv_cc (iv_lf (iv_m264 pc)) (iv_lf (iv_m265 pc))))) (iv_cc (iv_cc (iv_lf (iv_m266 pc)) (iv_cc (iv_lf (iv_m267 pc)) (iv_lf (iv_m268 pc)))) (iv_cc (iv_lf (iv_m269 pc)) (iv_cc (iv_lf (iv_m270 pc)) (iv_lf (iv_m271 pc))))))) (iv_cc (iv_cc (iv_cc (iv_cc (iv_lf (iv_m272 pc)) (iv_lf (iv_m273 pc))) (iv_cc (iv_lf (iv_m274 pc)) (iv_cc (iv_lf (iv_m275 pc)) (iv_lf (iv_m276 pc))))) (iv_cc (iv_cc (iv_lf (iv_m277 pc)) (iv_lf (iv_m278 pc))) (iv_cc (iv_lf (iv_m279 pc)) (iv_cc (iv_lf (iv_m280 pc)) (iv_lf (iv_m281 pc)))))) (iv_cc (iv_cc (iv_cc (iv_lf (iv_m282 pc)) (iv_lf (iv_m283 pc))) (iv_cc (iv_lf (iv_m284 pc)) (iv_cc (iv_lf (iv_m285 pc)) (iv_lf (iv_m286 pc))))) (iv_cc (iv_cc (iv_lf (iv_m287 pc)) (iv_cc (iv_lf (iv_m288 pc)) (iv_lf (iv_m289 pc)))) (iv_cc (iv_lf (iv_m290 pc)) (iv_cc (iv_lf (iv_m291 pc)) (iv_lf (iv_m292 pc)))))))) (iv_cc (iv_cc (iv_cc (iv_cc (iv_cc (iv_lf (iv_m293 pc)) (iv_lf (iv_m294 pc))) (iv_cc (iv_lf (iv_m295 pc)) (iv_cc (iv_lf (iv_m296 pc)) (iv_lf (iv_m297 pc))))) (iv_cc (iv_cc (iv_lf (iv_m298 pc)) (iv_lf (iv_m299 pc))) (iv_cc (iv_lf (iv_m300 pc)) (iv_cc (iv_lf (iv_m301 pc)) (iv_lf (iv_m302 pc)))))) (iv_cc (iv_cc (iv_cc (iv_lf (iv_m303 pc)) (iv_lf (iv_m304 pc))) (iv_cc (iv_lf (iv_m305 pc)) (iv_cc (iv_lf (iv_m306 pc)) (iv_lf (iv_m307 pc))))) (iv_cc (iv_cc (iv_lf (iv_m308 pc)) (iv_cc (iv_lf (iv_m314 pc)) (iv_lf (iv_m315 pc)))) (iv_cc (iv_lf (iv_m316 pc)) (iv_cc (iv_lf (iv_m317 pc)) (iv_lf (iv_m318 pc))))))) (iv_cc (iv_cc (iv_cc (iv_cc (iv_lf (iv_m319 pc)) (iv_lf (iv_m320 pc))) (iv_cc (iv_lf (iv_m321 pc)) (iv_cc (iv_lf (iv_m322 pc)) (iv_lf (iv_m323 pc))))) (iv_cc (iv_cc (iv_lf (iv_m324 pc)) (iv_lf (iv_m325 pc))) (iv_cc (iv_lf (iv_m326 pc)) (iv_cc (iv_lf (iv_m327 pc)) (iv_lf (iv_m328 pc)))))) (iv_cc (iv_cc (iv_cc (iv_lf (iv_m329 pc)) (iv_lf (iv_m330 pc))) (iv_cc (iv_lf (iv_m331 pc)) (iv_cc (iv_lf (iv_m332 pc)) (iv_lf (iv_m333 pc))))) (iv_cc (iv_cc (iv_lf (iv_m334 pc)) (iv_cc (iv_lf (iv_m335 pc)) (iv_lf (iv_m336 pc)))) (iv_cc (iv_lf (iv_m337 pc)) (iv_cc (iv_lf (iv_m338 pc)) (iv_lf (iv_m339 pc)))))))))))
