/-! what no call changes: the check, on -/
set_option maxRecDepth 100000 in
theorem iv_d180 : ∀ pc, pc < 32 → iv_cx (am_f180 pc) = true := by decide +kernel
theorem iv_m180 (pc : Nat) : iv_ck 180 pc (am_f180 pc) = true := iv_of 180 (iv_d180 pc) (fun e => by unfold am_f180; rw [e]; rfl)
set_option maxRecDepth 100000 in
theorem iv_d181 : ∀ pc, pc < 19 → iv_cx (am_f181 pc) = true := by decide +kernel
theorem iv_m181 (pc : Nat) : iv_ck 181 pc (am_f181 pc) = true := iv_of 181 (iv_d181 pc) (fun e => by unfold am_f181; rw [e]; rfl)
set_option maxRecDepth 100000 in
theorem iv_d182 : ∀ pc, pc < 57 → iv_cx (am_f182 pc) = true := by decide +kernel
theorem iv_m182 (pc : Nat) : iv_ck 182 pc (am_f182 pc) = true := iv_of 182 (iv_d182 pc) (fun e => by unfold am_f182; rw [e]; rfl)
set_option maxRecDepth 100000 in
theorem iv_d183 : ∀ pc, pc < 22 → iv_cx (am_f183 pc) = true := by decide +kernel
theorem iv_m183 (pc : Nat) : iv_ck 183 pc (am_f183 pc) = true := iv_of 183 (iv_d183 pc) (fun e => by unfold am_f183; rw [e]; rfl)
set_option maxRecDepth 100000 in
theorem iv_d184 : ∀ pc, pc < 31 → iv_cx (am_f184 pc) = true := by decide +kernel
theorem iv_m184 (pc : Nat) : iv_ck 184 pc (am_f184 pc) = true := iv_of 184 (iv_d184 pc) (fun e => by unfold am_f184; rw [e]; rfl)
set_option maxRecDepth 100000 in
theorem iv_d185 : ∀ pc, pc < 124 → iv_cx (am_f185 pc) = true := by decide +kernel
theorem iv_m185 (pc : Nat) : iv_ck 185 pc (am_f185 pc) = true := iv_of 185 (iv_d185 pc) (fun e => by unfold am_f185; rw [e]; rfl)
set_option maxRecDepth 100000 in
theorem iv_d186 : ∀ pc, pc < 16 → iv_cx (am_f186 pc) = true := by decide +kernel
theorem iv_m186 (pc : Nat) : iv_ck 186 pc (am_f186 pc) = true := iv_of 186 (iv_d186 pc) (fun e => by unfold am_f186; rw [e]; rfl)
set_option maxRecDepth 100000 in
theorem iv_d187 : ∀ pc, pc < 28 → iv_cx (am_f187 pc) = true := by decide +kernel
theorem iv_m187 (pc : Nat) : iv_ck 187 pc (am_f187 pc) = true := iv_of 187 (iv_d187 pc) (fun e => by unfold am_f187; rw [e]; rfl)
set_option maxRecDepth 100000 in
theorem iv_d188 : ∀ pc, pc < 49 → iv_cx (am_f188 pc) = true := by decide +kernel
theorem iv_m188 (pc : Nat) : iv_ck 188 pc (am_f188 pc) = true := iv_of 188 (iv_d188 pc) (fun e => by unfold am_f188; rw [e]; rfl)
set_option maxRecDepth 100000 in
theorem iv_d189 : ∀ pc, pc < 12 → iv_cx (am_f189 pc) = true := by decide +kernel
theorem iv_m189 (pc : Nat) : iv_ck 189 pc (am_f189 pc) = true := iv_of 189 (iv_d189 pc) (fun e => by unfold am_f189; rw [e]; rfl)
set_option maxRecDepth 100000 in
theorem iv_d190 : ∀ pc, pc < 78 → iv_cx (am_f190 pc) = true := by decide +kernel
theorem iv_m190 (pc : Nat) : iv_ck 190 pc (am_f190 pc) = true := iv_of 190 (iv_d190 pc) (fun e => by unfold am_f190; rw [e]; rfl)
set_option maxRecDepth 100000 in
theorem iv_d191 : ∀ pc, pc < 114 → iv_cx (am_f191 pc) = true := by decide +kernel
theorem iv_m191 (pc : Nat) : iv_ck 191 pc (am_f191 pc) = true := iv_of 191 (iv_d191 pc) (fun e => by unfold am_f191; rw [e]; rfl)
set_option maxRecDepth 100000 in
theorem iv_d192 : ∀ pc, pc < 18 → iv_cx (am_f192 pc) = true := by decide +kernel
theorem iv_m192 (pc : Nat) : iv_ck 192 pc (am_f192 pc) = true := iv_of 192 (iv_d192 pc) (fun e => by unfold am_f192; rw [e]; rfl)
set_option maxRecDepth 100000 in
theorem iv_d193 : ∀ pc, pc < 233 → iv_cx (am_f193 pc) = true := by decide +kernel
theorem iv_m193 (pc : Nat) : iv_ck 193 pc (am_f193 pc) = true := iv_of 193 (iv_d193 pc) (fun e => by unfold am_f193; rw [e]; rfl)
set_option maxRecDepth 100000 in
theorem iv_d194 : ∀ pc, pc < 52 → iv_cx (am_f194 pc) = true := by decide +kernel
theorem iv_m194 (pc : Nat) : iv_ck 194 pc (am_f194 pc) = true := iv_of 194 (iv_d194 pc) (fun e => by unfold am_f194; rw [e]; rfl)
set_option maxRecDepth 100000 in
theorem iv_d195 : ∀ pc, pc < 57 → iv_cx (am_f195 pc) = true := by decide +kernel
theorem iv_m195 (pc : Nat) : iv_ck 195 pc (am_f195 pc) = true := iv_of 195 (iv_d195 pc) (fun e => by unfold am_f195; rw [e]; rfl)
set_option maxRecDepth 100000 in
theorem iv_d196 : ∀ pc, pc < 132 → iv_cx (am_f196 pc) = true := by decide +kernel
theorem iv_m196 (pc : Nat) : iv_ck 196 pc (am_f196 pc) = true := iv_of 196 (iv_d196 pc) (fun e => by unfold am_f196; rw [e]; rfl)
set_option maxRecDepth 100000 in
theorem iv_d197 : ∀ pc, pc < 118 → iv_cx (am_f197 pc) = true := by decide +kernel
theorem iv_m197 (pc : Nat) : iv_ck 197 pc (am_f197 pc) = true := iv_of 197 (iv_d197 pc) (fun e => by unfold am_f197; rw [e]; rfl)
set_option maxRecDepth 100000 in
theorem iv_d198 : ∀ pc, pc < 100 → iv_cx (am_f198 pc) = true := by decide +kernel
theorem iv_m198 (pc : Nat) : iv_ck 198 pc (am_f198 pc) = true := iv_of 198 (iv_d198 pc) (fun e => by unfold am_f198; rw [e]; rfl)
set_option maxRecDepth 100000 in
theorem iv_d199 : ∀ pc, pc < 23 → iv_cx (am_f199 pc) = true := by decide +kernel
theorem iv_m199 (pc : Nat) : iv_ck 199 pc (am_f199 pc) = true := iv_of 199 (iv_d199 pc) (fun e => by unfold am_f199; rw [e]; rfl)
set_option maxRecDepth 100000 in
theorem iv_d200 : ∀ pc, pc < 12 → iv_cx (am_f200 pc) = true := by decide +kernel
theorem iv_m200 (pc : Nat) : iv_ck 200 pc (am_f200 pc) = true := iv_of 200 (iv_d200 pc) (fun e => by unfold am_f200; rw [e]; rfl)
set_option maxRecDepth 100000 in
theorem iv_d201 : ∀ pc, pc < 85 → iv_cx (am_f201 pc) = true := by decide +kernel
theorem iv_m201 (pc : Nat) : iv_ck 201 pc (am_f201 pc) = true := iv_of 201 (iv_d201 pc) (fun e => by unfold am_f201; rw [e]; rfl)
set_option maxRecDepth 100000 in
theorem iv_d202 : ∀ pc, pc < 54 → iv_cx (am_f202 pc) = true := by decide +kernel
theorem iv_m202 (pc : Nat) : iv_ck 202 pc (am_f202 pc) = true := iv_of 202 (iv_d202 pc) (fun e => by unfold am_f202; rw [e]; rfl)
set_option maxRecDepth 100000 in
theorem iv_d203 : ∀ pc, pc < 7 → iv_cx (am_f203 pc) = true := by decide +kernel
theorem iv_m203 (pc : Nat) : iv_ck 203 pc (am_f203 pc) = true := iv_of 203 (iv_d203 pc) (fun e => by unfold am_f203; rw [e]; rfl)
set_option maxRecDepth 100000 in
theorem iv_d204 : ∀ pc, pc < 12 → iv_cx (am_f204 pc) = true := by decide +kernel
theorem iv_m204 (pc : Nat) : iv_ck 204 pc (am_f204 pc) = true := iv_of 204 (iv_d204 pc) (fun e => by unfold am_f204; rw [e]; rfl)
set_option maxRecDepth 100000 in
theorem iv_d205 : ∀ pc, pc < 54 → iv_cx (am_f205 pc) = true := by decide +kernel
theorem iv_m205 (pc : Nat) : iv_ck 205 pc (am_f205 pc) = true := iv_of 205 (iv_d205 pc) (fun e => by unfold am_f205; rw [e]; rfl)
set_option maxRecDepth 100000 in
theorem iv_d206 : ∀ pc, pc < 50 → iv_cx (am_f206 pc) = true := by decide +kernel
theorem iv_m206 (pc : Nat) : iv_ck 206 pc (am_f206 pc) = true := iv_of 206 (iv_d206 pc) (fun e => by unfold am_f206; rw [e]; rfl)
set_option maxRecDepth 100000 in
theorem iv_d207 : ∀ pc, pc < 68 → iv_cx (am_f207 pc) = true := by decide +kernel
theorem iv_m207 (pc : Nat) : iv_ck 207 pc (am_f207 pc) = true := iv_of 207 (iv_d207 pc) (fun e => by unfold am_f207; rw [e]; rfl)
set_option maxRecDepth 100000 in
theorem iv_d208 : ∀ pc, pc < 42 → iv_cx (am_f208 pc) = true := by decide +kernel
theorem iv_m208 (pc : Nat) : iv_ck 208 pc (am_f208 pc) = true := iv_of 208 (iv_d208 pc) (fun e => by unfold am_f208; rw [e]; rfl)
set_option maxRecDepth 100000 in
theorem iv_d209 : ∀ pc, pc < 10 → iv_cx (am_f209 pc) = true := by decide +kernel
theorem iv_m209 (pc : Nat) : iv_ck 209 pc (am_f209 pc) = true := iv_of 209 (iv_d209 pc) (fun e => by unfold am_f209; rw [e]; rfl)
set_option maxRecDepth 100000 in
theorem iv_d210 : ∀ pc, pc < 25 → iv_cx (am_f210 pc) = true := by decide +kernel
theorem iv_m210 (pc : Nat) : iv_ck 210 pc (am_f210 pc) = true := iv_of 210 (iv_d210 pc) (fun e => by unfold am_f210; rw [e]; rfl)
set_option maxRecDepth 100000 in
theorem iv_d211 : ∀ pc, pc < 49 → iv_cx (am_f211 pc) = true := by decide +kernel
theorem iv_m211 (pc : Nat) : iv_ck 211 pc (am_f211 pc) = true := iv_of 211 (iv_d211 pc) (fun e => by unfold am_f211; rw [e]; rfl)
set_option maxRecDepth 100000 in
theorem iv_d212 : ∀ pc, pc < 29 → iv_cx (am_f212 pc) = true := by decide +kernel
theorem iv_m212 (pc : Nat) : iv_ck 212 pc (am_f212 pc) = true := iv_of 212 (iv_d212 pc) (fun e => by unfold am_f212; rw [e]; rfl)
set_option maxRecDepth 100000 in
theorem iv_d213 : ∀ pc, pc < 44 → iv_cx (am_f213 pc) = true := by decide +kernel
theorem iv_m213 (pc : Nat) : iv_ck 213 pc (am_f213 pc) = true := iv_of 213 (iv_d213 pc) (fun e => by unfold am_f213; rw [e]; rfl)
set_option maxRecDepth 100000 in
theorem iv_d214 : ∀ pc, pc < 114 → iv_cx (am_f214 pc) = true := by decide +kernel
theorem iv_m214 (pc : Nat) : iv_ck 214 pc (am_f214 pc) = true := iv_of 214 (iv_d214 pc) (fun e => by unfold am_f214; rw [e]; rfl)
set_option maxRecDepth 100000 in
theorem iv_d215 : ∀ pc, pc < 117 → iv_cx (am_f215 pc) = true := by decide +kernel
theorem iv_m215 (pc : Nat) : iv_ck 215 pc (am_f215 pc) = true := iv_of 215 (iv_d215 pc) (fun e => by unfold am_f215; rw [e]; rfl)
set_option maxRecDepth 100000 in
theorem iv_d216 : ∀ pc, pc < 80 → iv_cx (am_f216 pc) = true := by decide +kernel
theorem iv_m216 (pc : Nat) : iv_ck 216 pc (am_f216 pc) = true := iv_of 216 (iv_d216 pc) (fun e => by unfold am_f216; rw [e]; rfl)
set_option maxRecDepth 100000 in
theorem iv_d217 : ∀ pc, pc < 27 → iv_cx (am_f217 pc) = true := by decide +kernel
theorem iv_m217 (pc : Nat) : iv_ck 217 pc (am_f217 pc) = true := iv_of 217 (iv_d217 pc) (fun e => by unfold am_f217; rw [e]; rfl)
set_option maxRecDepth 100000 in
theorem iv_d218 : ∀ pc, pc < 55 → iv_cx (am_f218 pc) = true := by decide +kernel
theorem iv_m218 (pc : Nat) : iv_ck 218 pc (am_f218 pc) = true := iv_of 218 (iv_d218 pc) (fun e => by unfold am_f218; rw [e]; rfl)
set_option maxRecDepth 100000 in
theorem iv_d219 : ∀ pc, pc < 68 → iv_cx (am_f219 pc) = true := by decide +kernel
theorem iv_m219 (pc : Nat) : iv_ck 219 pc (am_f219 pc) = true := iv_of 219 (iv_d219 pc) (fun e => by unfold am_f219; rw [e]; rfl)
set_option maxRecDepth 100000 in
theorem iv_d220 : ∀ pc, pc < 76 → iv_cx (am_f220 pc) = true := by decide +kernel
theorem iv_m220 (pc : Nat) : iv_ck 220 pc (am_f220 pc) = true := iv_of 220 (iv_d220 pc) (fun e => by unfold am_f220; rw [e]; rfl)
set_option maxRecDepth 100000 in
theorem iv_d221 : ∀ pc, pc < 83 → iv_cx (am_f221 pc) = true := by decide +kernel
theorem iv_m221 (pc : Nat) : iv_ck 221 pc (am_f221 pc) = true := iv_of 221 (iv_d221 pc) (fun e => by unfold am_f221; rw [e]; rfl)
set_option maxRecDepth 100000 in
theorem iv_d222 : ∀ pc, pc < 98 → iv_cx (am_f222 pc) = true := by decide +kernel
theorem iv_m222 (pc : Nat) : iv_ck 222 pc (am_f222 pc) = true := iv_of 222 (iv_d222 pc) (fun e => by unfold am_f222; rw [e]; rfl)
set_option maxRecDepth 100000 in
theorem iv_d223 : ∀ pc, pc < 60 → iv_cx (am_f223 pc) = true := by decide +kernel
theorem iv_m223 (pc : Nat) : iv_ck 223 pc (am_f223 pc) = true := iv_of 223 (iv_d223 pc) (fun e => by unfold am_f223; rw [e]; rfl)
set_option maxRecDepth 100000 in
theorem iv_d224 : ∀ pc, pc < 88 → iv_cx (am_f224 pc) = true := by decide +kernel
theorem iv_m224 (pc : Nat) : iv_ck 224 pc (am_f224 pc) = true := iv_of 224 (iv_d224 pc) (fun e => by unfold am_f224; rw [e]; rfl)
set_option maxRecDepth 100000 in
theorem iv_d225 : ∀ pc, pc < 116 → iv_cx (am_f225 pc) = true := by decide +kernel
theorem iv_m225 (pc : Nat) : iv_ck 225 pc (am_f225 pc) = true := iv_of 225 (iv_d225 pc) (fun e => by unfold am_f225; rw [e]; rfl)
set_option maxRecDepth 100000 in
theorem iv_d226 : ∀ pc, pc < 53 → iv_cx (am_f226 pc) = true := by decide +kernel
theorem iv_m226 (pc : Nat) : iv_ck 226 pc (am_f226 pc) = true := iv_of 226 (iv_d226 pc) (fun e => by unfold am_f226; rw [e]; rfl)
set_option maxRecDepth 100000 in
theorem iv_d227 : ∀ pc, pc < 39 → iv_cx (am_f227 pc) = true := by decide +kernel
theorem iv_m227 (pc : Nat) : iv_ck 227 pc (am_f227 pc) = true := iv_of 227 (iv_d227 pc) (fun e => by unfold am_f227; rw [e]; rfl)
set_option maxRecDepth 100000 in
theorem iv_d228 : ∀ pc, pc < 53 → iv_cx (am_f228 pc) = true := by decide +kernel
theorem iv_m228 (pc : Nat) : iv_ck 228 pc (am_f228 pc) = true := iv_of 228 (iv_d228 pc) (fun e => by unfold am_f228; rw [e]; rfl)
set_option maxRecDepth 100000 in
theorem iv_d229 : ∀ pc, pc < 47 → iv_cx (am_f229 pc) = true := by decide +kernel
theorem iv_m229 (pc : Nat) : iv_ck 229 pc (am_f229 pc) = true := iv_of 229 (iv_d229 pc) (fun e => by unfold am_f229; rw [e]; rfl)
set_option maxRecDepth 100000 in
theorem iv_d230 : ∀ pc, pc < 104 → iv_cx (am_f230 pc) = true := by decide +kernel
theorem iv_m230 (pc : Nat) : iv_ck 230 pc (am_f230 pc) = true := iv_of 230 (iv_d230 pc) (fun e => by unfold am_f230; rw [e]; rfl)
set_option maxRecDepth 100000 in
theorem iv_d231 : ∀ pc, pc < 106 → iv_cx (am_f231 pc) = true := by decide +kernel
theorem iv_m231 (pc : Nat) : iv_ck 231 pc (am_f231 pc) = true := iv_of 231 (iv_d231 pc) (fun e => by unfold am_f231; rw [e]; rfl)
set_option maxRecDepth 100000 in
theorem iv_d232 : ∀ pc, pc < 33 → iv_cx (am_f232 pc) = true := by decide +kernel
theorem iv_m232 (pc : Nat) : iv_ck 232 pc (am_f232 pc) = true := iv_of 232 (iv_d232 pc) (fun e => by unfold am_f232; rw [e]; rfl)
set_option maxRecDepth 100000 in
theorem iv_d233 : ∀ pc, pc < 41 → iv_cx (am_f233 pc) = true := by decide +kernel
theorem iv_m233 (pc : Nat) : iv_ck 233 pc (am_f233 pc) = true := iv_of 233 (iv_d233 pc) (fun e => by unfold am_f233; rw [e]; rfl)
set_option maxRecDepth 100000 in
theorem iv_d234 : ∀ pc, pc < 16 → iv_cx (am_f234 pc) = true := by decide +kernel
theorem iv_m234 (pc : Nat) : iv_ck 234 pc (am_f234 pc) = true := iv_of 234 (iv_d234 pc) (fun e => by unfold am_f234; rw [e]; rfl)
set_option maxRecDepth 100000 in
theorem iv_d235 : ∀ pc, pc < 48 → iv_cx (am_f235 pc) = true := by decide +kernel
theorem iv_m235 (pc : Nat) : iv_ck 235 pc (am_f235 pc) = true := iv_of 235 (iv_d235 pc) (fun e => by unfold am_f235; rw [e]; rfl)
set_option maxRecDepth 100000 in
theorem iv_d236 : ∀ pc, pc < 99 → iv_cx (am_f236 pc) = true := by decide +kernel
theorem iv_m236 (pc : Nat) : iv_ck 236 pc (am_f236 pc) = true := iv_of 236 (iv_d236 pc) (fun e => by unfold am_f236; rw [e]; rfl)
set_option maxRecDepth 100000 in
theorem iv_d237 : ∀ pc, pc < 36 → iv_cx (am_f237 pc) = true := by decide +kernel
theorem iv_m237 (pc : Nat) : iv_ck 237 pc (am_f237 pc) = true := iv_of 237 (iv_d237 pc) (fun e => by unfold am_f237; rw [e]; rfl)
set_option maxRecDepth 100000 in
theorem iv_d238 : ∀ pc, pc < 18 → iv_cx (am_f238 pc) = true := by decide +kernel
theorem iv_m238 (pc : Nat) : iv_ck 238 pc (am_f238 pc) = true := iv_of 238 (iv_d238 pc) (fun e => by unfold am_f238; rw [e]; rfl)
set_option maxRecDepth 100000 in
theorem iv_d239 : ∀ pc, pc < 83 → iv_cx (am_f239 pc) = true := by decide +kernel
theorem iv_m239 (pc : Nat) : iv_ck 239 pc (am_f239 pc) = true := iv_of 239 (iv_d239 pc) (fun e => by unfold am_f239; rw [e]; rfl)
