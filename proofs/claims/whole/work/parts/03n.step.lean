/-! ONE STEP, by the instruction's group -/
section AMN
variable {S : State} {A0 : Array Value} {ad : Nat → Nat} {fv : Value} {dC : Nat → ClassId} {dI : Nat → Nat → Nat} {p : Program} {l : Launch} {e : Env} {R : Room} {s : State} {m : MethodId} {args : Array Value} {below : List Frame} {meth : Method} {c : Code} {k : Nat} {h0 : am_H} {Q : State → Prop} {P : am_P} {n : Nat} {r : am_Res}
variable {pc len : Nat} {ls st : List Value} {h : am_H} {call : Nat → Nat → List Value → am_H → Option am_Res} {next : Nat → List Value → List Value → am_H → Option am_Res}

theorem gl_no {q : Prop} (x : am_do P call next k pc len ls am_stuck = some r) : q := by
  have x : (none : Option am_Res) = some r := x
  cases x
theorem gl_gd {g : Bool} {pc' : Nat} {ls' st' : List Value} {h' : am_H} (x : am_do P call next k pc len ls (am_gd g pc' ls' st' h') = some r) : g = true ∧ next pc' ls' st' h' = some r := by
  have x : cond g (next pc' ls' st' h') none = some r := x
  cases g with
  | true => exact ⟨rfl, x⟩
  | false => cases x
theorem gl_cond {g : Bool} {A : am_A} (x : am_do P call next k pc len ls (cond g A am_stuck) = some r) : g = true ∧ am_do P call next k pc len ls A = some r := by
  cases g with
  | true => exact ⟨rfl, x⟩
  | false => exact gl_no x
theorem gl_condN {g : Bool} {A : am_A} (x : am_do P call next k pc len ls (cond g am_stuck A) = some r) : g = false ∧ am_do P call next k pc len ls A = some r := by
  cases g with
  | false => exact ⟨rfl, x⟩
  | true => exact gl_no x
theorem gl_load {pc' a i : Nat} (x : am_do P call next k pc len ls (am_load pc' a i ls st h) = some r) : ∃ v, ls[i]? = some v ∧ am_is a v = true ∧ next pc' ls (v :: st) h = some r := by
  unfold am_load at x
  split at x
  · rename_i v hv
    obtain ⟨h1, h2⟩ := gl_cond x
    exact ⟨v, hv, h1, h2⟩
  · exact gl_no x
theorem gl_store1 {pc' a i : Nat} (ha : a ≠ 2) (x : am_do P call next k pc len ls (am_store pc' a i ls st h) = some r) : ∃ v r' l', st = v :: r' ∧ am_is a v = true ∧ am_set ls i v = some l' ∧ next pc' l' r' h = some r := by
  unfold am_store at x
  cases st with
  | nil => exact gl_no x
  | cons v r' =>
    obtain ⟨h1, h2⟩ := gl_cond x
    cases hs : am_set ls i v with
    | none => rw [hs] at h2; exact gl_no h2
    | some l' =>
      rw [hs] at h2
      refine ⟨v, r', l', rfl, h1, hs, ?_⟩
      dsimp only at h2
      split at h2
      · exact absurd rfl ha
      · exact h2
theorem gl_store2 {pc' i : Nat} (x : am_do P call next k pc len ls (am_store pc' 2 i ls st h) = some r) : ∃ v r' l', st = v :: r' ∧ am_is 2 v = true ∧ am_set ls i v = some l' ∧ i + 1 < ls.length ∧ next pc' (l'.set (i + 1) am_u) r' h = some r := by
  unfold am_store at x
  cases st with
  | nil => exact gl_no x
  | cons v r' =>
    obtain ⟨h1, h2⟩ := gl_cond x
    cases hs : am_set ls i v with
    | none => rw [hs] at h2; exact gl_no h2
    | some l' =>
      rw [hs] at h2
      dsimp only at h2
      cases hl : l'[i + 1]? with
      | none => rw [hl] at h2; exact gl_no h2
      | some w =>
        rw [hl] at h2
        refine ⟨v, r', l', rfl, h1, hs, ?_, h2⟩
        have := (List.getElem?_eq_some_iff.mp hl).1
        rw [(am_set_some hs).2.1, List.length_set] at this
        exact this
theorem gl_is0 {v : Value} (x : am_is 0 v = true) : ∃ y, v = .int y := by
  cases v with
  | int y => exact ⟨y, rfl⟩
  | _ => cases x
theorem gl_is1 {v : Value} (x : am_is 1 v = true) : ∃ o, v = .ref o ∧ o ≠ am_fm := by
  cases v with
  | ref o =>
    refine ⟨o, rfl, fun q => ?_⟩
    subst q
    cases x
  | _ => cases x
theorem gl_is2 {v : Value} (x : am_is 2 v = true) : ∃ y, v = .long y := by
  cases v with
  | long y => exact ⟨y, rfl⟩
  | _ => cases x
theorem gl_cat {v : Value} (hv : fv = .null ∨ ∃ a, fv = .ref a) (x : am_lg v = false) : (am_val ad fv v).category = 1 := by
  rw [am_val_cat hv]
  cases v with
  | int y => rfl
  | ref y => rfl
  | null => rfl
  | _ => cases x
theorem gl_ii {pc' : Nat} {f : Int32 → Int32 → List Value → am_A} {A : am_A} (hA : A = (match st with | .int y :: .int x :: q => f x y q | _ => am_stuck)) (x : am_do P call next k pc len ls A = some r) : ∃ y x q, st = .int y :: .int x :: q ∧ am_do P call next k pc len ls (f x y q) = some r := by
  subst hA
  split at x
  · rename_i y x' q
    exact ⟨y, x', q, rfl, x⟩
  · exact gl_no x
theorem gl_i {f : Int32 → List Value → am_A} {A : am_A} (hA : A = (match st with | .int x :: q => f x q | _ => am_stuck)) (x : am_do P call next k pc len ls A = some r) : ∃ x q, st = .int x :: q ∧ am_do P call next k pc len ls (f x q) = some r := by
  subst hA
  split at x
  · rename_i x' q
    exact ⟨x', q, rfl, x⟩
  · exact gl_no x
theorem gl_ll {f : Int64 → Int64 → List Value → am_A} {A : am_A} (hA : A = (match st with | .long y :: .long x :: q => f x y q | _ => am_stuck)) (x : am_do P call next k pc len ls A = some r) : ∃ y x q, st = .long y :: .long x :: q ∧ am_do P call next k pc len ls (f x y q) = some r := by
  subst hA
  split at x
  · rename_i y x' q
    exact ⟨y, x', q, rfl, x⟩
  · exact gl_no x
theorem gl_il {f : Int64 → Int32 → List Value → am_A} {A : am_A} (hA : A = (match st with | .int y :: .long x :: q => f x y q | _ => am_stuck)) (x : am_do P call next k pc len ls A = some r) : ∃ y x q, st = .int y :: .long x :: q ∧ am_do P call next k pc len ls (f x y q) = some r := by
  subst hA
  split at x
  · rename_i y x' q
    exact ⟨y, x', q, rfl, x⟩
  · exact gl_no x
theorem st_iadd (F : am_Fr S k p s m meth c) (hn : ∀ pc ls st h, next pc ls st h = some r → am_c h0 ≤ am_c h → h0.1.2.2 ≤ h.1.2.2 → am_WG S ad fv dC dI k p l e R s m args below meth c h0 Q pc ls st h) (hc0 : am_c h0 ≤ am_c h) (hz0 : h0.1.2.2 ≤ h.1.2.2) (hd : decode (am_B k) pc = .ok (.iadd, 1)) (x : am_do P call next k pc 1 ls (am_opb (pc + 1) 0 ls st h) = some r) : am_WG S ad fv dC dI k p l e R s m args below meth c h0 Q pc ls st h := by
  obtain ⟨y, z, q, rfl, x⟩ := gl_ii (pc' := 0) rfl x
  exact fun H locs lr hr hl hf => lv_iadd F.1 F.2.1 hd (hn _ _ _ _ x hc0 hz0 H locs lr hr hl hf)
theorem st_isub (F : am_Fr S k p s m meth c) (hn : ∀ pc ls st h, next pc ls st h = some r → am_c h0 ≤ am_c h → h0.1.2.2 ≤ h.1.2.2 → am_WG S ad fv dC dI k p l e R s m args below meth c h0 Q pc ls st h) (hc0 : am_c h0 ≤ am_c h) (hz0 : h0.1.2.2 ≤ h.1.2.2) (hd : decode (am_B k) pc = .ok (.isub, 1)) (x : am_do P call next k pc 1 ls (am_opb (pc + 1) 1 ls st h) = some r) : am_WG S ad fv dC dI k p l e R s m args below meth c h0 Q pc ls st h := by
  obtain ⟨y, z, q, rfl, x⟩ := gl_ii (pc' := 0) rfl x
  exact fun H locs lr hr hl hf => lv_isub F.1 F.2.1 hd (hn _ _ _ _ x hc0 hz0 H locs lr hr hl hf)
theorem st_imul (F : am_Fr S k p s m meth c) (hn : ∀ pc ls st h, next pc ls st h = some r → am_c h0 ≤ am_c h → h0.1.2.2 ≤ h.1.2.2 → am_WG S ad fv dC dI k p l e R s m args below meth c h0 Q pc ls st h) (hc0 : am_c h0 ≤ am_c h) (hz0 : h0.1.2.2 ≤ h.1.2.2) (hd : decode (am_B k) pc = .ok (.imul, 1)) (x : am_do P call next k pc 1 ls (am_opb (pc + 1) 2 ls st h) = some r) : am_WG S ad fv dC dI k p l e R s m args below meth c h0 Q pc ls st h := by
  obtain ⟨y, z, q, rfl, x⟩ := gl_ii (pc' := 0) rfl x
  exact fun H locs lr hr hl hf => lv_imul F.1 F.2.1 hd (hn _ _ _ _ x hc0 hz0 H locs lr hr hl hf)
theorem st_iand (F : am_Fr S k p s m meth c) (hn : ∀ pc ls st h, next pc ls st h = some r → am_c h0 ≤ am_c h → h0.1.2.2 ≤ h.1.2.2 → am_WG S ad fv dC dI k p l e R s m args below meth c h0 Q pc ls st h) (hc0 : am_c h0 ≤ am_c h) (hz0 : h0.1.2.2 ≤ h.1.2.2) (hd : decode (am_B k) pc = .ok (.iand, 1)) (x : am_do P call next k pc 1 ls (am_opb (pc + 1) 3 ls st h) = some r) : am_WG S ad fv dC dI k p l e R s m args below meth c h0 Q pc ls st h := by
  obtain ⟨y, z, q, rfl, x⟩ := gl_ii (pc' := 0) rfl x
  exact fun H locs lr hr hl hf => lv_iand F.1 F.2.1 hd (hn _ _ _ _ x hc0 hz0 H locs lr hr hl hf)
theorem st_ior (F : am_Fr S k p s m meth c) (hn : ∀ pc ls st h, next pc ls st h = some r → am_c h0 ≤ am_c h → h0.1.2.2 ≤ h.1.2.2 → am_WG S ad fv dC dI k p l e R s m args below meth c h0 Q pc ls st h) (hc0 : am_c h0 ≤ am_c h) (hz0 : h0.1.2.2 ≤ h.1.2.2) (hd : decode (am_B k) pc = .ok (.ior, 1)) (x : am_do P call next k pc 1 ls (am_opb (pc + 1) 4 ls st h) = some r) : am_WG S ad fv dC dI k p l e R s m args below meth c h0 Q pc ls st h := by
  obtain ⟨y, z, q, rfl, x⟩ := gl_ii (pc' := 0) rfl x
  exact fun H locs lr hr hl hf => lv_ior F.1 F.2.1 hd (hn _ _ _ _ x hc0 hz0 H locs lr hr hl hf)
theorem st_ixor (F : am_Fr S k p s m meth c) (hn : ∀ pc ls st h, next pc ls st h = some r → am_c h0 ≤ am_c h → h0.1.2.2 ≤ h.1.2.2 → am_WG S ad fv dC dI k p l e R s m args below meth c h0 Q pc ls st h) (hc0 : am_c h0 ≤ am_c h) (hz0 : h0.1.2.2 ≤ h.1.2.2) (hd : decode (am_B k) pc = .ok (.ixor, 1)) (x : am_do P call next k pc 1 ls (am_opb (pc + 1) 5 ls st h) = some r) : am_WG S ad fv dC dI k p l e R s m args below meth c h0 Q pc ls st h := by
  obtain ⟨y, z, q, rfl, x⟩ := gl_ii (pc' := 0) rfl x
  exact fun H locs lr hr hl hf => lv_ixor F.1 F.2.1 hd (hn _ _ _ _ x hc0 hz0 H locs lr hr hl hf)
theorem st_ishl (F : am_Fr S k p s m meth c) (hn : ∀ pc ls st h, next pc ls st h = some r → am_c h0 ≤ am_c h → h0.1.2.2 ≤ h.1.2.2 → am_WG S ad fv dC dI k p l e R s m args below meth c h0 Q pc ls st h) (hc0 : am_c h0 ≤ am_c h) (hz0 : h0.1.2.2 ≤ h.1.2.2) (hd : decode (am_B k) pc = .ok (.ishl, 1)) (x : am_do P call next k pc 1 ls (am_opb (pc + 1) 6 ls st h) = some r) : am_WG S ad fv dC dI k p l e R s m args below meth c h0 Q pc ls st h := by
  obtain ⟨y, z, q, rfl, x⟩ := gl_ii (pc' := 0) rfl x
  exact fun H locs lr hr hl hf => lv_ishl F.1 F.2.1 hd (hn _ _ _ _ x hc0 hz0 H locs lr hr hl hf)
theorem st_ishr (F : am_Fr S k p s m meth c) (hn : ∀ pc ls st h, next pc ls st h = some r → am_c h0 ≤ am_c h → h0.1.2.2 ≤ h.1.2.2 → am_WG S ad fv dC dI k p l e R s m args below meth c h0 Q pc ls st h) (hc0 : am_c h0 ≤ am_c h) (hz0 : h0.1.2.2 ≤ h.1.2.2) (hd : decode (am_B k) pc = .ok (.ishr, 1)) (x : am_do P call next k pc 1 ls (am_opb (pc + 1) 7 ls st h) = some r) : am_WG S ad fv dC dI k p l e R s m args below meth c h0 Q pc ls st h := by
  obtain ⟨y, z, q, rfl, x⟩ := gl_ii (pc' := 0) rfl x
  exact fun H locs lr hr hl hf => lv_ishr F.1 F.2.1 hd (hn _ _ _ _ x hc0 hz0 H locs lr hr hl hf)
theorem st_iushr (F : am_Fr S k p s m meth c) (hn : ∀ pc ls st h, next pc ls st h = some r → am_c h0 ≤ am_c h → h0.1.2.2 ≤ h.1.2.2 → am_WG S ad fv dC dI k p l e R s m args below meth c h0 Q pc ls st h) (hc0 : am_c h0 ≤ am_c h) (hz0 : h0.1.2.2 ≤ h.1.2.2) (hd : decode (am_B k) pc = .ok (.iushr, 1)) (x : am_do P call next k pc 1 ls (am_opb (pc + 1) 8 ls st h) = some r) : am_WG S ad fv dC dI k p l e R s m args below meth c h0 Q pc ls st h := by
  obtain ⟨y, z, q, rfl, x⟩ := gl_ii (pc' := 0) rfl x
  exact fun H locs lr hr hl hf => lv_iushr F.1 F.2.1 hd rfl (hn _ _ _ _ x hc0 hz0 H locs lr hr hl hf)
theorem st_idiv (F : am_Fr S k p s m meth c) (hn : ∀ pc ls st h, next pc ls st h = some r → am_c h0 ≤ am_c h → h0.1.2.2 ≤ h.1.2.2 → am_WG S ad fv dC dI k p l e R s m args below meth c h0 Q pc ls st h) (hc0 : am_c h0 ≤ am_c h) (hz0 : h0.1.2.2 ≤ h.1.2.2) (hd : decode (am_B k) pc = .ok (.idiv, 1)) (x : am_do P call next k pc 1 ls (am_div (pc + 1) 0 ls st h) = some r) : am_WG S ad fv dC dI k p l e R s m args below meth c h0 Q pc ls st h := by
  obtain ⟨y, z, q, rfl, x⟩ := gl_ii (pc' := 0) rfl x
  obtain ⟨g, x⟩ := gl_gd x
  have g : ¬ y = 0 := by
    intro e
    rw [decide_eq_true e] at g
    cases g
  exact fun H locs lr hr hl hf => lv_idiv F.1 F.2.1 hd g (hn _ _ _ _ x hc0 hz0 H locs lr hr hl hf)
theorem st_irem (F : am_Fr S k p s m meth c) (hn : ∀ pc ls st h, next pc ls st h = some r → am_c h0 ≤ am_c h → h0.1.2.2 ≤ h.1.2.2 → am_WG S ad fv dC dI k p l e R s m args below meth c h0 Q pc ls st h) (hc0 : am_c h0 ≤ am_c h) (hz0 : h0.1.2.2 ≤ h.1.2.2) (hd : decode (am_B k) pc = .ok (.irem, 1)) (x : am_do P call next k pc 1 ls (am_div (pc + 1) 1 ls st h) = some r) : am_WG S ad fv dC dI k p l e R s m args below meth c h0 Q pc ls st h := by
  obtain ⟨y, z, q, rfl, x⟩ := gl_ii (pc' := 0) rfl x
  obtain ⟨g, x⟩ := gl_gd x
  have g : ¬ y = 0 := by
    intro e
    rw [decide_eq_true e] at g
    cases g
  exact fun H locs lr hr hl hf => lv_irem F.1 F.2.1 hd g (hn _ _ _ _ x hc0 hz0 H locs lr hr hl hf)
theorem st_ineg (F : am_Fr S k p s m meth c) (hn : ∀ pc ls st h, next pc ls st h = some r → am_c h0 ≤ am_c h → h0.1.2.2 ≤ h.1.2.2 → am_WG S ad fv dC dI k p l e R s m args below meth c h0 Q pc ls st h) (hc0 : am_c h0 ≤ am_c h) (hz0 : h0.1.2.2 ≤ h.1.2.2) (hd : decode (am_B k) pc = .ok (.ineg, 1)) (x : am_do P call next k pc 1 ls (am_opu (pc + 1) 0 ls st h) = some r) : am_WG S ad fv dC dI k p l e R s m args below meth c h0 Q pc ls st h := by
  obtain ⟨z, q, rfl, x⟩ := gl_i rfl x
  exact fun H locs lr hr hl hf => lv_ineg F.1 F.2.1 hd (hn _ _ _ _ x hc0 hz0 H locs lr hr hl hf)
theorem st_i2b (F : am_Fr S k p s m meth c) (hn : ∀ pc ls st h, next pc ls st h = some r → am_c h0 ≤ am_c h → h0.1.2.2 ≤ h.1.2.2 → am_WG S ad fv dC dI k p l e R s m args below meth c h0 Q pc ls st h) (hc0 : am_c h0 ≤ am_c h) (hz0 : h0.1.2.2 ≤ h.1.2.2) (hd : decode (am_B k) pc = .ok (.i2b, 1)) (x : am_do P call next k pc 1 ls (am_opu (pc + 1) 1 ls st h) = some r) : am_WG S ad fv dC dI k p l e R s m args below meth c h0 Q pc ls st h := by
  obtain ⟨z, q, rfl, x⟩ := gl_i rfl x
  exact fun H locs lr hr hl hf => lv_i2b F.1 F.2.1 hd rfl (hn _ _ _ _ x hc0 hz0 H locs lr hr hl hf)
theorem st_i2c (F : am_Fr S k p s m meth c) (hn : ∀ pc ls st h, next pc ls st h = some r → am_c h0 ≤ am_c h → h0.1.2.2 ≤ h.1.2.2 → am_WG S ad fv dC dI k p l e R s m args below meth c h0 Q pc ls st h) (hc0 : am_c h0 ≤ am_c h) (hz0 : h0.1.2.2 ≤ h.1.2.2) (hd : decode (am_B k) pc = .ok (.i2c, 1)) (x : am_do P call next k pc 1 ls (am_opu (pc + 1) 2 ls st h) = some r) : am_WG S ad fv dC dI k p l e R s m args below meth c h0 Q pc ls st h := by
  obtain ⟨z, q, rfl, x⟩ := gl_i rfl x
  exact fun H locs lr hr hl hf => lv_i2c F.1 F.2.1 hd rfl (hn _ _ _ _ x hc0 hz0 H locs lr hr hl hf)
theorem st_i2l (F : am_Fr S k p s m meth c) (hn : ∀ pc ls st h, next pc ls st h = some r → am_c h0 ≤ am_c h → h0.1.2.2 ≤ h.1.2.2 → am_WG S ad fv dC dI k p l e R s m args below meth c h0 Q pc ls st h) (hc0 : am_c h0 ≤ am_c h) (hz0 : h0.1.2.2 ≤ h.1.2.2) (hd : decode (am_B k) pc = .ok (.i2l, 1)) (x : am_do P call next k pc 1 ls (am_conv (pc + 1) 0 ls st h) = some r) : am_WG S ad fv dC dI k p l e R s m args below meth c h0 Q pc ls st h := by
  unfold am_conv at x
  split at x
  · exact fun H locs lr hr hl hf => lv_i2l F.1 F.2.1 hd rfl (hn _ _ _ _ x hc0 hz0 H locs lr hr hl hf)
  · exfalso
    omega
  · exact gl_no x
theorem st_l2i (F : am_Fr S k p s m meth c) (hn : ∀ pc ls st h, next pc ls st h = some r → am_c h0 ≤ am_c h → h0.1.2.2 ≤ h.1.2.2 → am_WG S ad fv dC dI k p l e R s m args below meth c h0 Q pc ls st h) (hc0 : am_c h0 ≤ am_c h) (hz0 : h0.1.2.2 ≤ h.1.2.2) (hd : decode (am_B k) pc = .ok (.l2i, 1)) (x : am_do P call next k pc 1 ls (am_conv (pc + 1) 1 ls st h) = some r) : am_WG S ad fv dC dI k p l e R s m args below meth c h0 Q pc ls st h := by
  unfold am_conv at x
  split at x
  · exfalso
    omega
  · exact fun H locs lr hr hl hf => lv_l2i F.1 F.2.1 hd rfl (hn _ _ _ _ x hc0 hz0 H locs lr hr hl hf)
  · exact gl_no x
theorem st_ladd (F : am_Fr S k p s m meth c) (hn : ∀ pc ls st h, next pc ls st h = some r → am_c h0 ≤ am_c h → h0.1.2.2 ≤ h.1.2.2 → am_WG S ad fv dC dI k p l e R s m args below meth c h0 Q pc ls st h) (hc0 : am_c h0 ≤ am_c h) (hz0 : h0.1.2.2 ≤ h.1.2.2) (hd : decode (am_B k) pc = .ok (.ladd, 1)) (x : am_do P call next k pc 1 ls (am_opl (pc + 1) 0 ls st h) = some r) : am_WG S ad fv dC dI k p l e R s m args below meth c h0 Q pc ls st h := by
  obtain ⟨y, z, q, rfl, x⟩ := gl_ll rfl x
  exact fun H locs lr hr hl hf => lv_ladd F.1 F.2.1 hd (hn _ _ _ _ x hc0 hz0 H locs lr hr hl hf)
theorem st_lsub (F : am_Fr S k p s m meth c) (hn : ∀ pc ls st h, next pc ls st h = some r → am_c h0 ≤ am_c h → h0.1.2.2 ≤ h.1.2.2 → am_WG S ad fv dC dI k p l e R s m args below meth c h0 Q pc ls st h) (hc0 : am_c h0 ≤ am_c h) (hz0 : h0.1.2.2 ≤ h.1.2.2) (hd : decode (am_B k) pc = .ok (.lsub, 1)) (x : am_do P call next k pc 1 ls (am_opl (pc + 1) 1 ls st h) = some r) : am_WG S ad fv dC dI k p l e R s m args below meth c h0 Q pc ls st h := by
  obtain ⟨y, z, q, rfl, x⟩ := gl_ll rfl x
  exact fun H locs lr hr hl hf => lv_lsub F.1 F.2.1 hd (hn _ _ _ _ x hc0 hz0 H locs lr hr hl hf)
theorem st_land (F : am_Fr S k p s m meth c) (hn : ∀ pc ls st h, next pc ls st h = some r → am_c h0 ≤ am_c h → h0.1.2.2 ≤ h.1.2.2 → am_WG S ad fv dC dI k p l e R s m args below meth c h0 Q pc ls st h) (hc0 : am_c h0 ≤ am_c h) (hz0 : h0.1.2.2 ≤ h.1.2.2) (hd : decode (am_B k) pc = .ok (.land, 1)) (x : am_do P call next k pc 1 ls (am_opl (pc + 1) 2 ls st h) = some r) : am_WG S ad fv dC dI k p l e R s m args below meth c h0 Q pc ls st h := by
  obtain ⟨y, z, q, rfl, x⟩ := gl_ll rfl x
  exact fun H locs lr hr hl hf => lv_land F.1 F.2.1 hd (hn _ _ _ _ x hc0 hz0 H locs lr hr hl hf)
theorem st_lor (F : am_Fr S k p s m meth c) (hn : ∀ pc ls st h, next pc ls st h = some r → am_c h0 ≤ am_c h → h0.1.2.2 ≤ h.1.2.2 → am_WG S ad fv dC dI k p l e R s m args below meth c h0 Q pc ls st h) (hc0 : am_c h0 ≤ am_c h) (hz0 : h0.1.2.2 ≤ h.1.2.2) (hd : decode (am_B k) pc = .ok (.lor, 1)) (x : am_do P call next k pc 1 ls (am_opl (pc + 1) 3 ls st h) = some r) : am_WG S ad fv dC dI k p l e R s m args below meth c h0 Q pc ls st h := by
  obtain ⟨y, z, q, rfl, x⟩ := gl_ll rfl x
  exact fun H locs lr hr hl hf => lv_lor F.1 F.2.1 hd (hn _ _ _ _ x hc0 hz0 H locs lr hr hl hf)
theorem st_lshl (F : am_Fr S k p s m meth c) (hn : ∀ pc ls st h, next pc ls st h = some r → am_c h0 ≤ am_c h → h0.1.2.2 ≤ h.1.2.2 → am_WG S ad fv dC dI k p l e R s m args below meth c h0 Q pc ls st h) (hc0 : am_c h0 ≤ am_c h) (hz0 : h0.1.2.2 ≤ h.1.2.2) (hd : decode (am_B k) pc = .ok (.lshl, 1)) (x : am_do P call next k pc 1 ls (am_opsl (pc + 1) 0 ls st h) = some r) : am_WG S ad fv dC dI k p l e R s m args below meth c h0 Q pc ls st h := by
  obtain ⟨y, z, q, rfl, x⟩ := gl_il rfl x
  exact fun H locs lr hr hl hf => lv_lshl F.1 F.2.1 hd rfl (hn _ _ _ _ x hc0 hz0 H locs lr hr hl hf)
theorem st_lushr (F : am_Fr S k p s m meth c) (hn : ∀ pc ls st h, next pc ls st h = some r → am_c h0 ≤ am_c h → h0.1.2.2 ≤ h.1.2.2 → am_WG S ad fv dC dI k p l e R s m args below meth c h0 Q pc ls st h) (hc0 : am_c h0 ≤ am_c h) (hz0 : h0.1.2.2 ≤ h.1.2.2) (hd : decode (am_B k) pc = .ok (.lushr, 1)) (x : am_do P call next k pc 1 ls (am_opsl (pc + 1) 1 ls st h) = some r) : am_WG S ad fv dC dI k p l e R s m args below meth c h0 Q pc ls st h := by
  obtain ⟨y, z, q, rfl, x⟩ := gl_il rfl x
  exact fun H locs lr hr hl hf => lv_lushr F.1 F.2.1 hd rfl (hn _ _ _ _ x hc0 hz0 H locs lr hr hl hf)
theorem st_lcmp (F : am_Fr S k p s m meth c) (hn : ∀ pc ls st h, next pc ls st h = some r → am_c h0 ≤ am_c h → h0.1.2.2 ≤ h.1.2.2 → am_WG S ad fv dC dI k p l e R s m args below meth c h0 Q pc ls st h) (hc0 : am_c h0 ≤ am_c h) (hz0 : h0.1.2.2 ≤ h.1.2.2) (hd : decode (am_B k) pc = .ok (.lcmp, 1)) (x : am_do P call next k pc 1 ls (am_olc (pc + 1) ls st h) = some r) : am_WG S ad fv dC dI k p l e R s m args below meth c h0 Q pc ls st h := by
  obtain ⟨y, z, q, rfl, x⟩ := gl_ll rfl x
  exact fun H locs lr hr hl hf => W.lcmp F.1 F.2.1 hd (hn _ _ _ _ x hc0 hz0 H locs lr hr hl hf)
theorem st_pop (hv : fv = .null ∨ ∃ a, fv = .ref a) (F : am_Fr S k p s m meth c) (hn : ∀ pc ls st h, next pc ls st h = some r → am_c h0 ≤ am_c h → h0.1.2.2 ≤ h.1.2.2 → am_WG S ad fv dC dI k p l e R s m args below meth c h0 Q pc ls st h) (hc0 : am_c h0 ≤ am_c h) (hz0 : h0.1.2.2 ≤ h.1.2.2) (hd : decode (am_B k) pc = .ok (.pop, 1)) (x : am_do P call next k pc 1 ls (am_stk (pc + 1) 0 ls st h) = some r) : am_WG S ad fv dC dI k p l e R s m args below meth c h0 Q pc ls st h := by
  cases st with
  | nil => exact gl_no x
  | cons v q =>
    obtain ⟨g, x⟩ := gl_condN (A := am_nx (pc + 1) ls q h) x
    exact fun H locs lr hr hl hf => lv_pop F.1 F.2.1 hd (gl_cat hv g) (hn _ _ _ _ x hc0 hz0 H locs lr hr hl hf)
theorem st_dup (hv : fv = .null ∨ ∃ a, fv = .ref a) (F : am_Fr S k p s m meth c) (hn : ∀ pc ls st h, next pc ls st h = some r → am_c h0 ≤ am_c h → h0.1.2.2 ≤ h.1.2.2 → am_WG S ad fv dC dI k p l e R s m args below meth c h0 Q pc ls st h) (hc0 : am_c h0 ≤ am_c h) (hz0 : h0.1.2.2 ≤ h.1.2.2) (hd : decode (am_B k) pc = .ok (.dup, 1)) (x : am_do P call next k pc 1 ls (am_stk (pc + 1) 1 ls st h) = some r) : am_WG S ad fv dC dI k p l e R s m args below meth c h0 Q pc ls st h := by
  cases st with
  | nil => exact gl_no x
  | cons v q =>
    obtain ⟨g, x⟩ := gl_condN (A := am_nx (pc + 1) ls (v :: v :: q) h) x
    exact fun H locs lr hr hl hf => lv_dup F.1 F.2.1 hd (gl_cat hv g) (hn _ _ _ _ x hc0 hz0 H locs lr hr hl hf)
theorem st_dup2 (hv : fv = .null ∨ ∃ a, fv = .ref a) (F : am_Fr S k p s m meth c) (hn : ∀ pc ls st h, next pc ls st h = some r → am_c h0 ≤ am_c h → h0.1.2.2 ≤ h.1.2.2 → am_WG S ad fv dC dI k p l e R s m args below meth c h0 Q pc ls st h) (hc0 : am_c h0 ≤ am_c h) (hz0 : h0.1.2.2 ≤ h.1.2.2) (hd : decode (am_B k) pc = .ok (.dup2, 1)) (x : am_do P call next k pc 1 ls (am_stk (pc + 1) 2 ls st h) = some r) : am_WG S ad fv dC dI k p l e R s m args below meth c h0 Q pc ls st h := by
  match st, x with
  | [], x => exact gl_no x
  | [_], x => exact gl_no x
  | v :: w :: q, x =>
    obtain ⟨g, x⟩ := gl_condN (A := am_nx (pc + 1) ls (v :: w :: v :: w :: q) h) x
    rw [Bool.or_eq_false_iff] at g
    exact fun H locs lr hr hl hf => lv_dup2_11 F.1 F.2.1 hd (gl_cat hv g.1) (gl_cat hv g.2) (hn _ _ _ _ x hc0 hz0 H locs lr hr hl hf)
theorem st_icmp_eq (F : am_Fr S k p s m meth c) (hn : ∀ pc ls st h, next pc ls st h = some r → am_c h0 ≤ am_c h → h0.1.2.2 ≤ h.1.2.2 → am_WG S ad fv dC dI k p l e R s m args below meth c h0 Q pc ls st h) (hc0 : am_c h0 ≤ am_c h) (hz0 : h0.1.2.2 ≤ h.1.2.2) {off : Int} {tgt : Nat} (hd : decode (am_B k) pc = .ok (.if_icmp .eq off, 3)) (ht : (pc : Int) + off = (tgt : Int)) (x : am_do P call next k pc 3 ls (am_ic (pc + 3) 0 tgt ls st h) = some r) : am_WG S ad fv dC dI k p l e R s m args below meth c h0 Q pc ls st h := by
  obtain ⟨y, z, q, rfl, x⟩ := gl_ii (pc' := 0) rfl x
  have x : cond (decide (z = y)) (next (tgt) ls q h) (next (pc + 3) ls q h) = some r := x
  exact fun H locs lr hr hl hf => lv_icmp_eq F.1 F.2.1 hd ht (fun g => by rw [decide_eq_true g] at x; exact hn _ _ _ _ x hc0 hz0 H locs lr hr hl hf) (fun g => by rw [decide_eq_false g] at x; exact hn _ _ _ _ x hc0 hz0 H locs lr hr hl hf)
theorem st_icmp_ne (F : am_Fr S k p s m meth c) (hn : ∀ pc ls st h, next pc ls st h = some r → am_c h0 ≤ am_c h → h0.1.2.2 ≤ h.1.2.2 → am_WG S ad fv dC dI k p l e R s m args below meth c h0 Q pc ls st h) (hc0 : am_c h0 ≤ am_c h) (hz0 : h0.1.2.2 ≤ h.1.2.2) {off : Int} {tgt : Nat} (hd : decode (am_B k) pc = .ok (.if_icmp .ne off, 3)) (ht : (pc : Int) + off = (tgt : Int)) (x : am_do P call next k pc 3 ls (am_ic (pc + 3) 1 tgt ls st h) = some r) : am_WG S ad fv dC dI k p l e R s m args below meth c h0 Q pc ls st h := by
  obtain ⟨y, z, q, rfl, x⟩ := gl_ii (pc' := 0) rfl x
  have x : cond (decide (z = y)) (next (pc + 3) ls q h) (next (tgt) ls q h) = some r := x
  exact fun H locs lr hr hl hf => lv_icmp_ne F.1 F.2.1 hd ht (fun g => by rw [decide_eq_false g] at x; exact hn _ _ _ _ x hc0 hz0 H locs lr hr hl hf) (fun g => by rw [decide_eq_true g] at x; exact hn _ _ _ _ x hc0 hz0 H locs lr hr hl hf)
theorem st_icmp_lt (F : am_Fr S k p s m meth c) (hn : ∀ pc ls st h, next pc ls st h = some r → am_c h0 ≤ am_c h → h0.1.2.2 ≤ h.1.2.2 → am_WG S ad fv dC dI k p l e R s m args below meth c h0 Q pc ls st h) (hc0 : am_c h0 ≤ am_c h) (hz0 : h0.1.2.2 ≤ h.1.2.2) {off : Int} {tgt : Nat} (hd : decode (am_B k) pc = .ok (.if_icmp .lt off, 3)) (ht : (pc : Int) + off = (tgt : Int)) (x : am_do P call next k pc 3 ls (am_ic (pc + 3) 2 tgt ls st h) = some r) : am_WG S ad fv dC dI k p l e R s m args below meth c h0 Q pc ls st h := by
  obtain ⟨y, z, q, rfl, x⟩ := gl_ii (pc' := 0) rfl x
  have x : cond (decide (z < y)) (next (tgt) ls q h) (next (pc + 3) ls q h) = some r := x
  exact fun H locs lr hr hl hf => lv_icmp_lt F.1 F.2.1 hd ht (fun g => by rw [decide_eq_true g] at x; exact hn _ _ _ _ x hc0 hz0 H locs lr hr hl hf) (fun g => by rw [decide_eq_false g] at x; exact hn _ _ _ _ x hc0 hz0 H locs lr hr hl hf)
theorem st_icmp_ge (F : am_Fr S k p s m meth c) (hn : ∀ pc ls st h, next pc ls st h = some r → am_c h0 ≤ am_c h → h0.1.2.2 ≤ h.1.2.2 → am_WG S ad fv dC dI k p l e R s m args below meth c h0 Q pc ls st h) (hc0 : am_c h0 ≤ am_c h) (hz0 : h0.1.2.2 ≤ h.1.2.2) {off : Int} {tgt : Nat} (hd : decode (am_B k) pc = .ok (.if_icmp .ge off, 3)) (ht : (pc : Int) + off = (tgt : Int)) (x : am_do P call next k pc 3 ls (am_ic (pc + 3) 3 tgt ls st h) = some r) : am_WG S ad fv dC dI k p l e R s m args below meth c h0 Q pc ls st h := by
  obtain ⟨y, z, q, rfl, x⟩ := gl_ii (pc' := 0) rfl x
  have x : cond (decide (y ≤ z)) (next (tgt) ls q h) (next (pc + 3) ls q h) = some r := x
  exact fun H locs lr hr hl hf => lv_icmp_ge F.1 F.2.1 hd ht (fun g => by rw [decide_eq_true g] at x; exact hn _ _ _ _ x hc0 hz0 H locs lr hr hl hf) (fun g => by rw [decide_eq_false g] at x; exact hn _ _ _ _ x hc0 hz0 H locs lr hr hl hf)
theorem st_icmp_gt (F : am_Fr S k p s m meth c) (hn : ∀ pc ls st h, next pc ls st h = some r → am_c h0 ≤ am_c h → h0.1.2.2 ≤ h.1.2.2 → am_WG S ad fv dC dI k p l e R s m args below meth c h0 Q pc ls st h) (hc0 : am_c h0 ≤ am_c h) (hz0 : h0.1.2.2 ≤ h.1.2.2) {off : Int} {tgt : Nat} (hd : decode (am_B k) pc = .ok (.if_icmp .gt off, 3)) (ht : (pc : Int) + off = (tgt : Int)) (x : am_do P call next k pc 3 ls (am_ic (pc + 3) 4 tgt ls st h) = some r) : am_WG S ad fv dC dI k p l e R s m args below meth c h0 Q pc ls st h := by
  obtain ⟨y, z, q, rfl, x⟩ := gl_ii (pc' := 0) rfl x
  have x : cond (decide (y < z)) (next (tgt) ls q h) (next (pc + 3) ls q h) = some r := x
  exact fun H locs lr hr hl hf => lv_icmp_gt F.1 F.2.1 hd ht (fun g => by rw [decide_eq_true g] at x; exact hn _ _ _ _ x hc0 hz0 H locs lr hr hl hf) (fun g => by rw [decide_eq_false g] at x; exact hn _ _ _ _ x hc0 hz0 H locs lr hr hl hf)
theorem st_icmp_le (F : am_Fr S k p s m meth c) (hn : ∀ pc ls st h, next pc ls st h = some r → am_c h0 ≤ am_c h → h0.1.2.2 ≤ h.1.2.2 → am_WG S ad fv dC dI k p l e R s m args below meth c h0 Q pc ls st h) (hc0 : am_c h0 ≤ am_c h) (hz0 : h0.1.2.2 ≤ h.1.2.2) {off : Int} {tgt : Nat} (hd : decode (am_B k) pc = .ok (.if_icmp .le off, 3)) (ht : (pc : Int) + off = (tgt : Int)) (x : am_do P call next k pc 3 ls (am_ic (pc + 3) 5 tgt ls st h) = some r) : am_WG S ad fv dC dI k p l e R s m args below meth c h0 Q pc ls st h := by
  obtain ⟨y, z, q, rfl, x⟩ := gl_ii (pc' := 0) rfl x
  have x : cond (decide (z ≤ y)) (next (tgt) ls q h) (next (pc + 3) ls q h) = some r := x
  exact fun H locs lr hr hl hf => lv_icmp_le F.1 F.2.1 hd ht (fun g => by rw [decide_eq_true g] at x; exact hn _ _ _ _ x hc0 hz0 H locs lr hr hl hf) (fun g => by rw [decide_eq_false g] at x; exact hn _ _ _ _ x hc0 hz0 H locs lr hr hl hf)
theorem st_if_eq (F : am_Fr S k p s m meth c) (hn : ∀ pc ls st h, next pc ls st h = some r → am_c h0 ≤ am_c h → h0.1.2.2 ≤ h.1.2.2 → am_WG S ad fv dC dI k p l e R s m args below meth c h0 Q pc ls st h) (hc0 : am_c h0 ≤ am_c h) (hz0 : h0.1.2.2 ≤ h.1.2.2) {off : Int} {tgt : Nat} (hd : decode (am_B k) pc = .ok (.ifCond .eq off, 3)) (ht : (pc : Int) + off = (tgt : Int)) (x : am_do P call next k pc 3 ls (am_iz (pc + 3) 0 tgt ls st h) = some r) : am_WG S ad fv dC dI k p l e R s m args below meth c h0 Q pc ls st h := by
  obtain ⟨z, q, rfl, x⟩ := gl_i rfl x
  have x : cond (decide (z = 0)) (next (tgt) ls q h) (next (pc + 3) ls q h) = some r := x
  exact fun H locs lr hr hl hf => lv_if_eq F.1 F.2.1 hd ht (fun g => by rw [decide_eq_true g] at x; exact hn _ _ _ _ x hc0 hz0 H locs lr hr hl hf) (fun g => by rw [decide_eq_false g] at x; exact hn _ _ _ _ x hc0 hz0 H locs lr hr hl hf)
theorem st_if_ne (F : am_Fr S k p s m meth c) (hn : ∀ pc ls st h, next pc ls st h = some r → am_c h0 ≤ am_c h → h0.1.2.2 ≤ h.1.2.2 → am_WG S ad fv dC dI k p l e R s m args below meth c h0 Q pc ls st h) (hc0 : am_c h0 ≤ am_c h) (hz0 : h0.1.2.2 ≤ h.1.2.2) {off : Int} {tgt : Nat} (hd : decode (am_B k) pc = .ok (.ifCond .ne off, 3)) (ht : (pc : Int) + off = (tgt : Int)) (x : am_do P call next k pc 3 ls (am_iz (pc + 3) 1 tgt ls st h) = some r) : am_WG S ad fv dC dI k p l e R s m args below meth c h0 Q pc ls st h := by
  obtain ⟨z, q, rfl, x⟩ := gl_i rfl x
  have x : cond (decide (z = 0)) (next (pc + 3) ls q h) (next (tgt) ls q h) = some r := x
  exact fun H locs lr hr hl hf => lv_if_ne F.1 F.2.1 hd ht (fun g => by rw [decide_eq_false g] at x; exact hn _ _ _ _ x hc0 hz0 H locs lr hr hl hf) (fun g => by rw [decide_eq_true g] at x; exact hn _ _ _ _ x hc0 hz0 H locs lr hr hl hf)
theorem st_if_lt (F : am_Fr S k p s m meth c) (hn : ∀ pc ls st h, next pc ls st h = some r → am_c h0 ≤ am_c h → h0.1.2.2 ≤ h.1.2.2 → am_WG S ad fv dC dI k p l e R s m args below meth c h0 Q pc ls st h) (hc0 : am_c h0 ≤ am_c h) (hz0 : h0.1.2.2 ≤ h.1.2.2) {off : Int} {tgt : Nat} (hd : decode (am_B k) pc = .ok (.ifCond .lt off, 3)) (ht : (pc : Int) + off = (tgt : Int)) (x : am_do P call next k pc 3 ls (am_iz (pc + 3) 2 tgt ls st h) = some r) : am_WG S ad fv dC dI k p l e R s m args below meth c h0 Q pc ls st h := by
  obtain ⟨z, q, rfl, x⟩ := gl_i rfl x
  have x : cond (decide (z < 0)) (next (tgt) ls q h) (next (pc + 3) ls q h) = some r := x
  exact fun H locs lr hr hl hf => lv_if_lt F.1 F.2.1 hd ht (fun g => by rw [decide_eq_true g] at x; exact hn _ _ _ _ x hc0 hz0 H locs lr hr hl hf) (fun g => by rw [decide_eq_false g] at x; exact hn _ _ _ _ x hc0 hz0 H locs lr hr hl hf)
theorem st_if_ge (F : am_Fr S k p s m meth c) (hn : ∀ pc ls st h, next pc ls st h = some r → am_c h0 ≤ am_c h → h0.1.2.2 ≤ h.1.2.2 → am_WG S ad fv dC dI k p l e R s m args below meth c h0 Q pc ls st h) (hc0 : am_c h0 ≤ am_c h) (hz0 : h0.1.2.2 ≤ h.1.2.2) {off : Int} {tgt : Nat} (hd : decode (am_B k) pc = .ok (.ifCond .ge off, 3)) (ht : (pc : Int) + off = (tgt : Int)) (x : am_do P call next k pc 3 ls (am_iz (pc + 3) 3 tgt ls st h) = some r) : am_WG S ad fv dC dI k p l e R s m args below meth c h0 Q pc ls st h := by
  obtain ⟨z, q, rfl, x⟩ := gl_i rfl x
  have x : cond (decide (0 ≤ z)) (next (tgt) ls q h) (next (pc + 3) ls q h) = some r := x
  exact fun H locs lr hr hl hf => lv_if_ge F.1 F.2.1 hd ht (fun g => by rw [decide_eq_true g] at x; exact hn _ _ _ _ x hc0 hz0 H locs lr hr hl hf) (fun g => by rw [decide_eq_false g] at x; exact hn _ _ _ _ x hc0 hz0 H locs lr hr hl hf)
theorem st_if_gt (F : am_Fr S k p s m meth c) (hn : ∀ pc ls st h, next pc ls st h = some r → am_c h0 ≤ am_c h → h0.1.2.2 ≤ h.1.2.2 → am_WG S ad fv dC dI k p l e R s m args below meth c h0 Q pc ls st h) (hc0 : am_c h0 ≤ am_c h) (hz0 : h0.1.2.2 ≤ h.1.2.2) {off : Int} {tgt : Nat} (hd : decode (am_B k) pc = .ok (.ifCond .gt off, 3)) (ht : (pc : Int) + off = (tgt : Int)) (x : am_do P call next k pc 3 ls (am_iz (pc + 3) 4 tgt ls st h) = some r) : am_WG S ad fv dC dI k p l e R s m args below meth c h0 Q pc ls st h := by
  obtain ⟨z, q, rfl, x⟩ := gl_i rfl x
  have x : cond (decide (0 < z)) (next (tgt) ls q h) (next (pc + 3) ls q h) = some r := x
  exact fun H locs lr hr hl hf => lv_if_gt F.1 F.2.1 hd ht (fun g => by rw [decide_eq_true g] at x; exact hn _ _ _ _ x hc0 hz0 H locs lr hr hl hf) (fun g => by rw [decide_eq_false g] at x; exact hn _ _ _ _ x hc0 hz0 H locs lr hr hl hf)
theorem st_if_le (F : am_Fr S k p s m meth c) (hn : ∀ pc ls st h, next pc ls st h = some r → am_c h0 ≤ am_c h → h0.1.2.2 ≤ h.1.2.2 → am_WG S ad fv dC dI k p l e R s m args below meth c h0 Q pc ls st h) (hc0 : am_c h0 ≤ am_c h) (hz0 : h0.1.2.2 ≤ h.1.2.2) {off : Int} {tgt : Nat} (hd : decode (am_B k) pc = .ok (.ifCond .le off, 3)) (ht : (pc : Int) + off = (tgt : Int)) (x : am_do P call next k pc 3 ls (am_iz (pc + 3) 5 tgt ls st h) = some r) : am_WG S ad fv dC dI k p l e R s m args below meth c h0 Q pc ls st h := by
  obtain ⟨z, q, rfl, x⟩ := gl_i rfl x
  have x : cond (decide (z ≤ 0)) (next (tgt) ls q h) (next (pc + 3) ls q h) = some r := x
  exact fun H locs lr hr hl hf => lv_if_le F.1 F.2.1 hd ht (fun g => by rw [decide_eq_true g] at x; exact hn _ _ _ _ x hc0 hz0 H locs lr hr hl hf) (fun g => by rw [decide_eq_false g] at x; exact hn _ _ _ _ x hc0 hz0 H locs lr hr hl hf)
theorem st_look (F : am_Fr S k p s m meth c) (hn : ∀ pc ls st h, next pc ls st h = some r → am_c h0 ≤ am_c h → h0.1.2.2 ≤ h.1.2.2 → am_WG S ad fv dC dI k p l e R s m args below meth c h0 Q pc ls st h) (hc0 : am_c h0 ≤ am_c h) (hz0 : h0.1.2.2 ≤ h.1.2.2) {df : Int} {ps : Array (Int × Int)} {d : Nat} {sw : List (Int32 × Nat)} (hd : decode (am_B k) pc = .ok (.lookupswitch df ps, len)) (hp : (ps.toList.zip (ps.toList.drop 1)).all (fun (a, next) => a.1 < next.1) = true) (h1 : (pc : Int) + df = (d : Int)) (h2 : am_lkok pc ps.toList sw = true) (x : am_do P call next k pc len ls (am_swi d sw ls st h) = some r) : am_WG S ad fv dC dI k p l e R s m args below meth c h0 Q pc ls st h := by
  obtain ⟨z, q, rfl, x⟩ := gl_i rfl x
  have x : am_sw next z d ls q h sw = some r := x
  rw [am_sw_tg] at x
  exact so_lookup F hd hp h1 h2 (hn _ _ _ _ x hc0 hz0)
theorem st_tabl (F : am_Fr S k p s m meth c) (hn : ∀ pc ls st h, next pc ls st h = some r → am_c h0 ≤ am_c h → h0.1.2.2 ≤ h.1.2.2 → am_WG S ad fv dC dI k p l e R s m args below meth c h0 Q pc ls st h) (hc0 : am_c h0 ≤ am_c h) (hz0 : h0.1.2.2 ≤ h.1.2.2) {df lo hi : Int} {os : Array Int} {d : Nat} {sw : List (Int32 × Nat)} (hd : decode (am_B k) pc = .ok (.tableswitch df lo hi os, len)) (h1 : (pc : Int) + df = (d : Int)) (h3 : hi + 1 = lo + os.toList.length) (h2 : am_tbok pc lo os.toList sw = true) (x : am_do P call next k pc len ls (am_swi d sw ls st h) = some r) : am_WG S ad fv dC dI k p l e R s m args below meth c h0 Q pc ls st h := by
  obtain ⟨z, q, rfl, x⟩ := gl_i rfl x
  have x : am_sw next z d ls q h sw = some r := x
  rw [am_sw_tg] at x
  exact so_table F hd h1 h2 h3 (hn _ _ _ _ x hc0 hz0)
end AMN
