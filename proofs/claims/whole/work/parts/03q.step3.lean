/-! ONE STEP: new cells, ends, calls -/
section AMT
variable {S : State} {A0 : Array Value} {ad : Nat → Nat} {fv : Value} {dC : Nat → ClassId} {dI : Nat → Nat → Nat} {p : Program} {l : Launch} {e : Env} {R : Room} {s : State} {m : MethodId} {args : Array Value} {below : List Frame} {meth : Method} {c : Code} {k : Nat} {h0 : am_H} {Q : State → Prop} {P : am_P} {n : Nat} {r : am_Res}
variable {pc len : Nat} {ls st : List Value} {h : am_H} {call : Nat → Nat → List Value → am_H → Option am_Res} {next : Nat → List Value → List Value → am_H → Option am_Res}
theorem st_new (hw : am_Wd S A0 ad fv dC dI) (F : am_Fr S k p s m meth c) (hn : ∀ pc ls st h, next pc ls st h = some r → am_c h0 ≤ am_c h → h0.1.2.2 ≤ h.1.2.2 → am_WG S ad fv dC dI k p l e R s m args below meth c h0 Q pc ls st h) (hc0 : am_c h0 ≤ am_c h) (hz0 : h0.1.2.2 ≤ h.1.2.2) (hmo : ∀ pc ls st h, next pc ls st h = some r → am_le h r.2) (hrc : am_c r.2 - am_c h0 ≤ R.cells) (hrs : r.2.1.2.2 - h0.1.2.2 ≤ R.slots) {i a : Nat} (ha : a < 12) (h9 : a ≠ 9) (hd : decode (am_B k) pc = .ok (.new i, 3)) (hm1 : Cond.classLink (am_Y k).cls i (am_CN a) ∈ lw_tbl) (hm2 : Cond.instantiable (am_CN a) (am_NN a) ∈ lw_tbl) (hm3 : Cond.initialized (am_CN a) ∈ lw_tbl) (x : am_do P call next k pc 3 ls (am_newo (pc + 3) a (am_NN a) ls st h) = some r) : am_WG S ad fv dC dI k p l e R s m args below meth c h0 Q pc ls st h := by
  obtain ⟨g, x⟩ := gl_cond x
  have hx : next (pc + 3) ls (.ref h.1.1 :: st) (am_new h (a, 0) (am_NN a)) = some r := x
  obtain ⟨z1, z2⟩ := hmo _ _ _ _ hx
  have y1 := am_c_new (q := (a, 0)) (w := am_NN a) hc0
  have y2 := am_s_new (q := (a, 0)) (w := am_NN a) hz0
  have y3 := (am_le_new (h := h) (q := (a, 0)) (w := am_NN a))
  exact so_new hw F ha h9 hd hm1 hm2 hm3 (gl_beq g) hc0 hz0 (by omega) (by omega) (hn _ _ _ _ hx (Nat.le_trans hc0 y3.1) (Nat.le_trans hz0 y3.2))
theorem st_newa (hw : am_Wd S A0 ad fv dC dI) (F : am_Fr S k p s m meth c) (hn : ∀ pc ls st h, next pc ls st h = some r → am_c h0 ≤ am_c h → h0.1.2.2 ≤ h.1.2.2 → am_WG S ad fv dC dI k p l e R s m args below meth c h0 Q pc ls st h) (hc0 : am_c h0 ≤ am_c h) (hz0 : h0.1.2.2 ≤ h.1.2.2) (hmo : ∀ pc ls st h, next pc ls st h = some r → am_le h r.2) (hrc : am_c r.2 - am_c h0 ≤ R.cells) (hrs : r.2.1.2.2 - h0.1.2.2 ≤ R.slots) {a : Nat} {t : ArrayType} (ha : a = 100 ∧ t = .int ∨ a = 101 ∧ t = .byte ∨ a = 102 ∧ t = .boolean ∨ a = 103 ∧ t = .long) (hd : decode (am_B k) pc = .ok (.newarray t, 2)) (hm1 : Cond.arrayClass (newarray.typeOf t) ∈ lw_tbl) (x : am_do P call next k pc 2 ls (am_newa (pc + 2) a ls st h) = some r) : am_WG S ad fv dC dI k p l e R s m args below meth c h0 Q pc ls st h := by
  obtain ⟨z, q, rfl, x⟩ := gl_i rfl x
  obtain ⟨g, x⟩ := gl_cond x
  obtain ⟨g1, g2⟩ := gl_and g
  obtain ⟨g3, hx⟩ := gl_gd x
  have g3 : ¬ z < 0 := fun q => by rw [decide_eq_true q] at g3; cases g3
  obtain ⟨z1, z2⟩ := hmo _ _ _ _ hx
  have y1 := am_c_new (q := (a, z.toNatClampNeg)) (w := z.toNatClampNeg) hc0
  have y2 := am_s_new (q := (a, z.toNatClampNeg)) (w := z.toNatClampNeg) hz0
  have y3 := (am_le_new (h := h) (q := (a, z.toNatClampNeg)) (w := z.toNatClampNeg))
  exact so_newa hw F ha hd hm1 g3 (gl_ble g2) (gl_beq g1) hc0 hz0 (by omega) (by omega) (hn _ _ _ _ hx (Nat.le_trans hc0 y3.1) (Nat.le_trans hz0 y3.2))
theorem st_anew (hw : am_Wd S A0 ad fv dC dI) (F : am_Fr S k p s m meth c) (hn : ∀ pc ls st h, next pc ls st h = some r → am_c h0 ≤ am_c h → h0.1.2.2 ≤ h.1.2.2 → am_WG S ad fv dC dI k p l e R s m args below meth c h0 Q pc ls st h) (hc0 : am_c h0 ≤ am_c h) (hz0 : h0.1.2.2 ≤ h.1.2.2) (hmo : ∀ pc ls st h, next pc ls st h = some r → am_le h r.2) (hrc : am_c r.2 - am_c h0 ≤ R.cells) (hrs : r.2.1.2.2 - h0.1.2.2 ≤ R.slots) {i : Nat} (hd : decode (am_B k) pc = .ok (.anewarray i, 3)) (hm1 : Cond.classLink (am_Y k).cls i "java/lang/String" ∈ lw_tbl) (hm2 : Cond.arrayOver (.object "java/lang/String") ∈ lw_tbl) (x : am_do P call next k pc 3 ls (am_newa (pc + 3) 104 ls st h) = some r) : am_WG S ad fv dC dI k p l e R s m args below meth c h0 Q pc ls st h := by
  obtain ⟨z, q, rfl, x⟩ := gl_i rfl x
  obtain ⟨g, x⟩ := gl_cond x
  obtain ⟨g1, g2⟩ := gl_and g
  obtain ⟨g3, hx⟩ := gl_gd x
  have g3 : ¬ z < 0 := fun q => by rw [decide_eq_true q] at g3; cases g3
  obtain ⟨z1, z2⟩ := hmo _ _ _ _ hx
  have y1 := am_c_new (q := (104, z.toNatClampNeg)) (w := z.toNatClampNeg) hc0
  have y2 := am_s_new (q := (104, z.toNatClampNeg)) (w := z.toNatClampNeg) hz0
  have y3 := (am_le_new (h := h) (q := (104, z.toNatClampNeg)) (w := z.toNatClampNeg))
  exact so_anew hw F hd hm1 hm2 g3 (gl_ble g2) (gl_beq g1) hc0 hz0 (by omega) (by omega) (hn _ _ _ _ hx (Nat.le_trans hc0 y3.1) (Nat.le_trans hz0 y3.2))
theorem st_throw (hw : am_Wd S A0 ad fv dC dI) (he : am_We S ad fv l) (F : am_Fr S k p s m meth c) (hc0 : am_c h0 ≤ am_c h) (hz0 : h0.1.2.2 ≤ h.1.2.2) (hrc : am_c r.2 - am_c h0 ≤ R.cells) (hrs : r.2.1.2.2 - h0.1.2.2 ≤ R.slots) {ik is n : Nat} (hn : n < 2) (hown : (am_Y k).cls = "AlmondCabinet") (hhh : am_hh k = []) (his : is ∈ am_sE) (hm1 : Cond.classLink "AlmondCabinet" ik (am_EN n) ∈ lw_tbl) (hm2 : Cond.initialized (am_EN n) ∈ lw_tbl)
    (d0 : decode (am_B k) pc = .ok (.new ik, 3)) (d3 : decode (am_B k) (pc + 3) = .ok (.dup, 1))
    (hd : (decode (am_B k) (pc + 4) = .ok (.ldc is, 2) ∧ decode (am_B k) (pc + 6) = .ok (.invokespecial (am_EI n), 3) ∧ decode (am_B k) (pc + 9) = .ok (.athrow, 1)) ∨ (decode (am_B k) (pc + 4) = .ok (.ldc_w is, 3) ∧ decode (am_B k) (pc + 7) = .ok (.invokespecial (am_EI n), 3) ∧ decode (am_B k) (pc + 10) = .ok (.athrow, 1)))
    (hfr : 8 ≤ R.frames) (hlo : 128 ≤ R.locals) (x : am_do P call next k pc len ls (am_thw n st h) = some r) : am_WG S ad fv dC dI k p l e R s m args below meth c h0 (am_Z S ad fv dC dI below args s h0 r) pc ls st h := by
  unfold am_thw at x
  obtain ⟨g, x⟩ := gl_cond x
  have x : some (.inr n, am_gc h 6) = some r := x
  cases x
  have g := gl_ble g
  have y1 : am_c (am_gc h 6) = am_c h + 1 := rfl
  have y2 : (am_gc h 6).1.2.2 = h.1.2.2 + 6 := rfl
  have hrc : am_c (am_gc h 6) - am_c h0 ≤ R.cells := hrc
  have hrs : (am_gc h 6).1.2.2 - h0.1.2.2 ≤ R.slots := hrs
  exact so_throw hw he F hn hown hhh his hm1 hm2 d0 d3 hd (by omega) (by omega) hc0 hz0 (by omega) (by omega)
theorem st_ret (F : am_Fr S k p s m meth c) {a : Nat} (hd : decode (am_B k) pc = .ok (.ireturn, 1)) (ha : a = 0 ∧ am_rt k = some .int ∨ a = 3 ∧ am_rt k = some .boolean ∨ a = 4 ∧ am_rt k = some .byte ∨ a = 5 ∧ am_rt k = some .char) (x : am_do P call next k pc len ls (am_ret a st h) = some r) : am_WG S ad fv dC dI k p l e R s m args below meth c h0 (am_Z S ad fv dC dI below args s h0 r) pc ls st h := by
  have key : ∀ y : Int32, ∀ ty, am_rt k = some ty → a ≠ 0 → am_ty a = ty → am_do P call next k pc len ls (.inl (cond (decide (narrow (am_ty a) (.int y) = .int y)) (some (.inl (some (.int y)), h)) none)) = some r → am_WG S ad fv dC dI k p l e R s m args below meth c h0 (am_Z S ad fv dC dI below args s h0 r) pc ls [.int y] h := by
    intro y ty h1 _ h3 x
    have x : cond (decide (narrow (am_ty a) (.int y) = .int y)) (some (.inl (some (.int y)), h)) none = some r := x
    by_cases g : narrow (am_ty a) (.int y) = .int y
    · rw [decide_eq_true g] at x
      cases x
      rw [h3] at g
      exact so_zret F h1 g hd
    · rw [decide_eq_false g] at x
      cases x
  rcases ha with ⟨rfl, hr⟩ | ⟨rfl, hr⟩ | ⟨rfl, hr⟩ | ⟨rfl, hr⟩ <;> unfold am_ret at x <;> split at x <;> first
    | exact gl_no x
    | (exfalso; omega)
    | (have x : some (.inl (some (.int _)), h) = some r := x
       cases x
       exact so_iret F hr hd)
    | exact key _ _ hr (by decide) rfl x
theorem st_vret (F : am_Fr S k p s m meth c) (hd : decode (am_B k) pc = .ok (.return_, 1)) (hr : am_rt k = none) (x : am_do P call next k pc len ls (am_ret 9 st h) = some r) : am_WG S ad fv dC dI k p l e R s m args below meth c h0 (am_Z S ad fv dC dI below args s h0 r) pc ls st h := by
  cases st with
  | nil =>
    have x : some (.inl none, h) = some r := x
    cases x
    exact so_vret F hr hd
  | cons v q =>
    unfold am_ret at x
    split at x <;> first
      | exact gl_no x
      | (exfalso; omega)
      | contradiction
      | (exfalso; simp_all)
end AMT
