/-! ONE STEP: the heap, calls, ends; and all together -/
section AMQ
variable {S : State} {A0 : Array Value} {ad : Nat → Nat} {fv : Value} {dC : Nat → ClassId} {dI : Nat → Nat → Nat} {p : Program} {l : Launch} {e : Env} {R : Room} {s : State} {m : MethodId} {args : Array Value} {below : List Frame} {meth : Method} {c : Code} {k : Nat} {h0 : am_H} {Q : State → Prop} {P : am_P} {n : Nat} {r : am_Res}
variable {pc len : Nat} {ls st : List Value} {h : am_H} {call : Nat → Nat → List Value → am_H → Option am_Res} {next : Nat → List Value → List Value → am_H → Option am_Res}
theorem gl_and {a b : Bool} (x : (a && b) = true) : a = true ∧ b = true := by rw [Bool.and_eq_true] at x; exact x
theorem gl_beq {a b : Nat} (x : Nat.beq a b = true) : a = b := Nat.eq_of_beq_eq_true x
theorem gl_ble {a b : Nat} (x : Nat.ble a b = true) : a ≤ b := Nat.le_of_ble_eq_true x
theorem gl_r {f : Nat → List Value → am_A} {A : am_A} (hA : A = (match st with | .ref o :: q => f o q | _ => am_stuck)) (x : am_do P call next k pc len ls A = some r) : ∃ o q, st = .ref o :: q ∧ am_do P call next k pc len ls (f o q) = some r := by
  subst hA
  split at x
  · rename_i o q
    exact ⟨o, q, rfl, x⟩
  · exact gl_no x
theorem gl_ir {f : Int32 → Nat → List Value → am_A} {A : am_A} (hA : A = (match st with | .int i :: .ref o :: q => f i o q | _ => am_stuck)) (x : am_do P call next k pc len ls A = some r) : ∃ i o q, st = .int i :: .ref o :: q ∧ am_do P call next k pc len ls (f i o q) = some r := by
  subst hA
  split at x
  · rename_i i o q
    exact ⟨i, o, q, rfl, x⟩
  · exact gl_no x
theorem st_getf (hw : am_Wd S A0 ad fv dC dI) (F : am_Fr S k p s m meth c) (hn : ∀ pc ls st h, next pc ls st h = some r → am_c h0 ≤ am_c h → h0.1.2.2 ≤ h.1.2.2 → am_WG S ad fv dC dI k p l e R s m args below meth c h0 Q pc ls st h) (hc0 : am_c h0 ≤ am_c h) (hz0 : h0.1.2.2 ≤ h.1.2.2) {i a j d : Nat} (hd : decode (am_B k) pc = .ok (.getfield i, 3)) (ha : a < 13) (hj : j < am_NN a) (hfk : am_fk a j = am_k1 d)
    (hm : Cond.fieldLink (am_Y k).cls i (am_TT a j).1 (am_TT a j).2.1 (am_TT a j).2.2.1 ∈ lw_tbl ∨ ∃ g, Cond.fieldLinkNest (am_Y k).cls i (am_TT a j).1 (am_TT a j).2.1 (am_TT a j).2.2.1 g ∈ lw_tbl) (x : am_do P call next k pc 3 ls (am_getf (pc + 3) a j d ls st h) = some r) : am_WG S ad fv dC dI k p l e R s m args below meth c h0 Q pc ls st h := by
  obtain ⟨o, q, rfl, x⟩ := gl_r rfl x
  obtain ⟨g, x⟩ := gl_cond x
  exact so_getf hw F ha hj hd hfk hm (gl_beq g) (hn _ _ _ _ x hc0 hz0)
theorem st_putf (hw : am_Wd S A0 ad fv dC dI) (F : am_Fr S k p s m meth c) (hn : ∀ pc ls st h, next pc ls st h = some r → am_c h0 ≤ am_c h → h0.1.2.2 ≤ h.1.2.2 → am_WG S ad fv dC dI k p l e R s m args below meth c h0 Q pc ls st h) (hc0 : am_c h0 ≤ am_c h) (hz0 : h0.1.2.2 ≤ h.1.2.2) {i a j d : Nat} (hd : decode (am_B k) pc = .ok (.putfield i, 3)) (ha : a < 12) (h9 : a ≠ 9) (hj : j < am_NN a) (hfk : am_FK a j = d)
    (hm : (Cond.fieldLink (am_Y k).cls i (am_TT a j).1 (am_TT a j).2.1 (am_TT a j).2.2.1 ∈ lw_tbl ∧ ((am_TT a j).2.2.2 = true → (am_Y k).name = "<init>" ∧ (am_TT a j).1 = (am_Y k).cls)) ∨ ((am_TT a j).2.2.2 = false ∧ ∃ g, Cond.fieldLinkNest (am_Y k).cls i (am_TT a j).1 (am_TT a j).2.1 (am_TT a j).2.2.1 g ∈ lw_tbl)) (x : am_do P call next k pc 3 ls (am_putf 75 (pc + 3) a j d ls st h) = some r) : am_WG S ad fv dC dI k p l e R s m args below meth c h0 Q pc ls st h := by
  have hkk := am_fk_ok a (by omega) j hj
  rw [hfk] at hkk
  unfold am_putf at x
  split at x
  · rename_i y o q
    obtain ⟨g, x⟩ := gl_cond x
    obtain ⟨g1, g2⟩ := gl_and g
    have hcI : am_fk a j = am_k1 d := by unfold am_fk; rw [hfk]
    split at x
    · refine so_put hw F ha h9 hj (gl_ble g2) hd hm (gl_beq g1) (h' := am_wI h o (upd (h.2.2.1 o) j y)) rfl rfl (fun i hi d j => am_rd_wI i d j hi) (by rw [hcI]; show am_rd _ 0 o j = _; rw [am_rd_wI0, pk_us]) (fun i hi d => ?_) (ty := .int) ?_ rfl rfl (hn _ _ _ _ x hc0 hz0)
      · unfold am_rd am_wI am_up
        simp only [if_true, pk_un hi]
      · cases hp : parseFieldDescriptor (am_TT a j).2.2.1 with
        | none => rw [hp] at hkk; cases hkk
        | some ty => rw [hp] at hkk; cases ty <;> first | rfl | cases hkk
    · obtain ⟨gv, x⟩ := gl_gd x
      have gv := of_decide_eq_true gv
      refine so_put hw F ha h9 hj (gl_ble g2) hd hm (gl_beq g1) (h' := am_wI h o (upd (h.2.2.1 o) j y)) rfl rfl (fun i hi d j => am_rd_wI i d j hi) (by rw [hcI]; show am_rd _ 0 o j = _; rw [am_rd_wI0, pk_us]) (fun i hi d => ?_) (ty := .boolean) ?_ (by rcases gv with rfl | rfl <;> rfl) (by rcases gv with rfl | rfl <;> rfl) (hn _ _ _ _ x hc0 hz0)
      · unfold am_rd am_wI am_up
        simp only [if_true, pk_un hi]
      · cases hp : parseFieldDescriptor (am_TT a j).2.2.1 with
        | none => rw [hp] at hkk; cases hkk
        | some ty => rw [hp] at hkk; cases ty <;> first | rfl | cases hkk
    · exact gl_no x
  · rename_i w o q
    obtain ⟨g, x⟩ := gl_cond x
    obtain ⟨g1, g2⟩ := gl_and g
    have hcI : am_fk a j = am_k1 d := by unfold am_fk; rw [hfk]
    split at x
    · have hwf : ∃ ty, parseFieldDescriptor (am_TT a j).2.2.1 = some ty ∧ narrow ty (am_val ad fv (.ref w)) = am_val ad fv (.ref w) ∧ fits ty (am_val ad fv (.ref w)) = true := by
        have hval : am_val ad fv (.ref w) = .null ∨ ∃ z, am_val ad fv (.ref w) = .ref z := by
          show (if w = am_fm then fv else .ref (ad w)) = .null ∨ ∃ z, (if w = am_fm then fv else .ref (ad w)) = .ref z
          split
          · exact hw.2.2.2.2.2.2
          · exact Or.inr ⟨_, rfl⟩
        cases hp : parseFieldDescriptor (am_TT a j).2.2.1 with
        | none => rw [hp] at hkk; cases hkk
        | some ty =>
          rw [hp] at hkk
          refine ⟨ty, rfl, ?_⟩
          rcases hval with hz | ⟨z, hz⟩ <;> rw [hz] <;> cases ty <;> first | exact ⟨rfl, rfl⟩ | cases hkk
      obtain ⟨ty, t1, t2, t3⟩ := hwf
      refine so_put hw F ha h9 hj (gl_ble g2) hd hm (gl_beq g1) (h' := am_wR h o (fun i => if i = j then some w else h.2.2.2.2 o i)) rfl rfl (fun i hi d j => am_rd_wR i d j hi) (by rw [hcI]; show am_rd _ 1 o j = _; rw [am_rd_wR1, if_pos rfl]; rfl) (fun i hi d => ?_) t1 t2 t3 (hn _ _ _ _ x hc0 hz0)
      unfold am_rd am_wR am_up
      simp only [if_true, if_neg hi]
    · exact gl_no x
  · exact gl_no x
theorem st_ald {a d : Nat} (row : ∀ {o : Nat} {i : Int32} {q : List Value}, (h.2.1 o).1 = a → vp_in i (h.2.1 o).2 → am_WG S ad fv dC dI k p l e R s m args below meth c h0 Q (pc + 1) ls (am_rd h d o i.toNatClampNeg :: q) h → am_WG S ad fv dC dI k p l e R s m args below meth c h0 Q pc ls (.int i :: .ref o :: q) h) (hn : ∀ pc ls st h, next pc ls st h = some r → am_c h0 ≤ am_c h → h0.1.2.2 ≤ h.1.2.2 → am_WG S ad fv dC dI k p l e R s m args below meth c h0 Q pc ls st h) (hc0 : am_c h0 ≤ am_c h) (hz0 : h0.1.2.2 ≤ h.1.2.2) (x : am_do P call next k pc 1 ls (am_ald (pc + 1) a d ls st h) = some r) : am_WG S ad fv dC dI k p l e R s m args below meth c h0 Q pc ls st h := by
  obtain ⟨i, o, q, rfl, x⟩ := gl_ir rfl x
  obtain ⟨g, x⟩ := gl_cond x
  obtain ⟨g2, x⟩ := gl_gd x
  exact row (gl_beq g) (am_inb_iff.mp g2) (hn _ _ _ _ x hc0 hz0)
theorem st_astI {a : Nat} (ha : a ≠ 103) (h4 : a ≠ 104) (row : ∀ {o : Nat} {i y : Int32} {q : List Value}, 75 ≤ o → (h.2.1 o).1 = a → vp_in i (h.2.1 o).2 → am_WG S ad fv dC dI k p l e R s m args below meth c h0 Q (pc + 1) ls q (am_wI h o (upd (h.2.2.1 o) i.toNatClampNeg (am_nar a y))) → am_WG S ad fv dC dI k p l e R s m args below meth c h0 Q pc ls (.int y :: .int i :: .ref o :: q) h) (hn : ∀ pc ls st h, next pc ls st h = some r → am_c h0 ≤ am_c h → h0.1.2.2 ≤ h.1.2.2 → am_WG S ad fv dC dI k p l e R s m args below meth c h0 Q pc ls st h) (hc0 : am_c h0 ≤ am_c h) (hz0 : h0.1.2.2 ≤ h.1.2.2) (x : am_do P call next k pc 1 ls (am_ast 75 (pc + 1) a ls st h) = some r) : am_WG S ad fv dC dI k p l e R s m args below meth c h0 Q pc ls st h := by
  unfold am_ast at x
  split at x
  · obtain ⟨g, x⟩ := gl_cond x
    obtain ⟨g1, g2⟩ := gl_and g
    obtain ⟨g2, x⟩ := gl_gd x
    exact row (gl_ble (gl_and (gl_and g).2).2) (gl_beq g1) (am_inb_iff.mp g2) (hn _ _ _ _ x hc0 hz0)
  · obtain ⟨g, x⟩ := gl_cond x
    exact absurd (gl_beq (gl_and (gl_and g).2).1) ha
  · obtain ⟨g, x⟩ := gl_cond x
    exact absurd (gl_beq (gl_and (gl_and g).2).1) h4
  · exact gl_no x
theorem st_astL (hw : am_Wd S A0 ad fv dC dI) (F : am_Fr S k p s m meth c) (hn : ∀ pc ls st h, next pc ls st h = some r → am_c h0 ≤ am_c h → h0.1.2.2 ≤ h.1.2.2 → am_WG S ad fv dC dI k p l e R s m args below meth c h0 Q pc ls st h) (hc0 : am_c h0 ≤ am_c h) (hz0 : h0.1.2.2 ≤ h.1.2.2) (hd : decode (am_B k) pc = .ok (.lastore, 1)) (x : am_do P call next k pc 1 ls (am_ast 75 (pc + 1) 103 ls st h) = some r) : am_WG S ad fv dC dI k p l e R s m args below meth c h0 Q pc ls st h := by
  unfold am_ast at x
  split at x
  · obtain ⟨g, x⟩ := gl_cond x
    exact absurd (gl_ble (gl_and (gl_and g).2).1) (by decide)
  · obtain ⟨g, x⟩ := gl_cond x
    obtain ⟨g1, g3⟩ := gl_and g
    obtain ⟨g2, x⟩ := gl_gd x
    exact so_last hw F (gl_ble (gl_and g3).2) (gl_beq g1) (am_inb_iff.mp g2) hd (hn _ _ _ _ x hc0 hz0)
  · obtain ⟨g, x⟩ := gl_cond x
    exact absurd (gl_beq (gl_and (gl_and g).2).1) (by decide)
  · exact gl_no x
theorem st_astA (hw : am_Wd S A0 ad fv dC dI) (F : am_Fr S k p s m meth c) (hn : ∀ pc ls st h, next pc ls st h = some r → am_c h0 ≤ am_c h → h0.1.2.2 ≤ h.1.2.2 → am_WG S ad fv dC dI k p l e R s m args below meth c h0 Q pc ls st h) (hc0 : am_c h0 ≤ am_c h) (hz0 : h0.1.2.2 ≤ h.1.2.2) (hd : decode (am_B k) pc = .ok (.aastore, 1)) (x : am_do P call next k pc 1 ls (am_ast 75 (pc + 1) 104 ls st h) = some r) : am_WG S ad fv dC dI k p l e R s m args below meth c h0 Q pc ls st h := by
  unfold am_ast at x
  split at x
  · obtain ⟨g, x⟩ := gl_cond x
    exact absurd (gl_ble (gl_and (gl_and g).2).1) (by decide)
  · obtain ⟨g, x⟩ := gl_cond x
    exact absurd (gl_beq (gl_and (gl_and g).2).1) (by decide)
  · obtain ⟨g, x⟩ := gl_cond x
    obtain ⟨g1, g3⟩ := gl_and g
    obtain ⟨-, g4⟩ := gl_and g3
    obtain ⟨g5, g6⟩ := gl_and g4
    obtain ⟨g2, x⟩ := gl_gd x
    exact so_aast hw F (gl_ble g5) (gl_beq g1) (gl_beq g6) (am_inb_iff.mp g2) hd (hn _ _ _ _ x hc0 hz0)
  · exact gl_no x
theorem st_len (F : am_Fr S k p s m meth c) (hn : ∀ pc ls st h, next pc ls st h = some r → am_c h0 ≤ am_c h → h0.1.2.2 ≤ h.1.2.2 → am_WG S ad fv dC dI k p l e R s m args below meth c h0 Q pc ls st h) (hc0 : am_c h0 ≤ am_c h) (hz0 : h0.1.2.2 ≤ h.1.2.2) (hd : decode (am_B k) pc = .ok (.arraylength, 1)) (x : am_do P call next k pc 1 ls (am_len (pc + 1) ls st h) = some r) : am_WG S ad fv dC dI k p l e R s m args below meth c h0 Q pc ls st h := by
  obtain ⟨o, q, rfl, x⟩ := gl_r rfl x
  obtain ⟨g, x⟩ := gl_cond x
  exact so_alen F (gl_ble g) hd (hn _ _ _ _ x hc0 hz0)
theorem st_copy (hw : am_Wd S A0 ad fv dC dI) (F : am_Fr S k p s m meth c) (hn : ∀ pc ls st h, next pc ls st h = some r → am_c h0 ≤ am_c h → h0.1.2.2 ≤ h.1.2.2 → am_WG S ad fv dC dI k p l e R s m args below meth c h0 Q pc ls st h) (hc0 : am_c h0 ≤ am_c h) (hz0 : h0.1.2.2 ≤ h.1.2.2) {i : Nat} (hd : decode (am_B k) pc = .ok (.invokestatic i, 3)) (hm1 : Cond.methodLink (am_Y k).cls i arraycopyName ∈ lw_tbl) (hm2 : Cond.native arraycopyName ∈ lw_tbl) (hm3 : Cond.static arraycopyName ∈ lw_tbl) (hm4 : Cond.initialized "java/lang/System" ∈ lw_tbl) (hfr : 8 ≤ R.frames) (hlo : 128 ≤ R.locals) (x : am_do P call next k pc 3 ls (am_copy 75 (pc + 3) ls st h) = some r) : am_WG S ad fv dC dI k p l e R s m args below meth c h0 Q pc ls st h := by
  unfold am_copy at x
  split at x
  · rename_i n dp t sp o q
    obtain ⟨g, x⟩ := gl_cond x
    obtain ⟨g1, g⟩ := gl_and g
    obtain ⟨g2, g⟩ := gl_and g
    obtain ⟨g3, g⟩ := gl_and g
    obtain ⟨g4, g5⟩ := gl_and g
    obtain ⟨g6, g4⟩ := gl_and g4
    obtain ⟨gg, x⟩ := gl_gd x
    obtain ⟨q1, q2, q3, q4, q5⟩ := of_decide_eq_true gg
    exact so_copy hw F hd hm1 hm2 hm3 hm4 (gl_ble g6) (gl_ble g3) (gl_beq g1) (gl_beq g2) (Int32.not_lt.mpr q3) (Int32.not_lt.mpr q2) (Int32.not_lt.mpr q1) q4 q5 (by omega) (Nat.le_trans (by decide +kernel) hlo) (by rw [am_cats hw.2.2.2.2.2.2]; exact gl_ble g4) (hn _ _ _ _ x hc0 hz0)
  · exact gl_no x
theorem st_obj (hw : am_Wd S A0 ad fv dC dI) (F : am_Fr S k p s m meth c) (hn : ∀ pc ls st h, next pc ls st h = some r → am_c h0 ≤ am_c h → h0.1.2.2 ≤ h.1.2.2 → am_WG S ad fv dC dI k p l e R s m args below meth c h0 Q pc ls st h) (hc0 : am_c h0 ≤ am_c h) (hz0 : h0.1.2.2 ≤ h.1.2.2) {i : Nat} (hd : decode (am_B k) pc = .ok (.invokespecial i, 3)) (hm1 : Cond.methodLink (am_Y k).cls i Lib.objectInit ∈ lw_tbl) (hm2 : Cond.instanceMethod Lib.objectInit ∈ lw_tbl) (hm3 : Cond.code Lib.objectInit ⟨#[0xb1]⟩ 1 none ∈ lw_tbl) (hfr : 8 ≤ R.frames) (hlo : 128 ≤ R.locals) (x : am_do P call next k pc 3 ls (am_obj (pc + 3) ls st h) = some r) : am_WG S ad fv dC dI k p l e R s m args below meth c h0 Q pc ls st h := by
  obtain ⟨o, q, rfl, x⟩ := gl_r rfl x
  obtain ⟨g, x⟩ := gl_cond x
  obtain ⟨g, g2⟩ := gl_and g
  refine so_obj hw F hd hm1 hm2 hm3 (fun e => ?_) (by omega) (by omega) (gl_ble g) (hn _ _ _ _ x hc0 hz0)
  rw [e] at g2
  cases g2
end AMQ
