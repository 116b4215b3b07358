/-! what no call changes: every run -/
def iv_R (h h' : am_H) : Prop := h.1.1 ≤ h'.1.1 ∧ (∀ o, o < h.1.1 → h'.2.1 o = h.2.1 o) ∧ (∀ o, o < h.1.1 → (h.2.1 o).1 = 6 → h'.2.2.1 o 0 = h.2.2.1 o 0) ∧ ∀ o, o < h.1.1 → (h.2.1 o).1 = 11 → (h.2.2.1 o 26 = 0 ∨ h.2.2.1 o 26 = 1) → (h'.2.2.1 o 26 = 0 ∨ h'.2.2.1 o 26 = 1)
theorem iv_r (h : am_H) : iv_R h h := ⟨Nat.le_refl _, fun _ _ => rfl, fun _ _ _ => rfl, fun _ _ _ x => x⟩
theorem iv_t {a b c : am_H} (x : iv_R a b) (y : iv_R b c) : iv_R a c := by
  obtain ⟨x1, x2, x3, x4⟩ := x
  obtain ⟨y1, y2, y3, y4⟩ := y
  refine ⟨Nat.le_trans x1 y1, fun o ho => (y2 o (by omega)).trans (x2 o ho), fun o ho s => (y3 o (by omega) (by rw [x2 o ho]; exact s)).trans (x3 o ho s), fun o ho s z => y4 o (by omega) (by rw [x2 o ho]; exact s) (x4 o ho s z)⟩
theorem iv_new {h : am_H} {q : Nat × Nat} {w : Nat} : iv_R h (am_new h q w) := by
  refine ⟨Nat.le_succ _, fun o ho => up_ne (by omega), fun o ho _ => ?_, fun o ho _ z => ?_⟩
  · show am_up h.2.2.1 h.1.1 (fun _ => 0) o 0 = _
    rw [up_ne (by omega)]
  · show am_up h.2.2.1 h.1.1 (fun _ => 0) o 26 = 0 ∨ am_up h.2.2.1 h.1.1 (fun _ => 0) o 26 = 1
    rw [up_ne (by omega)]
    exact z
theorem iv_gc {h : am_H} {w : Nat} : iv_R h (am_gc h w) := iv_r h
theorem iv_w {h : am_H} {o : Nat} {f : Nat → Int32} (h1 : (h.2.1 o).1 = 6 → f 0 = h.2.2.1 o 0) (h2 : (h.2.1 o).1 = 11 → (h.2.2.1 o 26 = 0 ∨ h.2.2.1 o 26 = 1) → (f 26 = 0 ∨ f 26 = 1)) : iv_R h (am_wI h o f) := by
  refine ⟨Nat.le_refl _, fun _ _ => rfl, fun p hp s => ?_, fun p hp s z => ?_⟩
  · show am_up h.2.2.1 o f p 0 = _
    by_cases e : p = o
    · subst e
      rw [up_same]
      exact h1 s
    · rw [up_ne e]
  · show am_up h.2.2.1 o f p 26 = 0 ∨ am_up h.2.2.1 o f p 26 = 1
    by_cases e : p = o
    · subst e
      rw [up_same]
      exact h2 s z
    · rw [up_ne e]
      exact z
theorem iv_wr {h : am_H} {o : Nat} {f : Nat → Option Nat} : iv_R h (am_wR h o f) := iv_r h
theorem iv_wl {h : am_H} {o : Nat} {f : Nat → Int64} : iv_R h (am_wL h o f) := iv_r h
def iv_Ac (h : am_H) : am_A → Prop
  | .inl none => True
  | .inl (some r) => iv_R h r.2
  | .inr (.inl x) => (x.1 = true ∨ x.2.2.1.isSome = true) → iv_R h x.2.2.2.2.2
  | .inr (.inr (.inl x)) => iv_R h x.2.2.2.2.2
  | .inr (.inr (.inr x)) => iv_bad x.2.2.1 = false ∧ iv_R h x.2.2.2.2.2.2
theorem iv_Ac_s {h : am_H} : iv_Ac h am_stuck := trivial
theorem iv_Ac_c {h : am_H} {g : Bool} {A : am_A} (x : iv_Ac h A) : iv_Ac h (cond g A am_stuck) := by
  cases g with
  | true => exact x
  | false => exact iv_Ac_s
theorem iv_Ac_g {h : am_H} {g : Bool} {A : am_A} (x : g = true → iv_Ac h A) : iv_Ac h (cond g A am_stuck) := by
  cases g with
  | true => exact x rfl
  | false => exact iv_Ac_s
theorem iv_Ac_n {h : am_H} {g : Bool} {A : am_A} (x : iv_Ac h A) : iv_Ac h (cond g am_stuck A) := by
  cases g with
  | true => exact iv_Ac_s
  | false => exact x
theorem iv_Ac_0 {h : am_H} {g : Bool} {p1 : Nat} {p2 : Option Nat} {l s : List Value} : iv_Ac h (.inr (.inl (g, p1, p2, l, s, h))) := fun _ => iv_r h
theorem iv_Ac_1 {h h' : am_H} {g : Bool} {p1 : Nat} {p2 : Option Nat} {l s : List Value} (x : iv_R h h') : iv_Ac h (.inr (.inl (g, p1, p2, l, s, h'))) := fun _ => x
theorem iv_Ac_i {h : am_H} {g : Bool} {o : Option Value ⊕ Nat} : iv_Ac h (.inl (cond g (some (o, h)) none)) := by
  cases g with
  | true => exact iv_r h
  | false => trivial
theorem iv_op (K : Nat) (rk : Nat → List Value → Nat) (ml : Nat → Nat) (b pc op a c d : Nat) (v : Value) (sw : List (Int32 × Nat)) (ls st : List Value) (h : am_H) (h17 : op = 17 → (a = 6 → c ≠ 0) ∧ (a = 11 → c = 26 → d = 3)) (h19 : op = 19 → 100 ≤ a) (h23 : op = 23 → iv_bad a = false) : iv_Ac h (am_op K rk ml b pc op a c d v sw ls st h) := by
  unfold am_op
  split
  · exact iv_Ac_0
  · unfold am_load
    split
    · exact iv_Ac_c iv_Ac_0
    · exact iv_Ac_s
  · unfold am_store
    split
    · refine iv_Ac_c ?_
      split
      · split
        · split
          · exact iv_Ac_0
          · exact iv_Ac_s
        · exact iv_Ac_0
      · exact iv_Ac_s
    · exact iv_Ac_s
  · unfold am_iinc
    split
    · split
      · exact iv_Ac_0
      · exact iv_Ac_s
    · exact iv_Ac_s
  · unfold am_opb
    split
    · exact iv_Ac_0
    · exact iv_Ac_s
  · unfold am_div
    split
    · exact iv_Ac_0
    · exact iv_Ac_s
  · unfold am_opu
    split
    · exact iv_Ac_0
    · exact iv_Ac_s
  · unfold am_conv
    split
    · exact iv_Ac_0
    · exact iv_Ac_0
    · exact iv_Ac_s
  · unfold am_opl
    split
    · exact iv_Ac_0
    · exact iv_Ac_s
  · unfold am_opsl
    split
    · exact iv_Ac_0
    · exact iv_Ac_s
  · unfold am_olc
    split
    · exact iv_Ac_0
    · exact iv_Ac_s
  · unfold am_stk
    split
    · exact iv_Ac_n iv_Ac_0
    · exact iv_Ac_n iv_Ac_0
    · exact iv_Ac_n iv_Ac_0
    · exact iv_Ac_s
  · exact iv_Ac_0
  · unfold am_ic
    split
    · split
      · exact iv_Ac_0
      · exact iv_Ac_0
    · exact iv_Ac_s
  · unfold am_iz
    split
    · split
      · exact iv_Ac_0
      · exact iv_Ac_0
    · exact iv_Ac_s
  · unfold am_swi
    split
    · exact iv_r h
    · exact iv_Ac_s
  · unfold am_getf
    split
    · exact iv_Ac_c iv_Ac_0
    · exact iv_Ac_s
  · unfold am_putf
    obtain ⟨p6, p11⟩ := h17 rfl
    split
    · refine iv_Ac_g (fun q => ?_)
      rw [Bool.and_eq_true] at q
      have hs := Nat.eq_of_beq_eq_true q.1
      split
      · refine iv_Ac_1 (iv_w (fun s => ?_) (fun s z => ?_))
        · rw [upd_ne (fun e => p6 (hs.symm.trans s) e.symm)]
        · rw [upd_ne (fun e => absurd (p11 (hs.symm.trans s) e.symm) (by decide))]
          exact z
      · intro gd
        have hg := of_decide_eq_true (gd.resolve_right (fun z => by have z' : false = true := z; cases z'))
        refine iv_w (fun s => ?_) (fun s z => ?_)
        · rw [upd_ne (fun e => p6 (hs.symm.trans s) e.symm)]
        · by_cases e : (26 : Nat) = c
          · subst e
            rw [upd_same]
            exact hg
          · rw [upd_ne e]
            exact z
      · exact iv_Ac_s
    · refine iv_Ac_c ?_
      split
      · exact iv_Ac_1 iv_wr
      · exact iv_Ac_s
    · exact iv_Ac_s
  · unfold am_ald
    split
    · exact iv_Ac_c iv_Ac_0
    · exact iv_Ac_s
  · unfold am_ast
    have ha := h19 rfl
    split
    · refine iv_Ac_g (fun q => ?_)
      rw [Bool.and_eq_true] at q
      have hs := Nat.eq_of_beq_eq_true q.1
      exact iv_Ac_1 (iv_w (fun s => by omega) (fun s => by omega))
    · exact iv_Ac_c (iv_Ac_1 iv_wl)
    · exact iv_Ac_c (iv_Ac_1 iv_wr)
    · exact iv_Ac_s
  · unfold am_len
    split
    · exact iv_Ac_c iv_Ac_0
    · exact iv_Ac_s
  · unfold am_newo
    exact iv_Ac_c (iv_Ac_1 iv_new)
  · unfold am_newa
    split
    · exact iv_Ac_c (iv_Ac_1 iv_new)
    · exact iv_Ac_s
  · unfold am_call
    have ha := h23 rfl
    split
    · exact iv_Ac_c (iv_Ac_c ⟨ha, iv_r h⟩)
    · exact iv_Ac_s
  · unfold am_ret
    split
    · exact iv_r h
    · exact iv_r h
    · exact iv_r h
    · exact iv_r h
    · exact iv_Ac_i
    · exact iv_Ac_i
    · exact iv_Ac_i
    · exact iv_Ac_s
  · unfold am_thw
    exact iv_Ac_c iv_gc
  · unfold am_copy
    split
    · refine iv_Ac_g (fun q => ?_)
      rw [Bool.and_eq_true, Bool.and_eq_true] at q
      have hs := Nat.eq_of_beq_eq_true q.2.1
      exact iv_Ac_1 (iv_w (fun s => by omega) (fun s => by omega))
    · exact iv_Ac_s
  · unfold am_obj
    split
    · exact iv_Ac_c iv_Ac_0
    · exact iv_Ac_s
  · exact iv_Ac_s
theorem iv_do {P : am_P} {call : Nat → Nat → List Value → am_H → Option am_Res} {next : Nat → List Value → List Value → am_H → Option am_Res} (hc : ∀ k b as h r, iv_bad k = false → call k b as h = some r → iv_R h r.2) (hn : ∀ pc ls st h r, next pc ls st h = some r → iv_R h r.2) {k pc len : Nat} {ls : List Value} {A : am_A} {h : am_H} {r : am_Res} (hA : iv_Ac h A) (e : am_do P call next k pc len ls A = some r) : iv_R h r.2 := by
  match A, hA, e with
  | .inl none, _, e => cases e
  | .inl (some q), hA, e => cases e; exact hA
  | .inr (.inl (g, p1, none, l, st, h')), hA, e =>
    cases g with
    | true => exact iv_t (hA (Or.inl rfl)) (hn _ _ _ _ _ e)
    | false => cases e
  | .inr (.inl (g, p1, some p2, l, st, h')), hA, e =>
    cases g with
    | true => exact iv_t (hA (Or.inr rfl)) (hn _ _ _ _ _ e)
    | false => exact iv_t (hA (Or.inr rfl)) (hn _ _ _ _ _ e)
  | .inr (.inr (.inl (x, sw, d, l, st, h'))), hA, e =>
    have e : am_sw next x d l st h' sw = some r := e
    rw [am_sw_tg] at e
    exact iv_t hA (hn _ _ _ _ _ e)
  | .inr (.inr (.inr (g, nt, k', b', as, q, h'))), hA, e =>
    cases g with
    | false => cases e
    | true =>
      have e : am_bd (call k' b' as h') (fun v h => next (pc + len) ls (v.toList ++ q) h) (fun c h => cond nt none (am_th (P.2.1 k pc c) next ls c h)) = some r := e
      cases hcall : call k' b' as h' with
      | none => rw [hcall] at e; cases e
      | some y =>
        have hy := hc _ _ _ _ _ hA.1 hcall
        replace hA := hA.2
        rw [hcall] at e
        obtain ⟨o, h3⟩ := y
        cases o with
        | inl v => exact iv_t hA (iv_t hy (hn _ _ _ _ _ e))
        | inr x =>
          cases nt with
          | true => cases e
          | false =>
            have e : am_th (P.2.1 k pc x) next ls x h3 = some r := e
            unfold am_th at e
            split at e
            · cases e
              exact iv_t hA hy
            · split at e
              · exact iv_t hA (iv_t hy (hn _ _ _ _ _ e))
              · cases e
theorem iv_ev {K : Nat} {P : am_P} (hP : ∀ k pc, iv_ck k pc (P.1 k pc) = true) : ∀ (n : Nat) {k b pc : Nat} {ls st : List Value} {h : am_H} {r : am_Res}, iv_bad k = false → am_ev K P n k b pc ls st h = some r → iv_R h r.2
  | 0, _, _, _, _, _, _, _, _, e => by cases e
  | n + 1, k, b, pc, ls, st, h, r, hk, e => by
    rw [am_ev] at e
    unfold am_stp at e
    split at e
    · cases e
    · rename_i x len op a c d v sw hq
      have h0 := hP k pc
      rw [hq] at h0
      have h1 : (iv_bad k || iv_cx (some (x, len, op, a, c, d, v, sw))) = true := h0
      rw [hk, Bool.false_or] at h1
      have h2 : cond (Nat.beq op 17) (cond (Nat.beq a 6) (!(Nat.beq c 0)) (cond (Nat.beq a 11) (cond (Nat.beq c 26) (Nat.beq d 3) true) true)) (cond (Nat.beq op 19) (Nat.ble 100 a) (cond (Nat.beq op 23) (!(iv_bad a)) true)) = true := h1
      refine iv_do (fun _ _ _ _ _ hk' => iv_ev hP n hk') (fun _ _ _ _ _ => iv_ev hP n hk) (iv_op _ _ _ _ _ _ _ _ _ _ _ _ _ _ ?_ ?_ ?_) e
      · rintro rfl
        refine ⟨?_, ?_⟩
        · rintro rfl rfl
          have h3 : false = true := h2
          cases h3
        · rintro rfl rfl
          exact Nat.eq_of_beq_eq_true h2
      · rintro rfl
        exact Nat.le_of_ble_eq_true h2
      · rintro rfl
        have h3 : (!(iv_bad a)) = true := h2
        cases hb : iv_bad a with
        | false => rfl
        | true =>
          rw [hb] at h3
          cases h3
/-- what no call changes -/
def vI (I : Nat → Nat → Int32) : Prop := sO I ∧ ru_v 79 I ∧ ru_v 89 I ∧ (I 147 26 = 0 ∨ I 147 26 = 1)
theorem vI_run {k b pc : Nat} {ls st : List Value} {g N g' : Nat} {sw lv sw' lv' : Bool} {I I' : Nat → Nat → Int32} {L L' : Nat → Nat → Int64} {o : Option Value ⊕ Nat} (hk : iv_bad k = false) (h : vI I) (e : am_R k b pc ls st (am_hp g N sw lv I L) = some (o, am_hp g' N sw' lv' I' L')) : vI I' ∧ I' 0 = I 0 := by
  have e0 := low_run e
  obtain ⟨n, hn⟩ := am_Run_iff.mp e
  obtain ⟨x1, x2, x3, x4⟩ := iv_ev (P := am_pr) iv_fe n hk hn
  have y3 : ∀ o, o < 186 → (am_SH N o).1 = 6 → I' o 0 = I o 0 := x3
  have y4 : ∀ o, o < 186 → (am_SH N o).1 = 11 → (I o 26 = 0 ∨ I o 26 = 1) → (I' o 26 = 0 ∨ I' o 26 = 1) := x4
  obtain ⟨h1, h2, h3, h4⟩ := h
  refine ⟨⟨sO_lo h1 e0, ⟨(y3 85 (by decide) rfl).trans h2.1, (y3 86 (by decide) rfl).trans h2.2⟩, ⟨(y3 95 (by decide) rfl).trans h3.1, (y3 96 (by decide) rfl).trans h3.2⟩, y4 147 (by decide) rfl h4⟩, e0 0 (by decide)⟩
