/-! addresses below K are never written -/
def low_R (K : Nat) (h h' : am_H) : Prop := K ≤ h.1.1 → K ≤ h'.1.1 ∧ ∀ a, a < K → h'.2.2.1 a = h.2.2.1 a
theorem low_r {K : Nat} (h : am_H) : low_R K h h := fun q => ⟨q, fun _ _ => rfl⟩
theorem low_t {K : Nat} {a b c : am_H} (x : low_R K a b) (y : low_R K b c) : low_R K a c := fun q => ⟨(y (x q).1).1, fun i hi => ((y (x q).1).2 i hi).trans ((x q).2 i hi)⟩
theorem low_new {K : Nat} {h : am_H} {q : Nat × Nat} {w : Nat} : low_R K h (am_new h q w) := fun e => ⟨Nat.le_trans e (Nat.le_succ _), fun a ha => up_ne (by omega)⟩
theorem low_gc {K : Nat} {h : am_H} {w : Nat} : low_R K h (am_gc h w) := fun q => ⟨q, fun _ _ => rfl⟩
theorem low_w {K : Nat} {h : am_H} {o : Nat} {f : Nat → Int32} (ho : K ≤ o) : low_R K h (am_wI h o f) := fun q => ⟨q, fun a ha => up_ne (by omega)⟩
def low_Ac (K : Nat) (h : am_H) : am_A → Prop
  | .inl none => True
  | .inl (some r) => low_R K h r.2
  | .inr (.inl x) => low_R K h x.2.2.2.2.2
  | .inr (.inr (.inl x)) => low_R K h x.2.2.2.2.2
  | .inr (.inr (.inr x)) => low_R K h x.2.2.2.2.2.2
theorem low_Ac_s {K : Nat} {h : am_H} : low_Ac K h am_stuck := trivial
theorem low_Ac_c {K : Nat} {h : am_H} {g : Bool} {A : am_A} (x : low_Ac K h A) : low_Ac K h (cond g A am_stuck) := by
  cases g with
  | true => exact x
  | false => exact low_Ac_s
theorem low_Ac_g {K : Nat} {h : am_H} {g : Bool} {A : am_A} (x : g = true → low_Ac K h A) : low_Ac K h (cond g A am_stuck) := by
  cases g with
  | true => exact x rfl
  | false => exact low_Ac_s
theorem low_Ac_n {K : Nat} {h : am_H} {g : Bool} {A : am_A} (x : low_Ac K h A) : low_Ac K h (cond g am_stuck A) := by
  cases g with
  | true => exact low_Ac_s
  | false => exact x
theorem low_Ac_0 {K : Nat} {h : am_H} {g : Bool} {p1 : Nat} {p2 : Option Nat} {l s : List Value} : low_Ac K h (.inr (.inl (g, p1, p2, l, s, h))) := low_r h
theorem low_Ac_i {K : Nat} {h : am_H} {g : Bool} {o : Option Value ⊕ Nat} : low_Ac K h (.inl (cond g (some (o, h)) none)) := by
  cases g with
  | true => exact low_r h
  | false => trivial
theorem low_op (K : Nat) (rk : Nat → List Value → Nat) (ml : Nat → Nat) (b pc op a c d : Nat) (v : Value) (sw : List (Int32 × Nat)) (ls st : List Value) (h : am_H) : low_Ac K h (am_op K rk ml b pc op a c d v sw ls st h) := by
  unfold am_op
  split
  · exact low_Ac_0
  · unfold am_load
    split
    · exact low_Ac_c low_Ac_0
    · exact low_Ac_s
  · unfold am_store
    split
    · refine low_Ac_c ?_
      split
      · split
        · split
          · exact low_Ac_0
          · exact low_Ac_s
        · exact low_Ac_0
      · exact low_Ac_s
    · exact low_Ac_s
  · unfold am_iinc
    split
    · split
      · exact low_Ac_0
      · exact low_Ac_s
    · exact low_Ac_s
  · unfold am_opb
    split
    · exact low_Ac_0
    · exact low_Ac_s
  · unfold am_div
    split
    · exact low_Ac_0
    · exact low_Ac_s
  · unfold am_opu
    split
    · exact low_Ac_0
    · exact low_Ac_s
  · unfold am_conv
    split
    · exact low_Ac_0
    · exact low_Ac_0
    · exact low_Ac_s
  · unfold am_opl
    split
    · exact low_Ac_0
    · exact low_Ac_s
  · unfold am_opsl
    split
    · exact low_Ac_0
    · exact low_Ac_s
  · unfold am_olc
    split
    · exact low_Ac_0
    · exact low_Ac_s
  · unfold am_stk
    split
    · exact low_Ac_n low_Ac_0
    · exact low_Ac_n low_Ac_0
    · exact low_Ac_n low_Ac_0
    · exact low_Ac_s
  · exact low_Ac_0
  · unfold am_ic
    split
    · split
      · exact low_Ac_0
      · exact low_Ac_0
    · exact low_Ac_s
  · unfold am_iz
    split
    · split
      · exact low_Ac_0
      · exact low_Ac_0
    · exact low_Ac_s
  · unfold am_swi
    split
    · exact low_r h
    · exact low_Ac_s
  · unfold am_getf
    split
    · exact low_Ac_c low_Ac_0
    · exact low_Ac_s
  · unfold am_putf
    split
    · refine low_Ac_g (fun q => ?_)
      rw [Bool.and_eq_true] at q
      have ho := Nat.le_of_ble_eq_true q.2
      split
      · exact low_w ho
      · exact low_w ho
      · exact low_Ac_s
    · refine low_Ac_c ?_
      split
      · exact low_r h
      · exact low_Ac_s
    · exact low_Ac_s
  · unfold am_ald
    split
    · exact low_Ac_c low_Ac_0
    · exact low_Ac_s
  · unfold am_ast
    split
    · refine low_Ac_g (fun q => ?_)
      rw [Bool.and_eq_true, Bool.and_eq_true] at q
      exact low_w (Nat.le_of_ble_eq_true q.2.2)
    · exact low_Ac_c (low_r h)
    · exact low_Ac_c (low_r h)
    · exact low_Ac_s
  · unfold am_len
    split
    · exact low_Ac_c low_Ac_0
    · exact low_Ac_s
  · unfold am_newo
    exact low_Ac_c low_new
  · unfold am_newa
    split
    · exact low_Ac_c low_new
    · exact low_Ac_s
  · unfold am_call
    split
    · exact low_Ac_c (low_Ac_c (low_r h))
    · exact low_Ac_s
  · unfold am_ret
    split
    · exact low_r h
    · exact low_r h
    · exact low_r h
    · exact low_r h
    · exact low_Ac_i
    · exact low_Ac_i
    · exact low_Ac_i
    · exact low_Ac_s
  · unfold am_thw
    exact low_Ac_c low_gc
  · unfold am_copy
    split
    · refine low_Ac_g (fun q => ?_)
      rw [Bool.and_eq_true, Bool.and_eq_true, Bool.and_eq_true] at q
      exact low_w (Nat.le_of_ble_eq_true q.2.2.1)
    · exact low_Ac_s
  · unfold am_obj
    split
    · exact low_Ac_c low_Ac_0
    · exact low_Ac_s
  · exact low_Ac_s
theorem low_do {K : Nat} {P : am_P} {call : Nat → Nat → List Value → am_H → Option am_Res} {next : Nat → List Value → List Value → am_H → Option am_Res} (hc : ∀ k b as h r, call k b as h = some r → low_R K h r.2) (hn : ∀ pc ls st h r, next pc ls st h = some r → low_R K h r.2) {k pc len : Nat} {ls : List Value} {A : am_A} {h : am_H} {r : am_Res} (hA : low_Ac K h A) (e : am_do P call next k pc len ls A = some r) : low_R K h r.2 := by
  match A, hA, e with
  | .inl none, _, e => cases e
  | .inl (some q), hA, e => cases e; exact hA
  | .inr (.inl (g, p1, none, l, st, h')), hA, e =>
    cases g with
    | true => exact low_t hA (hn _ _ _ _ _ e)
    | false => cases e
  | .inr (.inl (g, p1, some p2, l, st, h')), hA, e =>
    cases g with
    | true => exact low_t hA (hn _ _ _ _ _ e)
    | false => exact low_t hA (hn _ _ _ _ _ e)
  | .inr (.inr (.inl (x, sw, d, l, st, h'))), hA, e =>
    have e : am_sw next x d l st h' sw = some r := e
    rw [am_sw_tg] at e
    exact low_t hA (hn _ _ _ _ _ e)
  | .inr (.inr (.inr (g, nt, k', b', as, q, h'))), hA, e =>
    cases g with
    | false => cases e
    | true =>
      have e : am_bd (call k' b' as h') (fun v h => next (pc + len) ls (v.toList ++ q) h) (fun c h => cond nt none (am_th (P.2.1 k pc c) next ls c h)) = some r := e
      cases hcall : call k' b' as h' with
      | none => rw [hcall] at e; cases e
      | some y =>
        have hy := hc _ _ _ _ _ hcall
        rw [hcall] at e
        obtain ⟨o, h3⟩ := y
        cases o with
        | inl v => exact low_t hA (low_t hy (hn _ _ _ _ _ e))
        | inr x =>
          cases nt with
          | true => cases e
          | false =>
            have e : am_th (P.2.1 k pc x) next ls x h3 = some r := e
            unfold am_th at e
            split at e
            · cases e
              exact low_t hA hy
            · split at e
              · exact low_t hA (low_t hy (hn _ _ _ _ _ e))
              · cases e
theorem low_ev {K : Nat} {P : am_P} : ∀ (n : Nat) {k b pc : Nat} {ls st : List Value} {h : am_H} {r : am_Res}, am_ev K P n k b pc ls st h = some r → low_R K h r.2
  | 0, _, _, _, _, _, _, _, e => by cases e
  | n + 1, k, b, pc, ls, st, h, r, e => by
    rw [am_ev] at e
    unfold am_stp at e
    split at e
    · cases e
    · exact low_do (fun _ _ _ _ _ => low_ev n) (fun _ _ _ _ _ => low_ev n) (low_op _ _ _ _ _ _ _ _ _ _ _ _ _ _) e
theorem low_run {k b pc : Nat} {ls st : List Value} {g N g' : Nat} {sw lv sw' lv' : Bool} {I I' : Nat → Nat → Int32} {L L' : Nat → Nat → Int64} {o : Option Value ⊕ Nat} (e : am_R k b pc ls st (am_hp g N sw lv I L) = some (o, am_hp g' N sw' lv' I' L')) : ∀ a, a < 75 → I' a = I a := by
  obtain ⟨n, hn⟩ := am_Run_iff.mp e
  exact (low_ev n hn (show 75 ≤ 186 by decide)).2
