/-! cells and slots only grow -/
def am_le (h h' : am_H) : Prop := am_c h ≤ am_c h' ∧ h.1.2.2 ≤ h'.1.2.2
theorem am_le_r (h : am_H) : am_le h h := ⟨Nat.le_refl _, Nat.le_refl _⟩
theorem am_le_t {a b c : am_H} (x : am_le a b) (y : am_le b c) : am_le a c := ⟨Nat.le_trans x.1 y.1, Nat.le_trans x.2 y.2⟩
theorem am_le_new {h : am_H} {q : Nat × Nat} {w : Nat} : am_le h (am_new h q w) := by
  constructor
  · show h.1.1 + h.1.2.1 ≤ h.1.1 + 1 + h.1.2.1
    omega
  · exact Nat.le_add_right _ _
theorem am_le_gc {h : am_H} {w : Nat} : am_le h (am_gc h w) := by
  constructor
  · show h.1.1 + h.1.2.1 ≤ h.1.1 + (h.1.2.1 + 1)
    omega
  · exact Nat.le_add_right _ _
def am_Ac (h : am_H) : am_A → Prop
  | .inl none => True
  | .inl (some r) => am_le h r.2
  | .inr (.inl x) => am_le h x.2.2.2.2.2
  | .inr (.inr (.inl x)) => am_le h x.2.2.2.2.2
  | .inr (.inr (.inr x)) => am_le h x.2.2.2.2.2.2
theorem am_Ac_s {h : am_H} : am_Ac h am_stuck := trivial
theorem am_Ac_c {h : am_H} {g : Bool} {A : am_A} (x : am_Ac h A) : am_Ac h (cond g A am_stuck) := by
  cases g with
  | true => exact x
  | false => exact am_Ac_s
theorem am_Ac_n {h : am_H} {g : Bool} {A : am_A} (x : am_Ac h A) : am_Ac h (cond g am_stuck A) := by
  cases g with
  | true => exact am_Ac_s
  | false => exact x
theorem am_Ac_0 {h : am_H} {g : Bool} {p1 : Nat} {p2 : Option Nat} {l s : List Value} : am_Ac h (.inr (.inl (g, p1, p2, l, s, h))) := am_le_r h
theorem am_Ac_i {h : am_H} {g : Bool} {o : Option Value ⊕ Nat} : am_Ac h (.inl (cond g (some (o, h)) none)) := by
  cases g with
  | true => exact am_le_r h
  | false => trivial
theorem am_op_le (K : Nat) (rk : Nat → List Value → Nat) (ml : Nat → Nat) (b pc op a c d : Nat) (v : Value) (sw : List (Int32 × Nat)) (ls st : List Value) (h : am_H) : am_Ac h (am_op K rk ml b pc op a c d v sw ls st h) := by
  unfold am_op
  split
  · exact am_Ac_0
  · unfold am_load
    split
    · exact am_Ac_c am_Ac_0
    · exact am_Ac_s
  · unfold am_store
    split
    · refine am_Ac_c ?_
      split
      · split
        · split
          · exact am_Ac_0
          · exact am_Ac_s
        · exact am_Ac_0
      · exact am_Ac_s
    · exact am_Ac_s
  · unfold am_iinc
    split
    · split
      · exact am_Ac_0
      · exact am_Ac_s
    · exact am_Ac_s
  · unfold am_opb
    split
    · exact am_Ac_0
    · exact am_Ac_s
  · unfold am_div
    split
    · exact am_Ac_0
    · exact am_Ac_s
  · unfold am_opu
    split
    · exact am_Ac_0
    · exact am_Ac_s
  · unfold am_conv
    split
    · exact am_Ac_0
    · exact am_Ac_0
    · exact am_Ac_s
  · unfold am_opl
    split
    · exact am_Ac_0
    · exact am_Ac_s
  · unfold am_opsl
    split
    · exact am_Ac_0
    · exact am_Ac_s
  · unfold am_olc
    split
    · exact am_Ac_0
    · exact am_Ac_s
  · unfold am_stk
    split
    · exact am_Ac_n am_Ac_0
    · exact am_Ac_n am_Ac_0
    · exact am_Ac_n am_Ac_0
    · exact am_Ac_s
  · exact am_Ac_0
  · unfold am_ic
    split
    · split
      · exact am_Ac_0
      · exact am_Ac_0
    · exact am_Ac_s
  · unfold am_iz
    split
    · split
      · exact am_Ac_0
      · exact am_Ac_0
    · exact am_Ac_s
  · unfold am_swi
    split
    · exact am_le_r h
    · exact am_Ac_s
  · unfold am_getf
    split
    · exact am_Ac_c am_Ac_0
    · exact am_Ac_s
  · unfold am_putf
    split
    · refine am_Ac_c ?_
      split
      · exact am_le_r h
      · exact am_le_r h
      · exact am_Ac_s
    · refine am_Ac_c ?_
      split
      · exact am_le_r h
      · exact am_Ac_s
    · exact am_Ac_s
  · unfold am_ald
    split
    · exact am_Ac_c am_Ac_0
    · exact am_Ac_s
  · unfold am_ast
    split
    · exact am_Ac_c (am_le_r h)
    · exact am_Ac_c (am_le_r h)
    · exact am_Ac_c (am_le_r h)
    · exact am_Ac_s
  · unfold am_len
    split
    · exact am_Ac_c am_Ac_0
    · exact am_Ac_s
  · unfold am_newo
    exact am_Ac_c am_le_new
  · unfold am_newa
    split
    · exact am_Ac_c am_le_new
    · exact am_Ac_s
  · unfold am_call
    split
    · exact am_Ac_c (am_Ac_c (am_le_r h))
    · exact am_Ac_s
  · unfold am_ret
    split
    · exact am_le_r h
    · exact am_le_r h
    · exact am_le_r h
    · exact am_le_r h
    · exact am_Ac_i
    · exact am_Ac_i
    · exact am_Ac_i
    · exact am_Ac_s
  · unfold am_thw
    exact am_Ac_c am_le_gc
  · unfold am_copy
    split
    · exact am_Ac_c (am_le_r h)
    · exact am_Ac_s
  · unfold am_obj
    split
    · exact am_Ac_c am_Ac_0
    · exact am_Ac_s
  · exact am_Ac_s
theorem am_do_le {P : am_P} {call : Nat → Nat → List Value → am_H → Option am_Res} {next : Nat → List Value → List Value → am_H → Option am_Res} (hc : ∀ k b as h r, call k b as h = some r → am_le h r.2) (hn : ∀ pc ls st h r, next pc ls st h = some r → am_le h r.2) {k pc len : Nat} {ls : List Value} {A : am_A} {h : am_H} {r : am_Res} (hA : am_Ac h A) (e : am_do P call next k pc len ls A = some r) : am_le h r.2 := by
  match A, hA, e with
  | .inl none, _, e => cases e
  | .inl (some q), hA, e => cases e; exact hA
  | .inr (.inl (g, p1, none, l, st, h')), hA, e =>
    cases g with
    | true => exact am_le_t hA (hn _ _ _ _ _ e)
    | false => cases e
  | .inr (.inl (g, p1, some p2, l, st, h')), hA, e =>
    cases g with
    | true => exact am_le_t hA (hn _ _ _ _ _ e)
    | false => exact am_le_t hA (hn _ _ _ _ _ e)
  | .inr (.inr (.inl (x, sw, d, l, st, h'))), hA, e =>
    have e : am_sw next x d l st h' sw = some r := e
    rw [am_sw_tg] at e
    exact am_le_t hA (hn _ _ _ _ _ e)
  | .inr (.inr (.inr (g, nt, k', b', as, q, h'))), hA, e =>
    cases g with
    | false => cases e
    | true =>
      have e : am_bd (call k' b' as h') (fun v h => next (pc + len) ls (v.toList ++ q) h) (fun c h => cond nt none (am_th (P.2.1 k pc c) next ls c h)) = some r := e
      cases hcall : call k' b' as h' with
      | none => rw [hcall] at e; cases e
      | some y =>
        have hy := hc _ _ _ _ _ hcall
        rw [hcall] at e
        obtain ⟨o, h3⟩ := y
        cases o with
        | inl v => exact am_le_t hA (am_le_t hy (hn _ _ _ _ _ e))
        | inr x =>
          cases nt with
          | true => cases e
          | false =>
            have e : am_th (P.2.1 k pc x) next ls x h3 = some r := e
            unfold am_th at e
            split at e
            · cases e
              exact am_le_t hA hy
            · split at e
              · exact am_le_t hA (am_le_t hy (hn _ _ _ _ _ e))
              · cases e
theorem am_ev_le2 {K : Nat} {P : am_P} : ∀ (n : Nat) {k b pc : Nat} {ls st : List Value} {h : am_H} {r : am_Res}, am_ev K P n k b pc ls st h = some r → am_le h r.2
  | 0, _, _, _, _, _, _, _, e => by cases e
  | n + 1, k, b, pc, ls, st, h, r, e => by
    rw [am_ev] at e
    unfold am_stp at e
    split at e
    · cases e
    · exact am_do_le (fun _ _ _ _ _ => am_ev_le2 n) (fun _ _ _ _ _ => am_ev_le2 n) (am_op_le _ _ _ _ _ _ _ _ _ _ _ _ _ _) e
