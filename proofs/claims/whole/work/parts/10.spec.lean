/-! WHAT THE HEADS ARE AND DO, as numbers: the row (n, the day, who stands), sugar, lean, both opinions, who sits where, where who sits -/
abbrev tr_T : Type := (Nat × Int32 × Nat) × (Nat → Int32) × (Nat → Int32) × (Nat → Nat) × (Nat → Nat) × (Nat → Nat) × (Nat → Nat)
abbrev t_n (T : tr_T) : Nat := T.1.1
abbrev t_d (T : tr_T) : Int32 := T.1.2.1
abbrev t_s (T : tr_T) : Nat := T.1.2.2
abbrev t_su (T : tr_T) : Nat → Int32 := T.2.1
abbrev t_le (T : tr_T) : Nat → Int32 := T.2.2.1
abbrev t_fi (T : tr_T) : Nat → Nat := T.2.2.2.1
abbrev t_se (T : tr_T) : Nat → Nat := T.2.2.2.2.1
abbrev t_hd (T : tr_T) : Nat → Nat := T.2.2.2.2.2.1
abbrev t_st (T : tr_T) : Nat → Nat := T.2.2.2.2.2.2
/-- who stands -/
abbrev t_up (T : tr_T) (h : Nat) : Bool := (t_s T).testBit h
def t_ok (T : tr_T) : Prop := t_n T ≤ 8 ∧ t_s T < 2 ^ t_n T ∧ (0 ≤ t_d T ∧ t_d T ≤ 2000) ∧
  (∀ h, h < t_n T → (0 ≤ t_su T h ∧ t_su T h ≤ 99) ∧ ((-9) ≤ t_le T h ∧ t_le T h ≤ 9) ∧ t_fi T h < 64 ∧ t_se T h < 64 ∧ t_st T h < t_n T ∧ t_hd T (t_st T h) = h) ∧
  (∀ k, k < t_n T → t_hd T k < t_n T ∧ t_st T (t_hd T k) = k)
/-- the first of c places from k on -/
def fs (P : Nat → Bool) : Nat → Nat → Option Nat
  | 0, _ => none
  | c + 1, k => cond (P k) (some k) (fs P c (k + 1))
/-- the last place ahead of k -/
def ls_ (P : Nat → Bool) : Nat → Option Nat
  | 0 => none
  | k + 1 => cond (P k) (some k) (ls_ P k)
/-- a side: right or left -/
def sd (w : Bool) : Int32 := cond w 1 (-1)
def oi : Option Nat → Int32
  | none => -1
  | some h => Int32.ofNat h
/-- the next one who stands on a side -/
def t_nx (T : tr_T) (w : Bool) (h : Nat) : Option Nat := (cond w (fs (fun k => t_up T (t_hd T k)) (t_n T - 1 - t_st T h) (t_st T h + 1)) (ls_ (fun k => t_up T (t_hd T k)) (t_st T h))).map (t_hd T)
theorem fs_some {P : Nat → Bool} : ∀ {c k j : Nat}, fs P c k = some j → k ≤ j ∧ j < k + c ∧ P j = true
  | 0, _, _, h => by cases h
  | c + 1, k, j, h => by
    unfold fs at h
    cases hp : P k with
    | true =>
      rw [hp] at h
      cases h
      exact ⟨Nat.le_refl _, by omega, hp⟩
    | false =>
      rw [hp] at h
      obtain ⟨h1, h2, h3⟩ := fs_some h
      exact ⟨by omega, by omega, h3⟩
theorem ls_some {P : Nat → Bool} : ∀ {k j : Nat}, ls_ P k = some j → j < k ∧ P j = true
  | 0, _, h => by cases h
  | k + 1, j, h => by
    unfold ls_ at h
    cases hp : P k with
    | true =>
      rw [hp] at h
      cases h
      exact ⟨by omega, hp⟩
    | false =>
      rw [hp] at h
      obtain ⟨h1, h3⟩ := ls_some h
      exact ⟨by omega, h3⟩
/-- whose opinions -/
def t_op (T : tr_T) (h : Nat) : Nat := cond (decide (0 ≤ t_le T h)) (t_fi T h) (t_se T h)
def t_fo (T : tr_T) (h : Nat) : Nat := cond (decide (5 ≤ t_le T h)) ((t_nx T true h).getD h) (cond (decide (t_le T h ≤ (-5))) ((t_nx T false h).getD h) h)
def t_ba (T : tr_T) (h : Nat) : Nat := t_op T (t_fo T h)
/-- who votes for q -/
def t_for (T : tr_T) (q : Nat) : Nat := bs (t_n T) (fun h => t_up T h && (t_ba T h).testBit q)
def t_ps (T : tr_T) (q : Nat) : Bool := decide (b_pc (t_s T) < 2 * b_pc (t_for T q))
def t_pg (T : tr_T) : Nat := bs 6 (t_ps T)
theorem t_nx_lt {T : tr_T} (ht : t_ok T) {w : Bool} {h j : Nat} (hh : h < t_n T) (e : t_nx T w h = some j) : j < t_n T ∧ t_up T j = true := by
  unfold t_nx at e
  rw [Option.map_eq_some_iff] at e
  obtain ⟨k, e, rfl⟩ := e
  have h1 := (ht.2.2.2.1 h hh).2.2.2.2.1
  cases w with
  | true =>
    obtain ⟨a, b, c⟩ := fs_some e
    exact ⟨(ht.2.2.2.2 k (by omega)).1, c⟩
  | false =>
    obtain ⟨a, c⟩ := ls_some e
    exact ⟨(ht.2.2.2.2 k (by omega)).1, c⟩
theorem t_fo_lt {T : tr_T} (ht : t_ok T) {h : Nat} (hh : h < t_n T) : t_fo T h < t_n T := by
  have key : ∀ w, (t_nx T w h).getD h < t_n T := by
    intro w
    cases e : t_nx T w h with
    | none => exact hh
    | some j => exact (t_nx_lt ht hh e).1
  unfold t_fo
  cases decide (5 ≤ t_le T h) with
  | true => exact key true
  | false =>
    cases decide (t_le T h ≤ (-5)) with
    | true => exact key false
    | false => exact hh
theorem t_op_lt {T : tr_T} (ht : t_ok T) {h : Nat} (hh : h < t_n T) : t_op T h < 64 := by
  unfold t_op
  have := ht.2.2.2.1 h hh
  cases decide (0 ≤ t_le T h) with
  | true => exact this.2.2.1
  | false => exact this.2.2.2.1
/-- a row of the class at r holds T -/
def rC (r : Nat) (T : tr_T) (I : Nat → Nat → Int32) : Prop := I r 0 = Int32.ofNat (t_n T) ∧ I r 1 = t_d T ∧ I r 2 = Int32.ofNat (t_s T) ∧
  (∀ h, h < t_n T → I (r + 1) h = t_su T h ∧ I (r + 2) h = t_le T h ∧ I (r + 3) h = Int32.ofNat (t_fi T h) ∧ I (r + 4) h = Int32.ofNat (t_se T h) ∧ I (r + 5) h = Int32.ofNat (t_st T h)) ∧
  (∀ k, k < t_n T → I (r + 6) k = Int32.ofNat (t_hd T k))
/-- the reference's own row holds T -/
def rM (T : tr_T) (I : Nat → Nat → Int32) : Prop := I 151 0 = Int32.ofNat (t_n T) ∧ I 147 33 = t_d T ∧ I 147 34 = Int32.ofNat (b_no (t_n T) (t_s T)) ∧
  (∀ h, h < t_n T → I 162 h = t_su T h ∧ I 163 h = t_le T h ∧ I 165 h = Int32.ofNat (t_fi T h) ∧ I 166 h = Int32.ofNat (t_se T h)) ∧
  (∀ k, k < t_n T → I 164 k = Int32.ofNat (t_hd T k))
