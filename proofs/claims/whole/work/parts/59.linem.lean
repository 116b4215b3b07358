/-! LINES: the reference while it reads -/
abbrev q_l (Q : s_Q) (w : Bool) : List Int32 := (q_r Q w).getD []
def mRu (w : Bool) (l : List Int32) (I : Nat → Nat → Int32) : Prop := I 151 (cond w 7 6) = Int32.ofNat l.length ∧ ∀ i, i < l.length → I (cond w 159 158) (700 + i) = mc (l.getD i 0)
def dM (Q : s_Q) (I : Nat → Nat → Int32) : Prop := I 151 4 = Int32.ofNat (q_n Q) ∧ I 151 5 = Int32.ofNat (q_c Q) ∧ (∀ i, i < q_n Q → I 152 (8 + i) = cond ((q_m Q).testBit i) 1 0 ∧ I 153 (8 + i) = Int32.ofNat (q_h Q i).1 ∧ I 154 (8 + i) = Int32.ofNat (q_h Q i).2.1 ∧ I 155 (8 + i) = Int32.ofNat (q_h Q i).2.2.1 ∧ I 156 (8 + i) = Int32.ofNat (q_h Q i).2.2.2) ∧ (∀ j, j < q_c Q → I 157 (8 + j) = Int32.ofNat (q_t Q j)) ∧ ∀ w, mRu w (q_l Q w) I
def k_of (l : List Int32) : s_K := (l.length, fun i => l.getD i 0)
def lM (X : x_X) (q : Nat) (Q : s_Q) (I : Nat → Nat → Int32) : Prop := ∃ w, mG X w q (k_of (q_l Q w)) I ∧ dM Q I
def fK (I I' : Nat → Nat → Int32) : Prop := (∀ a, a ≠ 147 → a < 151 ∨ 159 < a → I' a = I a) ∧ (∀ j, j < 17 ∨ j = 18 ∨ j = 25 ∨ 26 < j → I' 147 j = I 147 j) ∧ (∀ j, j < 4 ∨ 7 < j → I' 151 j = I 151 j) ∧ (∀ a, 152 ≤ a → a ≤ 157 → ∀ i, i < 8 → I' a i = I a i) ∧ ∀ a, 158 ≤ a → a ≤ 159 → ∀ i, i < 700 → I' a i = I a i
section MLINE
variable {I I' : Nat → Nat → Int32} {X : x_X} {q : Nat} {Q : s_Q} {w : Bool}
theorem fK_rfl : fK I I := ⟨fun _ _ _ => rfl, fun _ _ => rfl, fun _ _ => rfl, fun _ _ _ _ _ => rfl, fun _ _ _ _ _ => rfl⟩
theorem fK_tr {I'' : Nat → Nat → Int32} (h1 : fK I I') (h2 : fK I' I'') : fK I I'' := ⟨fun a p q => (h2.1 a p q).trans (h1.1 a p q), fun j p => (h2.2.1 j p).trans (h1.2.1 j p), fun j p => (h2.2.2.1 j p).trans (h1.2.2.1 j p), fun a p q i r => (h2.2.2.2.1 a p q i r).trans (h1.2.2.2.1 a p q i r), fun a p q i r => (h2.2.2.2.2 a p q i r).trans (h1.2.2.2.2 a p q i r)⟩
theorem w158 (w : Bool) : ((cond w 159 158 : Nat) = 159 ∨ (cond w 159 158 : Nat) = 158) ∧ ((cond w 7 6 : Nat) = 7 ∨ (cond w 7 6 : Nat) = 6) := by cases w <;> decide
theorem fK_fD (h : fDm w I I') : fK I I' := by
  obtain ⟨w1, w2⟩ := w158 w
  refine ⟨fun a p q => h.1 a p (by omega) (by omega), fun j p => h.2.1 j (by omega), fun j p => h.2.2.1 j (by omega), fun a p q i r => by rw [h.1 a (by omega) (by omega) (by omega)], fun a p q i r => ?_⟩
  by_cases e : a = cond w 159 158
  · rw [e]
    exact h.2.2.2 i r
  · rw [h.1 a (by omega) (by omega) e]
theorem kMs_mR {l : List Int32} (h : kMs w (k_of l) I) : mRu w l I := ⟨h.2.1, h.2.2⟩
theorem mR_kMs {l : List Int32} (h : mRu w l I) (h26 : I 147 26 = cond w 1 0) : kMs w (k_of l) I := ⟨h26, h.1, h.2⟩
/-- what is read stays -/
theorem dM_fD {q' : Nat} (hd : dM Q I) (h : fDm w I I') (hG : mG X w q' (k_of (q_l Q w)) I') : dM Q I' := by
  obtain ⟨w1, w2⟩ := w158 w
  obtain ⟨a1, a2, a3, a4, a5⟩ := hd
  refine ⟨(h.2.2.1 4 (by omega)).trans a1, (h.2.2.1 5 (by omega)).trans a2, ?_, ?_, fun w' => ?_⟩
  · rw [h.1 152 (by decide) (by decide) (by omega), h.1 153 (by decide) (by decide) (by omega), h.1 154 (by decide) (by decide) (by omega), h.1 155 (by decide) (by decide) (by omega), h.1 156 (by decide) (by decide) (by omega)]
    exact a3
  · rw [h.1 157 (by decide) (by decide) (by omega)]
    exact a4
  · by_cases e : w' = w
    · rw [e]
      exact kMs_mR hG.2.2
    · have h1 := a5 w'
      have n1 : (cond w' 7 6 : Nat) ≠ cond w 7 6 := by cases w <;> cases w' <;> first | decide | exact absurd rfl e
      have n2 : (cond w' 159 158 : Nat) ≠ cond w 159 158 := by cases w <;> cases w' <;> first | decide | exact absurd rfl e
      obtain ⟨w3, w4⟩ := w158 w'
      refine ⟨(h.2.2.1 _ n1).trans h1.1, ?_⟩
      rw [h.1 (cond w' 159 158) (by omega) (by omega) n2]
      exact h1.2
/-- a cell of the heads' tables is written -/
theorem stM_up {k : s_K} {r : p_E} {a i : Nat} {x : Int32} (ha : 152 ≤ a ∧ a ≤ 157) (h : stM X w k r I) : stM X w k r (am_up I a (upd (I a) i x)) := by
  obtain ⟨w1, w2⟩ := w158 w
  cases r with
  | inl fp => exact ⟨by rw [up_ne (by omega)]; exact h.1, by rw [up_ne (by omega)]; exact h.2⟩
  | inr q' =>
    have h' : mG X w q' k I := h
    refine ⟨mT_fr h'.1 (fun j _ _ => by rw [up_ne (by omega)]) (by rw [up_ne (by omega)]), by rw [up_ne (by omega)]; exact h'.2.1, by rw [up_ne (by omega)]; exact h'.2.2.1, by rw [up_ne (by omega)]; exact h'.2.2.2.1, ?_⟩
    rw [up_ne (by omega)]
    exact h'.2.2.2.2
theorem sO_up {a i : Nat} {x : Int32} (ha : 152 ≤ a) (h : sO I) : sO (am_up I a (upd (I a) i x)) := sO_lo h fun b p => up_ne (by omega)
theorem fK_up {a i : Nat} {x : Int32} (ha : 152 ≤ a ∧ a ≤ 157) (hi : 8 ≤ i) : fK I (am_up I a (upd (I a) i x)) := by
  refine ⟨fun b p q => up_ne (by omega), fun j p => by rw [up_ne (by omega)], fun j p => by rw [up_ne (by omega)], fun b p q j r => ?_, fun b p q j r => by rw [up_ne (by omega)]⟩
  by_cases e : b = a
  · rw [e, up_same, upd_ne (by omega)]
  · rw [up_ne e]
end MLINE
/-- a sign after a line -/
def sgL (X : x_X) (c : Nat) (r : p_L) : p_L := match r with
  | .inl fp => .inl fp
  | .inr y => cond (decide (x_K X y.1 = c)) (.inr (x_E X y.1, y.2)) (.inl (1, x_S X y.1))
def lTp (Q : s_Q) (r : (Nat × Nat) ⊕ (Nat × Nat × (Nat → Nat))) : p_L := match r with
  | .inl fp => .inl fp
  | .inr y => .inr (y.1, (Q.1, (y.2.1, y.2.2), Q.2.2))
theorem lT2_s (X : x_X) (Q : s_Q) (r : (Nat × Nat) ⊕ (Nat × Nat × (Nat → Nat))) : lT2 X Q r = sgL X 59 (lTp Q r) := by
  cases r <;> rfl
def lUp (Q : s_Q) (w : Bool) (r : p_R) : p_L := match r with
  | .inl fp => .inl fp
  | .inr y => .inr (y.1, q_set Q w y.2)
theorem lU2_s (X : x_X) (Q : s_Q) (w : Bool) (r : p_R) : lU2 X Q w r = sgL X 59 (lUp Q w r) := by
  cases r <;> rfl
