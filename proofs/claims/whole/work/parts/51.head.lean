/-! LINES: what has been read, and a head's line -/
abbrev s_H : Type := Nat × Nat × Nat × Nat
abbrev s_Q : Type := (Nat × (Nat → s_H) × Nat) × (Nat × (Nat → Nat)) × Option (List Int32) × Option (List Int32)
abbrev q_n (Q : s_Q) : Nat := Q.1.1
abbrev q_h (Q : s_Q) : Nat → s_H := Q.1.2.1
abbrev q_m (Q : s_Q) : Nat := Q.1.2.2
abbrev q_c (Q : s_Q) : Nat := Q.2.1.1
abbrev q_t (Q : s_Q) : Nat → Nat := Q.2.1.2
abbrev q_r (Q : s_Q) (w : Bool) : Option (List Int32) := cond w Q.2.2.2 Q.2.2.1
def q_add (Q : s_Q) (b : Bool) (h : s_H) : s_Q := ((q_n Q + 1, fun i => if i = q_n Q then h else q_h Q i, cond b (q_m Q ||| 2 ^ q_n Q) (q_m Q)), Q.2)
def gH_ (h : s_H) : Prop := 1 ≤ h.1 ∧ h.1 ≤ 99 ∧ h.2.1 ≤ 9 ∧ h.2.2.1 ≤ 63 ∧ h.2.2.2 ≤ 63
def gQ (Q : s_Q) : Prop := q_n Q ≤ 8 ∧ q_m Q < 2 ^ q_n Q ∧ (∀ i, i < q_n Q → gH_ (q_h Q i)) ∧ (q_c Q ≤ 8 ∧ ∀ j, j < q_c Q → q_t Q j ≤ 9) ∧ ∀ w cs, q_r Q w = some cs → bl w 31 cs 0 = some 1 ∧ 0 < cs.length ∧ cs.length ≤ 700
def dH (rc : Nat) (Q : s_Q) (I : Nat → Nat → Int32) : Prop := I rc 0 = Int32.ofNat (q_n Q) ∧ I rc 1 = Int32.ofNat (q_m Q) ∧ (∀ i, i < q_n Q → I (rc + 1) i = Int32.ofNat (q_h Q i).1 ∧ I (rc + 2) i = Int32.ofNat (q_h Q i).2.1 ∧ I (rc + 3) i = Int32.ofNat (q_h Q i).2.2.1 ∧ I (rc + 4) i = Int32.ofNat (q_h Q i).2.2.2) ∧ I rc 6 = Int32.ofNat (q_c Q) ∧ ∀ j, j < q_c Q → I (rc + 5) j = Int32.ofNat (q_t Q j)
def dR (rc : Nat) (w : Bool) (o : Option (List Int32)) (k : s_K) (I : Nat → Nat → Int32) : Prop := I (rc + cond w 7 6) 0 = Int32.ofNat (cond w 7 5) ∧ I (rc + cond w 7 6) 1 = cond o.isSome 1 0 ∧ ∀ cs, o = some cs → ∃ p, I (rc + cond w 7 6) 2 = Int32.ofNat p ∧ I (rc + cond w 7 6) 3 = Int32.ofNat (p + cs.length) ∧ p + cs.length ≤ k.1 ∧ ∀ i, i < cs.length → k.2 (p + i) = cs.getD i 0
def lC (X : x_X) (rc q : Nat) (Q : s_Q) (I : Nat → Nat → Int32) : Prop := ∃ k : s_K, k.1 ≤ q ∧ pG X rc q k I ∧ dH rc Q I ∧ ∀ w, dR rc w (q_r Q w) k I
def fL (rc : Nat) (I I' : Nat → Nat → Int32) : Prop := (∀ a, a ≠ 76 → a ≠ 77 → (a < rc ∨ rc + 8 < a) → I' a = I a) ∧ I' 77 1 = I 77 1
abbrev p_L : Type := (Nat × Nat) ⊕ (Nat × s_Q)
def lE (X : x_X) (rc : Nat) (r : p_L) (I : Nat → Nat → Int32) : Prop := match r with
  | .inl fp => I 76 1 = Int32.ofNat fp.1 ∧ I 76 2 = Int32.ofNat fp.2
  | .inr y => lC X rc y.1 y.2 I
def lH (X : x_X) (Q : s_Q) (b : Bool) (q : Nat) : p_L := cond (decide (q_n Q = 8)) (.inl (2, x_S X q)) (match sR X 59 (cond b (nR X 0 63 (nR X 0 63 (nR X 0 9 (nR X 1 99 (.inr (x_E X q)))))) (nR X 0 63 (nR X 0 9 (nR X 1 99 (.inr (x_E X q)))))) with
  | .inl fp => .inl fp
  | .inr q' => .inr (q', q_add Q b (nV X 1 99 (.inr (x_E X q)), nV X 0 9 (nR X 1 99 (.inr (x_E X q))), nV X 0 63 (nR X 0 9 (nR X 1 99 (.inr (x_E X q)))), cond b (nV X 0 63 (nR X 0 63 (nR X 0 9 (nR X 1 99 (.inr (x_E X q)))))) (nV X 0 63 (nR X 0 9 (nR X 1 99 (.inr (x_E X q))))))))
section HEAD
variable {g N : Nat} {sw lv : Bool} {I I' : Nat → Nat → Int32} {L : Nat → Nat → Int64} {X : x_X} {rc q : Nat} {Q : s_Q} {w : Bool} {k : s_K}
theorem fL_rfl : fL rc I I := ⟨fun _ _ _ _ => rfl, rfl⟩
theorem fL_tr {I'' : Nat → Nat → Int32} (h1 : fL rc I I') (h2 : fL rc I' I'') : fL rc I I'' := ⟨fun a p q r => (h2.1 a p q r).trans (h1.1 a p q r), h2.2.trans h1.2⟩
theorem fL_fP (h : fP rc I I') : fL rc I I' := ⟨fun a p q r => h.1 a p q (by omega) (by omega), h.2.1⟩
theorem pG_fr (h : pG X rc q k I) (e1 : I' 77 = I 77) (e2 : I' 78 = I 78) (e3 : I' 76 1 = I 76 1) (e4 : I' rc 11 = I rc 11) (e5 : I' (rc + 8) = I (rc + 8)) : pG X rc q k I' := by
  refine ⟨cT_fr h.1 e1 e2, e3.trans h.2.1, e4.trans h.2.2.1, ?_⟩
  rw [e5]
  exact h.2.2.2
theorem dH_fP (hr : am_isc rc) (h : dH rc Q I) (f : fP rc I I') : dH rc Q I' := by
  have h1 : ∀ m, 1 ≤ m → m ≤ 7 → I' (rc + m) = I (rc + m) := fun m p q => f.1 _ (by rcases hr with rfl | rfl <;> omega) (by rcases hr with rfl | rfl <;> omega) (by omega) (by omega)
  obtain ⟨a1, a2, a3, a4, a5⟩ := h
  refine ⟨(f.2.2.1 0 (by decide)).trans a1, (f.2.2.1 1 (by decide)).trans a2, ?_, (f.2.2.1 6 (by decide)).trans a4, ?_⟩
  · rw [h1 1 (by decide) (by decide), h1 2 (by decide) (by decide), h1 3 (by decide) (by decide), h1 4 (by decide) (by decide)]
    exact a3
  · rw [h1 5 (by decide) (by decide)]
    exact a5
theorem dR_fr {o : Option (List Int32)} (h : dR rc w o k I) (e : I' (rc + cond w 7 6) = I (rc + cond w 7 6)) : dR rc w o k I' := by
  unfold dR at h ⊢
  rw [e]
  exact h
theorem dR_fP {o : Option (List Int32)} (hr : am_isc rc) (h : dR rc w o k I) (f : fP rc I I') : dR rc w o k I' :=
  dR_fr h (f.1 _ (by rcases hr with rfl | rfl <;> cases w <;> decide) (by rcases hr with rfl | rfl <;> cases w <;> decide) (by cases w with | true => exact (by omega : rc + 7 ≠ rc) | false => exact (by omega : rc + 6 ≠ rc)) (by cases w with | true => exact (by omega : rc + 7 ≠ rc + 8) | false => exact (by omega : rc + 6 ≠ rc + 8)))
theorem sO_fL (hr : am_isc rc) (h : fL rc I I') (hs : sO I) : sO I' := sO_lo hs fun a p => h.1 a (by omega) (by omega) (Or.inl (by rcases hr with rfl | rfl <;> omega))
end HEAD
