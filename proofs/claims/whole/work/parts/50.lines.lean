/-! LINES: numbers and signs one after another, good or bad -/
abbrev p_E : Type := (Nat × Nat) ⊕ Nat
def gE (X : x_X) (r : p_E) : Prop := match r with
  | .inl fp => 0 < fp.1 ∧ fp.1 < 100 ∧ fp.2 ≤ X.1
  | .inr q => q ≤ X.1
def stC (X : x_X) (rc : Nat) (k : s_K) (r : p_E) (I : Nat → Nat → Int32) : Prop := match r with
  | .inl fp => pF X rc fp.1 fp.2 I
  | .inr q => pG X rc q k I
def stM (X : x_X) (w : Bool) (k : s_K) (r : p_E) (I : Nat → Nat → Int32) : Prop := match r with
  | .inl fp => mF fp.1 fp.2 I
  | .inr q => mG X w q k I
def nR (X : x_X) (lo hi : Nat) (r : p_E) : p_E := match r with
  | .inl fp => .inl fp
  | .inr q => cond (decide (nf X q lo hi = 0)) (.inr (x_E X q)) (.inl (nf X q lo hi, x_S X q))
def nV (X : x_X) (lo hi : Nat) (r : p_E) : Nat := match r with
  | .inl _ => 0
  | .inr q => cond (decide (nf X q lo hi = 0)) (x_N X q) 0
def sR (X : x_X) (c : Nat) (r : p_E) : p_E := match r with
  | .inl fp => .inl fp
  | .inr q => cond (decide (x_K X q = c)) (.inr (x_E X q)) (.inl (1, x_S X q))
def tR (X : x_X) (r : p_E) : p_E := match r with
  | .inl fp => .inl fp
  | .inr q => .inr (x_E X q)
theorem nR_t {X : x_X} {lo hi q : Nat} (e : nf X q lo hi = 0) : nR X lo hi (.inr q) = .inr (x_E X q) ∧ nV X lo hi (.inr q) = x_N X q := by
  unfold nR nV
  dsimp only
  rw [d_t e, d_t e]
  exact ⟨rfl, rfl⟩
theorem nR_f {X : x_X} {lo hi q : Nat} (e : nf X q lo hi ≠ 0) : nR X lo hi (.inr q) = .inl (nf X q lo hi, x_S X q) ∧ nV X lo hi (.inr q) = 0 := by
  unfold nR nV
  dsimp only
  rw [d_f e, d_f e]
  exact ⟨rfl, rfl⟩
theorem sR_t {X : x_X} {c q : Nat} (e : x_K X q = c) : sR X c (.inr q) = .inr (x_E X q) := by
  unfold sR
  dsimp only
  rw [d_t e]
theorem sR_f {X : x_X} {c q : Nat} (e : x_K X q ≠ c) : sR X c (.inr q) = .inl (1, x_S X q) := by
  unfold sR
  dsimp only
  rw [d_f e]
theorem gE_n {X : x_X} {lo hi : Nat} {r : p_E} (h : gE X r) : gE X (nR X lo hi r) := by
  cases r with
  | inl fp => exact h
  | inr q =>
    have hq : q ≤ X.1 := h
    by_cases e : nf X q lo hi = 0
    · rw [(nR_t e).1]
      exact (x_E_le hq).2.1
    · rw [(nR_f e).1]
      refine ⟨?_, ?_, (x_S_le hq).2⟩
      · show 0 < nf X q lo hi
        omega
      · show nf X q lo hi < 100
        rcases nf_n e with e | e <;> omega
theorem gE_s {X : x_X} {c : Nat} {r : p_E} (h : gE X r) : gE X (sR X c r) := by
  cases r with
  | inl fp => exact h
  | inr q =>
    have hq : q ≤ X.1 := h
    by_cases e : x_K X q = c
    · rw [sR_t e]
      exact (x_E_le hq).2.1
    · rw [sR_f e]
      exact ⟨by show 0 < 1; decide, by show 1 < 100; decide, (x_S_le hq).2⟩
theorem nV_le {X : x_X} {lo hi : Nat} {r : p_E} : nV X lo hi r ≤ hi ∧ ∀ q, nR X lo hi r = .inr q → lo ≤ nV X lo hi r := by
  cases r with
  | inl fp => exact ⟨Nat.zero_le _, fun q e => by cases e⟩
  | inr q =>
    by_cases e : nf X q lo hi = 0
    · rw [(nR_t e).2]
      exact ⟨(nf_0 e).2.2, fun _ _ => (nf_0 e).2.1⟩
    · rw [(nR_f e).2]
      refine ⟨Nat.zero_le _, fun q' e2 => ?_⟩
      rw [(nR_f e).1] at e2
      cases e2
section LINES
variable {g N : Nat} {sw lv : Bool} {I : Nat → Nat → Int32} {L : Nat → Nat → Int64} {X : x_X} {rc : Nat} {w : Bool} {k : s_K} {r : p_E}
theorem C_nE (hx : x_ok X) (hr : am_isc rc) (hs : sO I) (hk : k.1 ≤ 700) (hg : gE X r) (h : stC X rc k r I) {lo hi : Nat} (h1 : lo < 100000) (h2 : hi < 100000) : ∃ I', am_R 68 9 0 [.ref 76, .int (Int32.ofNat lo), .int (Int32.ofNat hi), am_u] [] (am_hp g N sw lv I L) = some (.inl (some (.int (Int32.ofNat (nV X lo hi r)))), am_hp g N sw lv I' L) ∧ stC X rc k (nR X lo hi r) I' ∧ fP rc I I' ∧ sO I' := by
  cases r with
  | inl fp =>
    refine ⟨I, ?_, h, fP_rfl, hs⟩
    rw [y_Rd_readNumber_0 _ _, d_f (pF_ne h hg.1 hg.2.1)]
    rfl
  | inr q =>
    by_cases e : nf X q lo hi = 0
    · rw [(nR_t e).1, (nR_t e).2]
      exact C_num1 hx hr hs hg h h1 h2 e
    · rw [(nR_f e).1, (nR_f e).2]
      obtain ⟨I1, a1, a2, a3⟩ := C_num0 (g := g) (N := N) (sw := sw) (lv := lv) (L := L) hx hr hk hg h h1 h2 e
      exact ⟨I1, a1, a2, a3, sO_fP hr a3 hs⟩
theorem M_nE (hx : x_ok X) (hs : sO I) (hg : gE X r) (h : stM X w k r I) {lo hi : Nat} (h1 : lo < 10000) (h2 : hi < 10000) : ∃ I', am_R 156 3 0 [.ref 147, .int (Int32.ofNat lo), .int (Int32.ofNat hi), am_u] [] (am_hp g N sw lv I L) = some (.inl (some (.int (Int32.ofNat (nV X lo hi r)))), am_hp g N sw lv I' L) ∧ stM X w k (nR X lo hi r) I' ∧ fDm w I I' ∧ sO I' := by
  cases r with
  | inl fp =>
    refine ⟨I, ?_, h, fDm_rfl, hs⟩
    rw [y_Mo_readNumber_0 _ _, d_f (mF_ne h hg.1 hg.2.1)]
    rfl
  | inr q =>
    by_cases e : nf X q lo hi = 0
    · rw [(nR_t e).1, (nR_t e).2]
      exact M_num1 hx hs hg h h1 h2 e
    · rw [(nR_f e).1, (nR_f e).2]
      obtain ⟨I1, a1, a2, a3⟩ := M_num0 (g := g) (N := N) (sw := sw) (lv := lv) (L := L) hx hg h h1 h2 e
      exact ⟨I1, a1, a2, a3, sO_fD a3 hs⟩
theorem C_sE (hx : x_ok X) (hr : am_isc rc) (hs : sO I) (hk : k.1 ≤ 700) (hg : gE X r) (h : stC X rc k r I) {c : Nat} (hc : c < 256) : ∃ I', am_R 69 9 0 [.ref 76, .int (Int32.ofNat c)] [] (am_hp g N sw lv I L) = some (.inl none, am_hp g N sw lv I' L) ∧ stC X rc k (sR X c r) I' ∧ fP rc I I' ∧ sO I' := by
  cases r with
  | inl fp => exact ⟨I, C_sgb (pF_ne h hg.1 hg.2.1) _, h, fP_rfl, hs⟩
  | inr q =>
    by_cases e : x_K X q = c
    · rw [sR_t e]
      exact C_sg1 hx hr hs hg h e
    · rw [sR_f e]
      obtain ⟨I1, a1, a2, a3⟩ := C_sg0 (g := g) (N := N) (sw := sw) (lv := lv) (L := L) hx hr hk hg h hc e
      exact ⟨I1, a1, a2, a3, sO_fP hr a3 hs⟩
theorem M_sE (hx : x_ok X) (hs : sO I) (hg : gE X r) (h : stM X w k r I) {c : Nat} (hm : x_mk c = true) (hc : c < 256) : ∃ I', am_R 165 3 0 [.ref 147, .int (Int32.ofNat c)] [] (am_hp g N sw lv I L) = some (.inl none, am_hp g N sw lv I' L) ∧ stM X w k (sR X c r) I' ∧ fDm w I I' ∧ sO I' := by
  cases r with
  | inl fp => exact ⟨I, M_sgb (mF_ne h hg.1 hg.2.1) _, h, fDm_rfl, hs⟩
  | inr q =>
    by_cases e : x_K X q = c
    · rw [sR_t e]
      exact M_sg1 hx hs hg h hm hc e
    · rw [sR_f e]
      obtain ⟨I1, a1, a2, a3⟩ := M_sg0 (g := g) (N := N) (sw := sw) (lv := lv) (L := L) hx hg h hm hc e
      exact ⟨I1, a1, a2, a3, sO_fD a3 hs⟩
end LINES
