/-! LINES: all of them, class and reference -/
def lZ (X : x_X) (r : p_L) : Prop := match r with
  | .inl fp => 0 < fp.1 ∧ fp.1 < 100 ∧ fp.2 ≤ X.1
  | .inr y => y.1 ≤ X.1 ∧ gQ y.2
def pf_ (r : p_L) : Int32 := match r with
  | .inl fp => Int32.ofNat fp.1
  | .inr _ => 0
theorem mk_ne {k : Nat} (h : k ≠ 0) : mk_ k ≠ 0 := by
  unfold mk_
  by_cases e : k ≤ 2
  · rw [d_t e]
    have : k = 1 ∨ k = 2 := by omega
    rcases this with rfl | rfl <;> decide
  · rw [d_f e]
    by_cases e3 : k = 3
    · rw [d_t e3]
      decide
    · rw [d_f e3]
      decide
def CLp (X : x_X) (rc q : Nat) (Q : s_Q) (r : p_L) : Prop := ∀ (g N : Nat) (sw lv : Bool) (L : Nat → Nat → Int64) (I : Nat → Nat → Int32) (i : Nat) (x1 : Int32), i ≤ q → sO I → lC X rc q Q I → ∃ I', am_R 58 102 24 [.ref 76, .int x1, .ref rc, .int (Int32.ofNat i)] [] (am_hp g N sw lv I L) = some (.inl (some (.int (pf_ r))), am_hp g N sw lv I' L) ∧ fL rc I I' ∧ lE X rc r I'
def MLp (X : x_X) (q : Nat) (Q : s_Q) (r : p_L) : Prop := ∀ (g N : Nat) (sw lv : Bool) (L : Nat → Nat → Int64) (I : Nat → Nat → Int32) (x1 : Int32), sO I → lM X q Q I → ∃ I' lv' y, am_R 143 102 76 [.ref 147, .int x1, .int (q_k Q)] [] (am_hp g N sw lv I L) = am_R 143 102 99 [.ref 147, .int x1, .int y] [] (am_hp g N sw lv' I' L) ∧ fK I I' ∧ kE X r I'
section RLOOP
variable {X : x_X} {rc : Nat}
theorem R_loop (hx : x_ok X) (hr : am_isc rc) : ∀ (c q : Nat) (Q : s_Q), q ≤ X.1 → X.1 - q ≤ c → gQ Q → ∃ r : p_L, lZ X r ∧ CLp X rc q Q r ∧ MLp X q Q r := by
  have hn := hx.1
  have d7 : ∀ i, i ≤ 701 → decide ((700 : Int32) ≤ Int32.ofNat i) = decide (700 ≤ i) := fun i hi => nb_dle (a := 700) (by decide) (by omega)
  have base : ∀ (q : Nat) (Q : s_Q), q ≤ X.1 → gQ Q → x_K X q = 0 → ∃ r : p_L, lZ X r ∧ CLp X rc q Q r ∧ MLp X q Q r := by
    intro q Q hq hQ hk
    refine ⟨.inr (q, Q), ⟨hq, hQ⟩, ?_, ?_⟩
    · intro g N sw lv L I i x1 hi hs hl
      refine ⟨I, ?_, fL_rfl, hl⟩
      obtain ⟨k, hk1, hG, -⟩ := hl
      have e76 : I 76 1 = 0 := hG.2.1
      have e77 : I 77 4 = 0 := by
        rw [hG.1.2.2.1, hk]
        rfl
      rw [y_Rd_read_24 _ _ hr, d7 i (by omega), y_Rd_read_59 _ _ hr, e76, e77]
      cases decide (700 ≤ i) <;> rfl
    · intro g N sw lv L I x1 hs hl
      refine ⟨I, lv, q_k Q, ?_, fK_rfl, hl⟩
      obtain ⟨w, hG, -⟩ := hl
      have e23 : I 147 23 = 0 := hG.2.1
      have e19 : I 147 19 = 0 := by
        rw [hG.1.2.2.2.1, hk]
        rfl
      rw [y_Mo_cabinet_76 _ _, d_t e23, d_t e19]
  intro c
  induction c with
  | zero =>
    intro q Q hq hc hQ
    by_cases hk : x_K X q = 0
    · exact base q Q hq hQ hk
    · have h1 := x_E_lt hq hk
      have h2 := (x_E_le hq).2.1
      omega
  | succ c ih =>
    intro q Q hq hc hQ
    by_cases hk : x_K X q = 0
    · exact base q Q hq hQ hk
    have h1 := x_E_lt hq hk
    have hE := x_E_le hq
    obtain ⟨ra, ga, ca, ma⟩ := R_all (w := false) (ru := rc + 6) hx hr rfl 6 0 rfl (x_E X q) hE.2.1
    obtain ⟨rb, gb, cb, mb⟩ := R_all (w := true) (ru := rc + 7) hx hr rfl 6 0 rfl (x_E X q) hE.2.1
    have hg := lAny_ok hx hq hQ ga gb
    cases hy : lAny X Q q ra rb with
    | inl fp =>
      rw [hy] at hg
      obtain ⟨g1, g2, g3⟩ := hg
      refine ⟨.inl fp, ⟨g1, g2, g3⟩, ?_, ?_⟩
      · intro g N sw lv L I i x1 hi hs hl
        obtain ⟨I', a1, a2, a3⟩ := C_line (g := g) (N := N) (sw := sw) (lv := lv) (L := L) hx hr hs hq hQ hl ga gb ca cb
        rw [hy] at a3
        refine ⟨I', ?_, a2, a3⟩
        obtain ⟨k, hk1, hG, -⟩ := hl
        have e76 : I 76 1 = 0 := hG.2.1
        have e77 : I 77 4 ≠ 0 := by
          rw [hG.1.2.2.1]
          intro z
          exact hk ((nb_eq (b := 0) (Nat.lt_of_lt_of_le (x_K_lt hx hq) (by decide)) (by decide)).mp z)
        have f76 : I' 76 1 = Int32.ofNat fp.1 := a3.1
        have n76 : I' 76 1 ≠ 0 := by
          rw [f76]
          intro z
          have := (nb_eq (b := 0) (by omega) (by decide)).mp z
          omega
        rw [y_Rd_read_24 _ _ hr, d7 i (by omega), d_f (by omega), d_t e76, d_f e77]
        refine Eq.trans (congrArg (fun z => am_bd z _ _) a1) ?_
        rw [am_bd_ok, am_tn, y_Rd_read_53 _ _ hr, nb_s, y_Rd_read_24 _ _ hr, y_Rd_read_59 _ _ hr, d_f n76, f76]
        cases decide ((700 : Int32) ≤ Int32.ofNat (i + 1)) <;> rfl
      · intro g N sw lv L I x1 hs hl
        obtain ⟨I', lv', a1, a2, a3⟩ := M_line (g := g) (N := N) (sw := sw) (lv := lv) (L := L) hx hs hq hQ hl ga gb ma mb
        rw [hy] at a3
        refine ⟨I', lv', q_k Q ||| lB X q, ?_, a2, a3⟩
        obtain ⟨w, hG, -⟩ := hl
        have e23 : I 147 23 = 0 := hG.2.1
        have e19 : I 147 19 ≠ 0 := by
          rw [hG.1.2.2.2.1]
          exact mk_ne hk
        have a3' : mF fp.1 fp.2 I' := a3
        rw [y_Mo_cabinet_76 _ _, d_t e23, d_f e19, a1, am_bd_ok, am_tl, y_Mo_cabinet_95 _ _ _, y_Mo_cabinet_76 _ _, d_f (mF_ne a3' g1 g2)]
    | inr y =>
      rw [hy] at hg
      obtain ⟨g1, g2, g3⟩ := hg
      obtain ⟨r, z1, z2, z3⟩ := ih y.1 y.2 g2 (by omega) g3
      refine ⟨r, z1, ?_, ?_⟩
      · intro g N sw lv L I i x1 hi hs hl
        obtain ⟨I', a1, a2, a3⟩ := C_line (g := g) (N := N) (sw := sw) (lv := lv) (L := L) hx hr hs hq hQ hl ga gb ca cb
        rw [hy] at a3
        obtain ⟨I2, b1, b2, b3⟩ := z2 g N sw lv L I' (i + 1) x1 (by omega) (sO_fL hr a2 hs) a3
        refine ⟨I2, ?_, fL_tr a2 b2, b3⟩
        obtain ⟨k, hk1, hG, -⟩ := hl
        have e76 : I 76 1 = 0 := hG.2.1
        have e77 : I 77 4 ≠ 0 := by
          rw [hG.1.2.2.1]
          intro z
          exact hk ((nb_eq (b := 0) (Nat.lt_of_lt_of_le (x_K_lt hx hq) (by decide)) (by decide)).mp z)
        rw [y_Rd_read_24 _ _ hr, d7 i (by omega), d_f (by omega), d_t e76, d_f e77]
        refine Eq.trans (congrArg (fun z => am_bd z _ _) a1) ?_
        rw [am_bd_ok, am_tn, y_Rd_read_53 _ _ hr, nb_s]
        exact b1
      · intro g N sw lv L I x1 hs hl
        obtain ⟨I', lv', a1, a2, a3⟩ := M_line (g := g) (N := N) (sw := sw) (lv := lv) (L := L) hx hs hq hQ hl ga gb ma mb
        rw [hy] at a3
        obtain ⟨I2, lv2, y2, b1, b2, b3⟩ := z3 g N sw lv' L I' x1 (sO_fK a2 hs) a3
        refine ⟨I2, lv2, y2, ?_, fK_tr a2 b2, b3⟩
        obtain ⟨w, hG, -⟩ := hl
        have e23 : I 147 23 = 0 := hG.2.1
        have e19 : I 147 19 ≠ 0 := by
          rw [hG.1.2.2.2.1]
          exact mk_ne hk
        rw [y_Mo_cabinet_76 _ _, d_t e23, d_f e19, a1, am_bd_ok, am_tl, y_Mo_cabinet_95 _ _ _, ← lAny_k hq hy]
        exact b1
end RLOOP
