/-! LINES: the heat's line and a rule's, class -/
def hG_ (X : x_X) (c k q : Nat) (r : (Nat × Nat) ⊕ (Nat × Nat × (Nat → Nat))) : Prop := match r with
  | .inl fp => 0 < fp.1 ∧ fp.1 < 100 ∧ fp.2 ≤ X.1
  | .inr y => q ≤ y.1 ∧ y.1 ≤ X.1 ∧ k ≤ y.2.1 ∧ y.2.1 ≤ k + c ∧ ∀ j, j < y.2.1 → y.2.2 j ≤ 9
theorem hL_g {X : x_X} : ∀ c k (t : Nat → Nat) q, q ≤ X.1 → (∀ j, j < k → t j ≤ 9) → hG_ X c k q (hL X c k t q)
  | 0, k, t, q, hq, ht => by
    unfold hL
    by_cases e : x_K X q = 2
    · rw [d_t e]
      exact ⟨by show 0 < 2; decide, by show 2 < 100; decide, (x_S_le hq).2⟩
    · rw [d_f e]
      exact ⟨Nat.le_refl _, hq, Nat.le_refl _, Nat.le_refl _, ht⟩
  | c + 1, k, t, q, hq, ht => by
    unfold hL
    by_cases e : x_K X q = 2
    · rw [d_t e]
      by_cases e0 : nf X q 0 9 = 0
      · rw [d_t e0]
        have hE := x_E_le hq
        have ih := hL_g c (k + 1) (fun i => if i = k then x_N X q else t i) (x_E X q) hE.2.1 (fun j hj => by
          show (if j = k then x_N X q else t j) ≤ 9
          by_cases ej : j = k
          · rw [if_pos ej]
            exact (nf_0 e0).2.2
          · rw [if_neg ej]
            exact ht j (by omega))
        cases hh : hL X c (k + 1) (fun i => if i = k then x_N X q else t i) (x_E X q) with
        | inl fp =>
          rw [hh] at ih
          exact ih
        | inr y =>
          rw [hh] at ih
          obtain ⟨i1, i2, i3, i4, i5⟩ := ih
          exact ⟨by show q ≤ y.1; omega, i2, by show k ≤ y.2.1; omega, by show y.2.1 ≤ k + (c + 1); omega, i5⟩
      · rw [d_f e0]
        exact ⟨by show 0 < 2; decide, by show 2 < 100; decide, (x_S_le hq).2⟩
    · rw [d_f e]
      exact ⟨Nat.le_refl _, hq, Nat.le_refl _, by show k ≤ k + (c + 1); omega, ht⟩
def lT2 (X : x_X) (Q : s_Q) (r : (Nat × Nat) ⊕ (Nat × Nat × (Nat → Nat))) : p_L := match r with
  | .inl fp => .inl fp
  | .inr y => cond (decide (x_K X y.1 = 59)) (.inr (x_E X y.1, (Q.1, (y.2.1, y.2.2), Q.2.2))) (.inl (1, x_S X y.1))
def lT (X : x_X) (Q : s_Q) (q : Nat) : p_L := cond (decide (0 < q_c Q)) (.inl (5, x_S X q)) (cond (decide (nf X (x_E X q) 0 9 = 0)) (lT2 X Q (hL X 7 1 (fun i => if i = 0 then x_N X (x_E X q) else 0) (x_E X (x_E X q)))) (.inl (nf X (x_E X q) 0 9, x_S X (x_E X q))))
section HEATL
variable {g N : Nat} {sw lv : Bool} {I : Nat → Nat → Int32} {L : Nat → Nat → Int64} {X : x_X} {rc q : Nat} {Q : s_Q}
theorem fL_fH {I I' : Nat → Nat → Int32} (h : fH rc I I') : fL rc I I' := ⟨fun a p q r => h.1 a p q (by omega) (by omega) (by omega), h.2.1⟩
theorem C_htl2 (hx : x_ok X) (hr : am_isc rc) (hs : sO I) (hq : q ≤ X.1) (hQ : gQ Q) (hl : lC X rc q Q I) : ∃ I', am_R 71 10 0 [.ref 76, .ref rc, am_u] [] (am_hp g N sw lv I L) = some (.inl none, (am_hp g N sw lv I' L)) ∧ fL rc I I' ∧ lE X rc (lT X Q q) I' := by
  obtain ⟨k, hk, hG, hH, hR⟩ := id hl
  have hn := hx.1
  have hE := x_E_le hq
  have hc8 := hQ.2.2.2.1.1
  have d0 : decide (I rc 6 ≤ 0) = decide (q_c Q ≤ 0) := by
    rw [hH.2.2.2.1]
    exact nb_dle (b := 0) (by omega) (by decide)
  unfold lT
  by_cases e0 : 0 < q_c Q
  · rw [d_t e0]
    obtain ⟨f1, f2⟩ := P_fail hr hq (by omega) hG 5
    refine ⟨_, ?_, fL_fP f2, ⟨f1.2.1, f1.2.2.1⟩⟩
    rw [y_Rd_readHeat_0 hr, d0, d_f (by omega), d_t hG.2.1]
    rfl
  · rw [d_f e0]
    obtain ⟨I0, z1, z2, z3, z4⟩ := P_step (g := g) (N := N) (sw := sw) (lv := lv) (L := L) hx hr hs hq hG
    have h60 : I0 rc 6 = Int32.ofNat 0 := by
      rw [z3.2.2.1 6 (by decide), hH.2.2.2.1, show q_c Q = 0 by omega]
    have hqe : x_E X q ≤ X.1 := hE.2.1
    have run : ∀ v J, am_R 68 9 0 [.ref 76, .int 0, .int 9, am_u] [] (am_hp g N sw lv I0 L) = some (.inl (some (.int v)), (am_hp g N sw lv J L)) → J rc 6 = Int32.ofNat 0 → am_R 71 10 0 [.ref 76, .ref rc, am_u] [] (am_hp g N sw lv I L) = am_R 71 10 33 [.ref 76, .ref rc, .int (Int32.ofNat 1)] [] (am_hp g N sw lv (am_up (am_up J (rc + 5) (upd (J (rc + 5)) 0 v)) rc (upd (J rc) 6 (Int32.ofNat (0 + 1)))) L) := by
      intro v J hv h6
      rw [y_Rd_readHeat_0 hr, d0, d_t (by omega), z1, am_bd_ok, am_tn, y_Rd_readHeat_20 hr, hv, am_bd_ok, am_tl, y_Rd_readHeat_28 _ hr]
      exact C_addt hr (k := 0) (by decide) h6 v (fun J => am_R 71 10 33 [.ref 76, .ref rc, .int 1] [] (am_hp g N sw lv J L))
    by_cases e1 : nf X (x_E X q) 0 9 = 0
    · rw [d_t e1]
      obtain ⟨I1, a1, a2, a3, a4⟩ := C_num1 (g := g) (N := N) (sw := sw) (lv := lv) (L := L) hx hr z4 hqe z2 (lo := 0) (hi := 9) (by decide) (by decide) e1
      have h61 : I1 rc 6 = Int32.ofNat 0 := (a3.2.2.1 6 (by decide)).trans h60
      have s1 : hS X rc k (x_E X (x_E X q)) 0 (fun _ => 0) I1 := ⟨a2, h61, fun j hj => absurd hj (Nat.not_lt_zero _)⟩
      have s2 := hS_add (v := x_N X (x_E X q)) hr s1
      have fr0 : fH rc I _ := fH_tr (fH_fP (fP_tr z3 a3)) (fH_add (k := 0) (x := Int32.ofNat (x_N X (x_E X q))) (y := Int32.ofNat (0 + 1)) hr)
      have hq2 := (x_E_le hqe)
      have so2 := sO_fL hr (fL_fH fr0) hs
      obtain ⟨I2, x2, b1, b2, b3⟩ := C_htl (g := g) (N := N) (sw := sw) (lv := lv) (L := L) hx hr (by omega : k.1 ≤ 700) 7 1 (fun i => if i = 0 then x_N X (x_E X q) else 0) (x_E X (x_E X q)) _ rfl hq2.2.1 so2 s2
      have hg := hL_g 7 1 (fun i => if i = 0 then x_N X (x_E X q) else 0) (x_E X (x_E X q)) hq2.2.1 (fun j hj => by
        show (if j = 0 then x_N X (x_E X q) else 0) ≤ 9
        rw [if_pos (by omega)]
        exact (nf_0 e1).2.2)
      have fr2 := fH_tr fr0 b2
      have so3 := sO_fL hr (fL_fH fr2) hs
      cases hh : hL X 7 1 (fun i => if i = 0 then x_N X (x_E X q) else 0) (x_E X (x_E X q)) with
      | inl fp =>
        rw [hh] at b3 hg
        have b3' : pF X rc fp.1 fp.2 I2 := b3
        refine ⟨I2, ?_, fL_fH fr2, ⟨b3'.2.1, b3'.2.2.1⟩⟩
        rw [run _ _ a1 h61, b1, y_Rd_readHeat_97 _ hr, C_sgb (pF_ne b3' hg.1 hg.2.1), am_bd_ok, am_tn, y_Rd_readHeat_103 _ hr]
      | inr y =>
        rw [hh] at b3 hg
        have b3' : hS X rc k y.1 y.2.1 y.2.2 I2 := b3
        obtain ⟨i1, i2, i3, i4, i5⟩ := hg
        obtain ⟨I5, f1, f2, f3, f4⟩ := C_sE (g := g) (N := N) (sw := sw) (lv := lv) (L := L) (r := .inr y.1) hx hr so3 (by omega) (show gE X (.inr y.1) from i2) (show stC X rc k (.inr y.1) I2 from b3'.1) (c := 59) (by decide)
        have fin : am_R 71 10 0 [.ref 76, .ref rc, am_u] [] (am_hp g N sw lv I L) = some (.inl none, (am_hp g N sw lv I5 L)) := by
          rw [run _ _ a1 h61, b1, y_Rd_readHeat_97 _ hr]
          refine Eq.trans (congrArg (fun z => am_bd z _ _) f1) ?_
          rw [am_bd_ok, am_tn, y_Rd_readHeat_103 _ hr]
        have fl : fL rc I I5 := fL_tr (fL_fH fr2) (fL_fP f3)
        refine ⟨I5, fin, fl, ?_⟩
        show lE X rc (cond (decide (x_K X y.1 = 59)) (.inr (x_E X y.1, (Q.1, (y.2.1, y.2.2), Q.2.2))) (.inl (1, x_S X y.1))) I5
        by_cases e59 : x_K X y.1 = 59
        · rw [d_t e59]
          rw [sR_t e59] at f2
          have f2' : pG X rc (x_E X y.1) k I5 := f2
          have s5 := hS_fP hr b3' f3 f2'
          have hEy := x_E_le (X := X) i2
          have fr5 := fH_tr fr2 (fH_fP f3)
          have hrn : ∀ m, 1 ≤ m → m ≤ 7 → m ≠ 5 → I5 (rc + m) = I (rc + m) := fun m p1 p2 p3 => fr5.1 _ (by rcases hr with rfl | rfl <;> omega) (by rcases hr with rfl | rfl <;> omega) (by omega) (by omega) (by omega)
          refine ⟨k, by show k.1 ≤ x_E X y.1; omega, f2', ⟨(fr5.2.2 0 (by decide) (by decide)).trans hH.1, (fr5.2.2 1 (by decide) (by decide)).trans hH.2.1, ?_, s5.2.1, s5.2.2⟩, fun w => dR_fr (hR w) ?_⟩
          · rw [hrn 1 (by decide) (by decide) (by decide), hrn 2 (by decide) (by decide) (by decide), hrn 3 (by decide) (by decide) (by decide), hrn 4 (by decide) (by decide) (by decide)]
            exact hH.2.2.1
          · cases w with
            | true => exact hrn 7 (by decide) (by decide) (by decide)
            | false => exact hrn 6 (by decide) (by decide) (by decide)
        · rw [d_f e59]
          rw [sR_f e59] at f2
          have f2' : pF X rc 1 (x_S X y.1) I5 := f2
          exact ⟨f2'.2.1, f2'.2.2.1⟩
    · rw [d_f e1]
      obtain ⟨I1, a1, a2, a3⟩ := C_num0 (g := g) (N := N) (sw := sw) (lv := lv) (L := L) hx hr (by omega) hqe z2 (lo := 0) (hi := 9) (by decide) (by decide) e1
      have h61 : I1 rc 6 = Int32.ofNat 0 := (a3.2.2.1 6 (by decide)).trans h60
      have hb : 0 < nf X (x_E X q) 0 9 ∧ nf X (x_E X q) 0 9 < 100 := by
        rcases nf_n e1 with z | z <;> omega
      have p2 := pF_add (k := 0) (x := 0) (y := Int32.ofNat (0 + 1)) hr a2
      refine ⟨_, ?_, fL_fH (fH_tr (fH_fP (fP_tr z3 a3)) (fH_add hr)), ⟨p2.2.1, p2.2.2.1⟩⟩
      rw [run _ _ a1 h61, C_htb hr hb p2, y_Rd_readHeat_97 _ hr, C_sgb (pF_ne p2 hb.1 hb.2), am_bd_ok, am_tn, y_Rd_readHeat_103 _ hr]
end HEATL
