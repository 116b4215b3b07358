/-! CABINET: what it leaves; the class -/
def s_flt (S : s_S) (pl : Nat) : s_S := ((sE S, sB S, sT S), sA S, sW S, upd (sF S) 0 (sF S 0 + 1), (0, (sP S).2), Int32.ofNat pl, sI S)
def e_new (Q : s_Q) (A : Nat → Int32) : e_E := (A, (q_r Q false).map rf, (q_r Q true).map rf, q_c Q, fun j => Int32.ofNat (q_t Q j))
def t_new (Q : s_Q) : tr_T := ((q_n Q, 0, 2 ^ q_n Q - 1), (fun h => Int32.ofNat (q_h Q h).1), (fun _ => 0), (fun h => (q_h Q h).2.2.1), (fun h => (q_h Q h).2.2.2), (fun k => k), (fun h => h))
def s_new (S : s_S) (Q : s_Q) (A : Nat → Int32) : s_S := ((e_new Q A, q_m Q, t_new Q), (0, fun _ => t_new Q), (0, (fun _ => 0), (fun _ => 0), (fun _ => false)), sF S, (0, (sP S).2), -1, none)
def s_cab (S : s_S) (r : p_L) (A : Nat → Int32) : s_S := match r with
  | .inl fp => s_flt S fp.2
  | .inr y => s_new S y.2 A
def sw_ (r : p_L) (sw : Bool) : Bool := match r with
  | .inl _ => sw
  | .inr _ => !sw
def hA_ (r : p_L) (A : Nat → Int32) : Prop := match r with
  | .inl _ => True
  | .inr y => ∀ h, h < q_n y.2 → A h = Int32.ofNat (q_h y.2 h).2.1
theorem RR_sw' {sw lv : Bool} {rc : Nat} (h : rc = cond sw 79 89) : am_up (am_up (am_RR sw lv) 75 (fun j => if j = 2 then some rc else am_RR sw lv 75 j)) 75 (fun j => if j = 3 then some (cond sw 89 79) else (am_up (am_RR sw lv) 75 (fun j => if j = 2 then some rc else am_RR sw lv 75 j)) 75 j) = am_RR (!sw) lv := by
  subst h
  exact RR_sw sw lv
section CABC2
variable {g N : Nat} {sw lv : Bool} {I : Nat → Nat → Int32} {L : Nat → Nat → Int64} {rc n q : Nat} {X : x_X} {Q : s_Q} {S : s_S}
theorem qC_new (hx : x_ok X) (hr : am_isc rc) (hq : q ≤ X.1) (hQ : gQ Q) (hl : lC X rc q Q I) : qC rc (e_new Q (I (rc + 2))) I := by
  obtain ⟨k, hk, hG, hH, hR⟩ := hl
  have hn := hx.1
  refine ⟨fun h _ => rfl, ⟨hH.2.2.2.1, hQ.2.2.2.1.1, hH.2.2.2.2⟩, ⟨?_, fun f e => ?_⟩, ⟨?_, fun f e => ?_⟩⟩
  · show I (rc + 6) 1 = cond ((q_r Q false).map rf).isSome 1 0
    rw [Option.isSome_map]
    exact (hR false).2.1
  · have e' : (q_r Q false).map rf = some f := e
    cases ec : q_r Q false with
    | none =>
      rw [ec] at e'
      cases e'
    | some cs =>
      rw [ec] at e'
      have ef : rf cs = f := Option.some.inj e'
      subst ef
      obtain ⟨b1, b2, b3⟩ := hQ.2.2.2.2 false cs ec
      obtain ⟨p, p1, p2, p3, p4⟩ := (hR false).2.2 cs ec
      exact ⟨fun k k' ek => rf_cg b1 k k' ek, wC_6 hr b1 p1 p2 hG.2.2.1 p3 (by omega) (fun i hi => by rw [hG.2.2.2 (p + i) (by omega)]; exact p4 i hi)⟩
  · show I (rc + 7) 1 = cond ((q_r Q true).map rf).isSome 1 0
    rw [Option.isSome_map]
    exact (hR true).2.1
  · have e' : (q_r Q true).map rf = some f := e
    cases ec : q_r Q true with
    | none =>
      rw [ec] at e'
      cases e'
    | some cs =>
      rw [ec] at e'
      have ef : rf cs = f := Option.some.inj e'
      subst ef
      obtain ⟨b1, b2, b3⟩ := hQ.2.2.2.2 true cs ec
      obtain ⟨p, p1, p2, p3, p4⟩ := (hR true).2.2 cs ec
      exact ⟨fun k k' ek => rf_cg b1 k k' ek, wC_7 hr b1 p1 p2 hG.2.2.1 p3 (by omega) (fun i hi => by rw [hG.2.2.2 (p + i) (by omega)]; exact p4 i hi)⟩
theorem C_cab (h : sC S sw I) (hg : sG S) (hs : sO I) (hv : ru_v (cond sw 79 89) I) (hn : n ≤ (sP S).1) {r : p_L} (hz : lZ (n, (sP S).2) r) (hR : CLp (n, (sP S).2) (cond sw 79 89) 0 q_0 r) : ∃ I' A, am_R 57 103 0 [.ref 75, .int (Int32.ofNat n), am_u, am_u] [] (am_hp g N sw lv I L) = some (.inl (some (.int (pf_ r))), am_hp g N (sw_ r sw) lv I' L) ∧ sC (s_cab S r A) (sw_ r sw) I' ∧ (∀ a, 147 ≤ a → I' a = I a) ∧ hA_ r A := by
  obtain ⟨h1, h2, h3, h4, h5, h6, h7⟩ := h
  have hP := hg.2.2.2.1
  have hP1 := hP.1
  have hr : am_isc (cond sw 79 89) := by rw [am_iscF]; trivial
  have hcur : (cond sw 89 79 : Nat) = 89 ∧ (cond sw 79 89 : Nat) = 79 ∨ (cond sw 89 79 : Nat) = 79 ∧ (cond sw 79 89 : Nat) = 89 := by cases sw <;> decide
  have hsw : (cond (!sw) 89 79 : Nat) = cond sw 79 89 := by cases sw <;> rfl
  have hX : x_ok (n, (sP S).2) := ⟨by show n ≤ 700; omega, fun i hi => hP.2 i (Nat.lt_of_lt_of_le hi hn)⟩
  revert hv hR hr hcur hsw
  have e0 := y_Ca_cabinet_0 (g := g) (N := N) (sw := sw) (lv := lv) (I := I) (L := L) (Int32.ofNat n)
  have e40 := fun (I2 : Nat → Nat → Int32) (y0 : Int32) => y_Ca_cabinet_40 (g := g) (N := N) (sw := sw) (lv := lv) (I := I2) (L := L) (Int32.ofNat n) y0
  have e102 := fun (I2 : Nat → Nat → Int32) (x2 : Int32) (w3 : Value) => y_Ca_cabinet_102 (g := g) (N := N) (sw := !sw) (lv := lv) (I := I2) (L := L) (Int32.ofNat n) x2 w3
  revert e0 e40
  generalize hrc : (cond sw 79 89 : Nat) = rc
  intro e0 e40 hv hR hr hcur hsw
  rw [d_f (nb_nn (by omega)), h5.1, nb_dle (by omega) (by omega), d_t hn] at e0
  obtain ⟨r1, r2, r3, r4, r5, r6⟩ := rc_n hr
  obtain ⟨I1, a1, a2, a3⟩ := C_rd0 (g := g) (N := N) (sw := sw) (lv := lv) (L := L) hr hs h5 hP hn hv
  obtain ⟨I2, b1, b2, b3⟩ := hR g N sw lv L I1 0 (Int32.ofNat n) (Nat.le_refl _) (sO_fL hr a2 hs) a3
  have f := fL_tr a2 b2
  have ee : am_R 57 103 0 [.ref 75, .int (Int32.ofNat n), am_u, am_u] [] (am_hp g N sw lv I L) = am_R 57 103 40 [.ref 75, .int (Int32.ofNat n), am_u, am_u] [.int (pf_ r)] (am_hp g N sw lv I2 L) := by
    rw [e0, a1, b1, am_bd_ok, am_tl]
  cases r with
  | inl fp =>
    obtain ⟨z1, z2, z3⟩ := hz
    have hy : pf_ (.inl fp) ≠ 0 := by
      intro z
      have := (nb_eq (b := 0) (by omega) (by decide)).mp (show Int32.ofNat fp.1 = Int32.ofNat 0 from z)
      omega
    have e2 := ee.trans (e40 I2 _)
    rw [d_f hy] at e2
    generalize hJ : (am_up (am_up (am_up I2 77 (upd (I2 77) 1 0)) 75 (upd (I2 75) 1 (I2 76 2))) 125 (upd (I2 125) 0 ((I2 125 0) + 1))) = J at e2
    have u : ∀ a, a ≠ 75 → a ≠ 76 → a ≠ 77 → a ≠ 125 → (a < rc ∨ rc + 8 < a) → J a = I a := fun a p1 p2 p3 p4 p5 => by
      rw [← hJ, up_ne p4, up_ne p1, up_ne p3]
      exact f.1 a p2 p3 p5
    have j77 : J 77 1 = 0 := by
      rw [← hJ, up_ne (by decide), up_ne (by decide), up_same]
      rfl
    have j75 : J 75 1 = Int32.ofNat fp.2 := by
      rw [← hJ, up_ne (by decide), up_same, upd_same]
      exact b3.2
    have i125 : I2 125 = I 125 := f.1 125 (by decide) (by decide) (by omega)
    refine ⟨J, fun _ => 0, e2, ?_, fun a p => u a (by omega) (by omega) (by omega) (by omega) (by omega), trivial⟩
    show sC (s_flt S fp.2) sw J
    refine ⟨⟨qC_fr h1.1 (fun a p1 p2 => u a (by omega) (by omega) (by omega) (by omega) (by omega)), rC_fr h1.2.1 (fun a p1 p2 => u a (by omega) (by omega) (by omega) (by omega) (by omega)), ?_, h1.2.2.2⟩, aC_fr h2 (u 119 (by decide) (by decide) (by decide) (by decide) (by omega)) (u 120 (by decide) (by decide) (by decide) (by decide) (by omega)), wCs_fr h3 (fun a p1 p2 => u a (by omega) (by omega) (by omega) (by omega) (by omega)), fun k hk => ?_, ⟨j77, fun i hi => absurd hi (Nat.not_lt_zero _)⟩, j75, iC_fr h7 (fun a p1 p2 => u a (by omega) (by omega) (by omega) (by omega) (by omega))⟩
    · show J (cond sw 89 79) 1 = _
      rw [u (cond sw 89 79) (by omega) (by omega) (by omega) (by omega) (by omega)]
      exact h1.2.2.1
    · show J 125 k = upd (sF S) 0 (sF S 0 + 1) k
      rw [← hJ, up_same, i125]
      by_cases q : k = 0
      · rw [q, upd_same, upd_same, h4 0 (by decide)]
      · rw [upd_ne q, upd_ne q]
        exact h4 k hk
  | inr y =>
    obtain ⟨z1, z2⟩ := hz
    have e2 := ee.trans (e40 I2 _)
    rw [d_t (show pf_ (.inr y) = 0 from rfl)] at e2
    generalize hJ : (am_up (am_up I2 77 (upd (I2 77) 1 0)) 75 (upd (I2 75) 1 (-1))) = J at e2
    have hl : lC (n, (sP S).2) rc y.1 y.2 I2 := b3
    have u : ∀ a, a ≠ 75 → a ≠ 77 → J a = I2 a := fun a p1 p2 => by rw [← hJ, up_ne p1, up_ne p2]
    have u2 : ∀ a, a ≠ 75 → a ≠ 76 → a ≠ 77 → (a < rc ∨ rc + 8 < a) → J a = I a := fun a p1 p2 p3 p4 => (u a p1 p3).trans (f.1 a p2 p3 p4)
    have j77 : J 77 1 = 0 := by
      rw [← hJ, up_ne (by decide), up_same]
      rfl
    have j75 : J 75 1 = -1 := by
      rw [← hJ, up_same]
      rfl
    obtain ⟨k, hk1, hG, hH, hRr⟩ := id hl
    have n8 := z2.1
    obtain ⟨K, c1, c2, c3, c4, c5, c6⟩ := C_set (g := g) (N := N) (sw := !sw) (lv := lv) (L := L) (I := J) hr n8 (by rw [u rc r1 r3]; exact hH.1)
    have qn := qC_new hX hr z1 z2 hl
    generalize hM : (am_up (am_up (am_up (am_up K 119 (upd (K 119) 1 0)) 119 (upd ((upd (K 119) 1 0)) 2 0)) 121 (upd (K 121) 3 0)) 126 (upd (K 126) 0 0)) = M
    have m : ∀ a, a ≠ 119 → a ≠ 121 → a ≠ 126 → M a = K a := fun a p1 p2 p3 => by rw [← hM, up_ne p3, up_ne p2, up_ne p1, up_ne p1]
    have m119 : M 119 1 = 0 ∧ M 119 2 = 0 := by
      rw [← hM, up_ne (by decide), up_ne (by decide), up_same]
      exact ⟨rfl, rfl⟩
    have m121 : M 121 3 = 0 := by
      rw [← hM, up_ne (by decide), up_same]
      rfl
    have m126 : M 126 0 = 0 := by
      rw [← hM, up_same]
      rfl
    have mr : ∀ a, rc ≤ a → a ≤ rc + 8 → M a = I2 a := fun a p1 p2 => by
      rw [m a (by omega) (by omega) (by omega), c6 a (by omega), u a (by omega) (by omega)]
    refine ⟨M, I2 (rc + 2), ?_, ?_, ?_, fun h hh => (hH.2.2.1 h hh).2.1⟩
    · have e3 := e2
      rw [RR_sw' hrc.symm] at e3
      have e4 : am_R 57 103 0 [.ref 75, .int (Int32.ofNat n), am_u, am_u] [] (am_hp g N sw lv I L) = am_R 57 103 102 [.ref 75, .int (Int32.ofNat n), .int (pf_ (.inr y)), .ref (cond sw 89 79)] [] (am_hp g N (!sw) lv J L) := e3
      have e5 := e102 J (pf_ (.inr y)) (.ref (cond sw 89 79))
      rw [hsw, c1, am_bd_ok, am_tn, y_Ca_cabinet_113 _ _ _, hM] at e5
      exact e4.trans e5
    · refine ⟨⟨?_, ?_, ?_, ?_⟩, ⟨0, by decide, m119.1, m119.2, fun i hi => absurd hi (Nat.not_lt_zero _)⟩, ⟨m121, fun i hi => absurd hi (Nat.not_lt_zero _)⟩, fun k hk => ?_, ⟨?_, fun i hi => absurd hi (Nat.not_lt_zero _)⟩, ?_, m126⟩
      · show qC (cond (!sw) 89 79) (e_new y.2 (I2 (rc + 2))) M
        rw [hsw]
        exact qC_fr qn mr
      · show rC 99 (t_new y.2) M
        refine ⟨?_, ?_, ?_, fun h hh => ?_, fun k hk => ?_⟩
        · rw [m 99 (by decide) (by decide) (by decide)]
          exact c2
        · rw [m 99 (by decide) (by decide) (by decide)]
          exact c3
        · rw [m 99 (by decide) (by decide) (by decide)]
          exact c4
        · have hh' : h < q_n y.2 := hh
          obtain ⟨d1, d2, d3, d4, d5, d6⟩ := c5 h hh'
          obtain ⟨t1, t2, t3, t4⟩ := hH.2.2.1 h hh'
          rw [m 100 (by decide) (by decide) (by decide), m 101 (by decide) (by decide) (by decide), m 102 (by decide) (by decide) (by decide), m 103 (by decide) (by decide) (by decide), m 104 (by decide) (by decide) (by decide), d1, d2, d3, d4, d5, u (rc + 1) (by omega) (by omega), u (rc + 3) (by omega) (by omega), u (rc + 4) (by omega) (by omega), t1, t3, t4]
          exact ⟨rfl, rfl, rfl, rfl, rfl⟩
        · have hk' : k < q_n y.2 := hk
          rw [m 105 (by decide) (by decide) (by decide)]
          exact (c5 k hk').2.2.2.2.2
      · show M (cond (!sw) 89 79) 1 = Int32.ofNat (q_m y.2)
        rw [hsw, mr rc (Nat.le_refl _) (by omega)]
        exact hH.2.1
      · show q_m y.2 < 256
        exact b_256 n8 z2.2.1
      · show M 125 k = sF S k
        rw [m 125 (by decide) (by decide) (by decide), c6 125 (by decide), u2 125 (by decide) (by decide) (by decide) (by omega)]
        exact h4 k hk
      · show M 77 1 = Int32.ofNat 0
        rw [m 77 (by decide) (by decide) (by decide), c6 77 (by decide)]
        exact j77
      · show M 75 1 = -1
        rw [m 75 (by decide) (by decide) (by decide), c6 75 (by decide)]
        exact j75
    · intro a p
      rw [m a (by omega) (by omega) (by omega), c6 a (by omega), u2 a (by omega) (by omega) (by omega) (by omega)]
end CABC2
