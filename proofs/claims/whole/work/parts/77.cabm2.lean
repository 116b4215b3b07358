/-! CABINET: the reference, whole -/
section CABM2
variable {g N : Nat} {sw lv : Bool} {I : Nat → Nat → Int32} {L : Nat → Nat → Int64} {n : Nat} {Q : s_Q} {S : s_S} {A : Nat → Int32}
theorem qM_lo {E : e_E} {I' : Nat → Nat → Int32} (h : qM E I) (e1 : ∀ j, j < 4 → I' 151 j = I 151 j) (e2 : ∀ a, 152 ≤ a → a ≤ 157 → ∀ i, i < 8 → I' a i = I a i) (e3 : ∀ a, 158 ≤ a → a ≤ 159 → ∀ i, i < 700 → I' a i = I a i) : qM E I' := by
  obtain ⟨h1, h2, h3, h4⟩ := h
  refine ⟨fun k hk q => ?_, ⟨?_, h2.2.1, fun j hj => ?_⟩, ⟨?_, fun f hf => ⟨(h3.2 f hf).1, wM_fr (h3.2 f hf).2 (e3 158 (by decide) (by decide)) (e1 2 (by decide))⟩⟩, ⟨?_, fun f hf => ⟨(h4.2 f hf).1, wM_fr (h4.2 f hf).2 (e3 159 (by decide) (by decide)) (e1 3 (by decide))⟩⟩⟩
  · rw [e2 154 (by decide) (by decide) k hk]
    rw [e1 0 (by decide)] at q
    exact h1 k hk q
  · rw [e1 1 (by decide)]
    exact h2.1
  · have := h2.2.1
    rw [e2 157 (by decide) (by decide) j (by omega)]
    exact h2.2.2 j hj
  · rw [e1 2 (by decide)]
    exact h3.1
  · rw [e1 3 (by decide)]
    exact h4.1
theorem ql_some {w : Bool} {cs : List Int32} (h : q_r Q w = some cs) : q_l Q w = cs := by
  show (q_r Q w).getD [] = cs
  rw [h]
  rfl
theorem qM_new {F : Nat → Nat → Int32} (hQ : gQ Q) (hA : ∀ h, h < q_n Q → A h = Int32.ofNat (q_h Q h).2.1) (f0 : F 151 0 = Int32.ofNat (q_n Q)) (f1 : F 151 1 = Int32.ofNat (q_c Q)) (f2 : F 151 2 = Int32.ofNat (q_l Q false).length) (f3 : F 151 3 = Int32.ofNat (q_l Q true).length) (f4 : ∀ h, h < q_n Q → F 154 h = Int32.ofNat (q_h Q h).2.1) (f7 : ∀ j, j < q_c Q → F 157 j = Int32.ofNat (q_t Q j)) (f8 : ∀ i, i < (q_l Q false).length → i < 700 → F 158 i = mc ((q_l Q false).getD i 0)) (f9 : ∀ i, i < (q_l Q true).length → i < 700 → F 159 i = mc ((q_l Q true).getD i 0)) : qM (e_new Q A) F := by
  have n8 := hQ.1
  refine ⟨fun k hk q => ?_, ⟨f1, hQ.2.2.2.1.1, f7⟩, ⟨?_, fun f e => ?_⟩, ⟨?_, fun f e => ?_⟩⟩
  · rw [f0] at q
    have hk2 : k < q_n Q := (nb_lt (by omega) (by omega)).mp q
    rw [f4 k hk2]
    exact (hA k hk2).symm
  · show decide (F 151 2 ≤ 0) = !((q_r Q false).map rf).isSome
    rw [f2, Option.isSome_map]
    cases ec : q_r Q false with
    | none =>
      have : q_l Q false = [] := by
        show (q_r Q false).getD [] = []
        rw [ec]
        rfl
      rw [this]
      rfl
    | some cs =>
      obtain ⟨b1, b2, b3⟩ := hQ.2.2.2.2 false cs ec
      rw [ql_some ec, show decide (Int32.ofNat cs.length ≤ 0) = decide (cs.length ≤ 0) from nb_dle (b := 0) (by omega) (by decide)]
      exact decide_eq_false (by omega)
  · have e' : (q_r Q false).map rf = some f := e
    cases ec : q_r Q false with
    | none =>
      rw [ec] at e'
      cases e'
    | some cs =>
      rw [ec] at e'
      have ef : rf cs = f := Option.some.inj e'
      subst ef
      obtain ⟨b1, b2, b3⟩ := hQ.2.2.2.2 false cs ec
      rw [ql_some ec] at f2 f8
      exact ⟨fun k k' ek => rf_cg b1 k k' ek, wM_of (Or.inl rfl) b1 b3 f2 (fun i hi => f8 i hi (by omega))⟩
  · show decide (F 151 3 ≤ 0) = !((q_r Q true).map rf).isSome
    rw [f3, Option.isSome_map]
    cases ec : q_r Q true with
    | none =>
      have : q_l Q true = [] := by
        show (q_r Q true).getD [] = []
        rw [ec]
        rfl
      rw [this]
      rfl
    | some cs =>
      obtain ⟨b1, b2, b3⟩ := hQ.2.2.2.2 true cs ec
      rw [ql_some ec, show decide (Int32.ofNat cs.length ≤ 0) = decide (cs.length ≤ 0) from nb_dle (b := 0) (by omega) (by decide)]
      exact decide_eq_false (by omega)
  · have e' : (q_r Q true).map rf = some f := e
    cases ec : q_r Q true with
    | none =>
      rw [ec] at e'
      cases e'
    | some cs =>
      rw [ec] at e'
      have ef : rf cs = f := Option.some.inj e'
      subst ef
      obtain ⟨b1, b2, b3⟩ := hQ.2.2.2.2 true cs ec
      rw [ql_some ec] at f3 f9
      exact ⟨fun k k' ek => rf_cg b1 k k' ek, wM_of (Or.inr rfl) b1 b3 f3 (fun i hi => f9 i hi (by omega))⟩
theorem M_over (hQ : gQ Q) (hd : dM Q I) (h37 : I 147 37 = -1) (hA : ∀ h, h < q_n Q → A h = Int32.ofNat (q_h Q h).2.1) : ∃ F, am_R 167 2 0 [.ref 147, am_u, am_u] [] (am_hp g N sw lv I L) = some (.inl none, am_hp g N sw lv F L) ∧ cM (e_new Q A) (q_m Q) (t_new Q) F ∧ (∀ a, a ≠ 147 → a < 151 ∨ a = 160 ∨ a = 161 ∨ 166 < a → F a = I a) ∧ (∀ j, j ≠ 33 → j ≠ 34 → j ≠ 35 → j ≠ 36 → j ≠ 51 → F 147 j = I 147 j) ∧ F 147 35 = 0 ∧ F 147 36 = 0 ∧ F 147 51 = 0 := by
  obtain ⟨d1, d2, d3, d4, d5⟩ := hd
  have n8 := hQ.1
  obtain ⟨J, a1, a2, a3, a4, a5⟩ := M_halves (g := g) (N := N) (sw := sw) (lv := lv) (L := L) I
  have e63 := y_Mo_takeOver_63 (g := g) (N := N) (sw := sw) (lv := lv) (I := J) (L := L)
  generalize hK : (am_up (am_up J 147 (upd (J 147) 33 0)) 147 (upd ((upd (J 147) 33 0)) 34 0)) = K at e63
  have k1 : ∀ a, a ≠ 147 → K a = J a := fun a p => by rw [← hK, up_ne p, up_ne p]
  have k2 : ∀ j, j ≠ 33 → j ≠ 34 → K 147 j = I 147 j := fun j p q => by
    rw [← hK, up_same, upd_ne q, upd_ne p, a5 147 (by decide)]
  have k3 : K 147 33 = 0 ∧ K 147 34 = 0 := by
    rw [← hK, up_same]
    exact ⟨rfl, rfl⟩
  have K1 : ∀ j, j < 4 → K 151 j = I 151 (4 + j) := fun j hj => by
    rw [k1 151 (by decide)]
    exact a2 j hj
  have K2 : ∀ a, 152 ≤ a → a ≤ 157 → ∀ j, j < 8 → K a j = I a (8 + j) := fun a p q j hj => by
    rw [k1 a (by omega)]
    exact a3 a p q j hj
  have K3 : ∀ a, 158 ≤ a → a ≤ 159 → ∀ j, j < 700 → K a j = I a (700 + j) := fun a p q j hj => by
    rw [k1 a (by omega)]
    exact a4 a p q j hj
  have K0 : K 151 0 = Int32.ofNat (q_n Q) := (K1 0 (by decide)).trans d1
  obtain ⟨M, b1, b2, b3⟩ := M_tk (g := g) (N := N) (sw := sw) (lv := lv) (L := L) n8 K K0 8 0 K am_u (by omega) (fun j hj => absurd hj (Nat.not_lt_zero _)) (fun _ _ => rfl)
  have F1 : ∀ a, a ≠ 147 → tkI M a = M a := fun a p => by
    unfold tkI
    rw [up_ne p, up_ne p, up_ne p]
  have F2 : ∀ j, j ≠ 35 → j ≠ 36 → j ≠ 51 → tkI M 147 j = K 147 j := fun j p q r => by
    unfold tkI
    rw [up_same, upd_ne r, upd_ne q, upd_ne p, b3 147 (by decide)]
  have F3 : tkI M 147 35 = 0 ∧ tkI M 147 36 = 0 ∧ tkI M 147 51 = 0 := by
    unfold tkI
    rw [up_same]
    exact ⟨rfl, rfl, rfl⟩
  have F4 : ∀ a, a ≠ 147 → a < 162 → tkI M a = K a := fun a p q => (F1 a p).trans (b3 a (by omega))
  generalize tkI M = F at b1 F1 F2 F3 F4
  refine ⟨F, ?_, ⟨?_, ?_, ?_, ?_⟩, fun a p q => ?_, fun j p1 p2 p3 p4 p5 => ?_, F3⟩
  · rw [a1, e63]
    exact b1
  · refine qM_new hQ hA ?_ ?_ ?_ ?_ ?_ ?_ ?_ ?_
    · rw [F4 151 (by decide) (by decide)]
      exact K0
    · rw [F4 151 (by decide) (by decide), K1 1 (by decide)]
      exact d2
    · rw [F4 151 (by decide) (by decide), K1 2 (by decide)]
      exact (d5 false).1
    · rw [F4 151 (by decide) (by decide), K1 3 (by decide)]
      exact (d5 true).1
    · intro h hh
      rw [F4 154 (by decide) (by decide), K2 154 (by decide) (by decide) h (by omega)]
      exact (d3 h hh).2.2.1
    · intro j hj
      have := hQ.2.2.2.1.1
      rw [F4 157 (by decide) (by decide), K2 157 (by decide) (by decide) j (by omega)]
      exact d4 j hj
    · intro i hi h7
      rw [F4 158 (by decide) (by decide), K3 158 (by decide) (by decide) i h7]
      exact (d5 false).2 i hi
    · intro i hi h7
      rw [F4 159 (by decide) (by decide), K3 159 (by decide) (by decide) i h7]
      exact (d5 true).2 i hi
  · refine ⟨?_, ?_, ?_, fun h hh => ?_, fun k hk => ?_⟩
    · rw [F4 151 (by decide) (by decide)]
      exact K0
    · rw [F2 33 (by decide) (by decide) (by decide)]
      exact k3.1
    · show F 147 34 = Int32.ofNat (2 ^ q_n Q - 1 - (2 ^ q_n Q - 1))
      rw [F2 34 (by decide) (by decide) (by decide), Nat.sub_self]
      exact k3.2
    · have hh' : h < q_n Q := hh
      obtain ⟨t1, t2, t3, t4, t5⟩ := d3 h hh'
      obtain ⟨s1, s2, s3⟩ := b2 h (by omega)
      obtain ⟨s4, s5, s6⟩ := s1 hh'
      rw [F1 162 (by decide), F1 163 (by decide), F1 165 (by decide), F1 166 (by decide), s4, s5, s6, s2, K2 153 (by decide) (by decide) h (by omega), K2 155 (by decide) (by decide) h (by omega), K2 156 (by decide) (by decide) h (by omega), t2, t4, t5]
      exact ⟨rfl, rfl, rfl, rfl⟩
    · have hk' : k < q_n Q := hk
      rw [F1 164 (by decide)]
      exact (b2 k (by omega)).2.2
  · rw [F2 37 (by decide) (by decide) (by decide), k2 37 (by decide) (by decide)]
    exact h37
  · intro h hh
    have hh' : h < q_n Q := hh
    rw [F4 152 (by decide) (by decide), K2 152 (by decide) (by decide) h (by omega)]
    exact (d3 h hh').1
  · rw [F1 a p, b3 a (by omega), k1 a p, a5 a (by omega)]
  · rw [F2 j p3 p4 p5]
    exact k2 j p1 p2
theorem M_cab (h : sM S I) (hg : sG S) (hs : sO I) (h26 : I 147 26 = 0 ∨ I 147 26 = 1) (hn : n ≤ (sP S).1) {r : p_L} (hz : lZ (n, (sP S).2) r) (hR : MLp (n, (sP S).2) 0 q_0 r) (hA : hA_ r A) : ∃ I' lv', am_R 143 102 0 [.ref 147, .int (Int32.ofNat n), am_u] [] (am_hp g N sw lv I L) = some (.inl (some (.int (pf_ r))), am_hp g N sw lv' I' L) ∧ sM (s_cab S r A) I' ∧ (∀ a, a < 147 → I' a = I a) ∧ I' 147 4 = 0 := by
  obtain ⟨h1, h2, h3, h4, h5, h6, h7⟩ := h
  have hP := hg.2.2.2.1
  have hP1 := hP.1
  have ht8 := hg.1.1.1
  have hX : x_ok (n, (sP S).2) := ⟨by show n ≤ 700; omega, fun i hi => hP.2 i (Nat.lt_of_lt_of_le hi hn)⟩
  have e0 := y_Mo_cabinet_0 (g := g) (N := N) (sw := sw) (lv := lv) (I := I) (L := L) (Int32.ofNat n)
  rw [d_f (nb_nn (by omega)), show (upd (I 147) 4 0) 16 = I 147 16 from upd_ne (by decide), h5.1, nb_dle (by omega) (by omega), d_t hn] at e0
  generalize hJ : (am_up (am_up (am_up (am_up (am_up (am_up I 147 (upd (I 147) 4 0)) 147 (upd ((upd (I 147) 4 0)) 16 0)) 147 (upd ((upd ((upd (I 147) 4 0)) 16 0)) 18 (Int32.ofNat n))) 147 (upd ((upd ((upd ((upd (I 147) 4 0)) 16 0)) 18 (Int32.ofNat n))) 17 0)) 147 (upd ((upd ((upd ((upd ((upd (I 147) 4 0)) 16 0)) 18 (Int32.ofNat n))) 17 0)) 23 0)) 147 (upd ((upd ((upd ((upd ((upd ((upd (I 147) 4 0)) 16 0)) 18 (Int32.ofNat n))) 17 0)) 23 0)) 25 (-1))) = J at e0
  have j1 : ∀ a, a ≠ 147 → J a = I a := fun a p => by rw [← hJ, up_ne p, up_ne p, up_ne p, up_ne p, up_ne p, up_ne p]
  have j2 : ∀ j, j ≠ 4 → j ≠ 16 → j ≠ 17 → j ≠ 18 → j ≠ 23 → j ≠ 25 → J 147 j = I 147 j := fun j p1 p2 p3 p4 p5 p6 => by
    rw [← hJ, up_same, upd_ne p6, upd_ne p5, upd_ne p3, upd_ne p4, upd_ne p2, upd_ne p1]
  have j3 : J 147 4 = 0 ∧ J 147 16 = 0 ∧ J 147 17 = 0 ∧ J 147 18 = Int32.ofNat n ∧ J 147 23 = 0 ∧ J 147 25 = -1 := by
    rw [← hJ, up_same]
    exact ⟨rfl, rfl, rfl, rfl, rfl, rfl⟩
  obtain ⟨K, b1, b2, b3, b4⟩ := M_z4 (g := g) (N := N) (sw := sw) (lv := lv) (L := L) J (Int32.ofNat n) 4 0 J (by omega) (fun j hj => absurd hj (Nat.not_lt_zero _)) (fun _ _ => rfl) (fun _ _ => rfl)
  have hB : mB (n, (sP S).2) K := by
    refine ⟨?_, fun i hi => ?_⟩
    · rw [b4 147 (by decide)]
      exact j3.2.2.2.1
    · rw [b4 161 (by decide), j1 161 (by decide)]
      exact h5.2 i (Nat.lt_of_lt_of_le hi hn)
  obtain ⟨M, c1, c2, c3, c4⟩ := M_step (g := g) (N := N) (sw := sw) (lv := lv) (L := L) hX (p := 0) (Nat.zero_le _) hB (by rw [b4 147 (by decide)]; exact j3.2.2.1)
  have m1 : ∀ a, a ≠ 147 → a ≠ 151 → M a = I a := fun a p q => by rw [c3 a p, b4 a q, j1 a p]
  have m2 : ∀ j, j < 17 ∨ 22 < j → M 147 j = J 147 j := fun j p => by rw [c4 j p, b4 147 (by decide)]
  have m3 : M 151 4 = 0 ∧ M 151 5 = 0 ∧ M 151 6 = 0 ∧ M 151 7 = 0 := by
    rw [c3 151 (by decide)]
    exact ⟨b2 0 (by decide), b2 1 (by decide), b2 2 (by decide), b2 3 (by decide)⟩
  have m4 : ∀ j, j < 4 → M 151 j = I 151 j := fun j p => by rw [c3 151 (by decide), b3 j (Or.inl p), j1 151 (by decide)]
  have hw : ∃ w : Bool, I 147 26 = cond w 1 0 := by
    rcases h26 with q | q
    · exact ⟨false, q⟩
    · exact ⟨true, q⟩
  obtain ⟨w, hw⟩ := hw
  have m67 : ∀ w : Bool, M 151 (cond w 7 6) = Int32.ofNat 0 := fun w => by
    cases w with
    | true => exact m3.2.2.2
    | false => exact m3.2.2.1
  have hq0 : ∀ w, q_l q_0 w = [] := fun w => by cases w <;> rfl
  have hlM : lM (n, (sP S).2) 0 q_0 M := by
    refine ⟨w, ⟨c2, ?_, ?_, ?_, ?_⟩, m3.1, m3.2.1, fun i hi => absurd hi (Nat.not_lt_zero _), fun i hi => absurd hi (Nat.not_lt_zero _), fun w' => ?_⟩
    · rw [m2 23 (by decide)]
      exact j3.2.2.2.2.1
    · rw [m2 26 (by decide), j2 26 (by decide) (by decide) (by decide) (by decide) (by decide) (by decide)]
      exact hw
    · rw [hq0]
      exact m67 w
    · rw [hq0]
      exact fun i hi => absurd hi (Nat.not_lt_zero _)
    · rw [hq0]
      exact ⟨m67 w', fun i hi => absurd hi (Nat.not_lt_zero _)⟩
  have hsM : sO M := sO_lo hs fun a p => m1 a (by omega) (by omega)
  obtain ⟨F, lv', y2, f1, f2, f3⟩ := hR g N sw lv L M (Int32.ofNat n) hsM hlM
  have ee : am_R 143 102 0 [.ref 147, .int (Int32.ofNat n), am_u] [] (am_hp g N sw lv I L) = am_R 143 102 99 [.ref 147, .int (Int32.ofNat n), .int y2] [] (am_hp g N sw lv' F L) := by
    rw [e0]
    refine Eq.trans b1 ?_
    rw [c1, am_bd_ok, am_tn, y_Mo_cabinet_74 _ _]
    exact f1
  have F1 : ∀ a, a ≠ 147 → a < 151 ∨ 159 < a → F a = I a := fun a p q => (f2.1 a p q).trans (m1 a p (by omega))
  have F2 : ∀ j, j ≠ 4 → j ≠ 16 → j < 17 ∨ 26 < j → F 147 j = I 147 j := fun j p1 p2 p3 => by
    rw [f2.2.1 j (by omega), m2 j (by omega), j2 j p1 p2 (by omega) (by omega) (by omega) (by omega)]
  have F3 : F 147 4 = 0 ∧ F 147 16 = 0 ∧ F 147 25 = -1 := by
    rw [f2.2.1 4 (by decide), f2.2.1 16 (by decide), f2.2.1 25 (by decide), m2 4 (by decide), m2 16 (by decide), m2 25 (by decide)]
    exact ⟨j3.1, j3.2.1, j3.2.2.2.2.2⟩
  have F4 : ∀ j, j < 4 → F 151 j = I 151 j := fun j p => (f2.2.2.1 j (Or.inl p)).trans (m4 j p)
  have F5 : ∀ a, 152 ≤ a → a ≤ 157 → ∀ i, i < 8 → F a i = I a i := fun a p q i hi => by rw [f2.2.2.2.1 a p q i hi, m1 a (by omega) (by omega)]
  have F6 : ∀ a, 158 ≤ a → a ≤ 159 → ∀ i, i < 700 → F a i = I a i := fun a p q i hi => by rw [f2.2.2.2.2 a p q i hi, m1 a (by omega) (by omega)]
  cases r with
  | inl fp =>
    obtain ⟨z1, z2, z3⟩ := hz
    have f3' : mF fp.1 fp.2 F := f3
    have e2 := ee.trans (y_Mo_cabinet_99 _ _)
    rw [d_f (mF_ne f3' z1 z2)] at e2
    generalize hO : (am_up (am_up F 147 (upd (F 147) 25 (F 147 24))) 160 (upd (F 160) 0 ((F 160 0) + 1))) = O at e2
    have o1 : ∀ a, a ≠ 147 → a ≠ 160 → O a = F a := fun a p q => by rw [← hO, up_ne q, up_ne p]
    have o2 : ∀ j, j ≠ 25 → O 147 j = F 147 j := fun j p => by rw [← hO, up_ne (by decide), up_same, upd_ne p]
    have o3 : O 147 25 = Int32.ofNat fp.2 := by
      rw [← hO, up_ne (by decide), up_same, upd_same]
      exact f3'.2
    have o4 : ∀ a, a ≠ 147 → a ≠ 160 → a < 151 ∨ 159 < a → O a = I a := fun a p q s => (o1 a p q).trans (F1 a p s)
    have o5 : ∀ j, j ≠ 4 → j ≠ 16 → j < 17 ∨ 26 < j → O 147 j = I 147 j := fun j p1 p2 p3 => (o2 j (by omega)).trans (F2 j p1 p2 p3)
    refine ⟨O, lv', ?_, ⟨⟨qM_lo h1.1 (fun j p => by rw [o1 151 (by decide) (by decide)]; exact F4 j p) (fun a p q i hi => by rw [o1 a (by omega) (by omega)]; exact F5 a p q i hi) (fun a p q i hi => by rw [o1 a (by omega) (by omega)]; exact F6 a p q i hi), ?_, ?_, ?_⟩, aM_fr h2 (o5 35 (by decide) (by decide) (by decide)) (o4 167 (by decide) (by decide) (by decide)), wMs_fr h3 (o5 36 (by decide) (by decide) (by decide)) (o4 172 (by decide) (by decide) (by decide)) (o4 173 (by decide) (by decide) (by decide)) (o4 175 (by decide) (by decide) (by decide)), ?_, ⟨?_, fun i hi => absurd hi (Nat.not_lt_zero _)⟩, o3, iM_fr h7 (fun a p q => o4 a (by omega) (by omega) (by omega)) (fun j p q => o5 j (by omega) (by omega) (by omega))⟩, fun a p => o4 a (by omega) (by omega) (by omega), ?_⟩
    · rw [e2, upd_ne (by decide), f3'.1]
      rfl
    · obtain ⟨r1, r2, r3, r4, r5⟩ := h1.2.1
      refine ⟨?_, ?_, ?_, fun k hk => ?_, fun k hk => ?_⟩
      · rw [o1 151 (by decide) (by decide), F4 0 (by decide)]
        exact r1
      · rw [o5 33 (by decide) (by decide) (by decide)]
        exact r2
      · rw [o5 34 (by decide) (by decide) (by decide)]
        exact r3
      · rw [o4 162 (by decide) (by decide) (by decide), o4 163 (by decide) (by decide) (by decide), o4 165 (by decide) (by decide) (by decide), o4 166 (by decide) (by decide) (by decide)]
        exact r4 k hk
      · rw [o4 164 (by decide) (by decide) (by decide)]
        exact r5 k hk
    · rw [o5 37 (by decide) (by decide) (by decide)]
      exact h1.2.2.1
    · intro k hk
      have hk' : k < t_n (sT S) := hk
      rw [o1 152 (by decide) (by decide), F5 152 (by decide) (by decide) k (by omega)]
      exact h1.2.2.2 k hk
    · intro k hk
      show O 160 k = upd (sF S) 0 (sF S 0 + 1) k
      rw [← hO, up_same, F1 160 (by decide) (by decide)]
      by_cases q : k = 0
      · rw [q, upd_same, upd_same, h4 0 (by decide)]
      · rw [upd_ne q, upd_ne q]
        exact h4 k hk
    · rw [o2 16 (by decide)]
      exact F3.2.1
    · rw [o2 4 (by decide)]
      exact F3.1
  | inr y =>
    obtain ⟨z1, z2⟩ := hz
    obtain ⟨w', hG, hD⟩ := f3
    have e23 : F 147 23 = 0 := hG.2.1
    obtain ⟨O, o1, o2, o3, o4, o5, o6, o7⟩ := M_over (g := g) (N := N) (sw := sw) (lv := lv') (L := L) z2 hD (by rw [F2 37 (by decide) (by decide) (by decide)]; exact h1.2.2.1) hA
    refine ⟨O, lv', ?_, ⟨o2, ⟨o5, fun i hi => absurd hi (Nat.not_lt_zero _)⟩, ⟨o6, fun i hi => absurd hi (Nat.not_lt_zero _)⟩, fun k hk => ?_, ⟨?_, fun i hi => absurd hi (Nat.not_lt_zero _)⟩, ?_, o7⟩, fun a p => (o3 a (by omega) (by omega)).trans (F1 a (by omega) (by omega)), ?_⟩
    · rw [ee, y_Mo_cabinet_99 _ _, d_t e23, o1, am_bd_ok, am_tn, y_Mo_cabinet_133 _ _]
      rfl
    · rw [o3 160 (by decide) (by decide), F1 160 (by decide) (by decide)]
      exact h4 k hk
    · rw [o4 16 (by decide) (by decide) (by decide) (by decide) (by decide)]
      exact F3.2.1
    · rw [o4 25 (by decide) (by decide) (by decide) (by decide) (by decide)]
      exact F3.2.2
    · rw [o4 4 (by decide) (by decide) (by decide) (by decide) (by decide)]
      exact F3.1
/-- what always holds goes on -/
theorem G_cab (hg : sG S) {X : x_X} {r : p_L} (hz : lZ X r) (A : Nat → Int32) : sG (s_cab S r A) := by
  obtain ⟨g1, g2, g3, g4, g5, g6⟩ := hg
  cases r with
  | inl fp => exact ⟨g1, g2, g3, ⟨Nat.zero_le _, fun i hi => absurd hi (Nat.not_lt_zero _)⟩, g5, g6⟩
  | inr y =>
    obtain ⟨z1, z2⟩ := hz
    have hp : 0 < 2 ^ q_n y.2 := Nat.pow_pos (by decide)
    refine ⟨⟨⟨z2.1, ?_, ⟨by show (0 : Int32) ≤ 0; decide, by show (0 : Int32) ≤ 2000; decide⟩, fun h hh => ?_, fun k hk => ⟨hk, rfl⟩⟩, rfl, by show (0 : Int32) ≤ 999; decide, fun h hh _ => ?_⟩, ⟨Nat.zero_le _, fun i hi => absurd hi (Nat.not_lt_zero _)⟩, ⟨Nat.zero_le _, fun i hi => absurd hi (Nat.not_lt_zero _)⟩, ⟨Nat.zero_le _, fun i hi => absurd hi (Nat.not_lt_zero _)⟩, fun j hj => ?_, fun y' e => by cases e⟩
    · show 2 ^ q_n y.2 - 1 < 2 ^ q_n y.2
      omega
    · have hh' : h < q_n y.2 := hh
      obtain ⟨s1, s2, s3, s4, s5⟩ := z2.2.2.1 h hh'
      refine ⟨⟨?_, ?_⟩, ⟨by show (-9 : Int32) ≤ 0; decide, by show (0 : Int32) ≤ 9; decide⟩, ?_, ?_, hh, rfl⟩
      · exact (nb_le (a := 0) (by decide) (by omega)).mpr (by omega)
      · exact (nb_le (b := 99) (by omega) (by decide)).mpr s2
      · show (q_h y.2 h).2.2.1 < 64
        omega
      · show (q_h y.2 h).2.2.2 < 64
        omega
    · have hh' : h < q_n y.2 := hh
      obtain ⟨s1, s2, s3, s4, s5⟩ := z2.2.2.1 h hh'
      exact (nb_lt (a := 0) (by decide) (by omega)).mpr (by omega)
    · show 0 ≤ Int32.ofNat (q_t y.2 j)
      have := z2.2.2.2.1.2 j hj
      exact (nb_le (a := 0) (by decide) (by omega)).mpr (by omega)
end CABM2
