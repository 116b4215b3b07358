/-! TOKENS of the reference -/
def x_v2 (X : x_X) (s : Nat) : Nat → Nat
  | 0 => 0
  | k + 1 => min 100000 (10 * x_v2 X s k + (X.2 (s + k) - 48))
theorem x_v2_le (X : x_X) (s : Nat) : ∀ k, x_v2 X s k ≤ 100000
  | 0 => Nat.zero_le _
  | k + 1 => Nat.min_le_left _ _
theorem x_v2_eq {X : x_X} {s p : Nat} (hd : ∀ j, s ≤ j → j < p → x_dg X j = true) : ∀ k, s + k ≤ p → k ≤ 4 → x_v2 X s k = x_v X s k
  | 0, _, _ => rfl
  | k + 1, h, hk => by
    have ih := x_v2_eq hd k (by omega) (by omega)
    have h1 := x_dg9 (hd (s + k) (by omega) (by omega))
    have h2 := (x_v_b hd k (by omega)).1 (by omega)
    have h4 : 10 ^ k ≤ 10 ^ 3 := Nat.pow_le_pow_right (by decide) (by omega)
    show min 100000 (10 * x_v2 X s k + (X.2 (s + k) - 48)) = cond (decide (k < 4)) (10 * x_v X s k + (X.2 (s + k) - 48)) 10000
    rw [ih, d_t (by omega : k < 4), Nat.min_eq_right (by omega)]
/-- the reference's kinds -/
def mk_ (k : Nat) : Int32 := cond (decide (k ≤ 2)) (Int32.ofNat k) (cond (decide (k = 3)) 4 3)
def mB (X : x_X) (I : Nat → Nat → Int32) : Prop := I 147 18 = Int32.ofNat X.1 ∧ ∀ i, i < X.1 → I 161 i = Int32.ofNat (X.2 i)
def mT (X : x_X) (q : Nat) (I : Nat → Nat → Int32) : Prop := mB X I ∧ I 147 17 = Int32.ofNat (x_E X q) ∧ I 147 22 = Int32.ofNat (x_E X q) ∧ I 147 19 = mk_ (x_K X q) ∧ I 147 21 = Int32.ofNat (x_S X q) ∧ (x_K X q = 2 → I 147 20 = Int32.ofNat (x_v2 X (x_S X q) (x_E X q - x_S X q)))
theorem mB_fr {X : x_X} {I I' : Nat → Nat → Int32} (h : mB X I) (e1 : I' 147 18 = I 147 18) (e2 : I' 161 = I 161) : mB X I' := by
  unfold mB
  rw [e1, e2]
  exact h
theorem mT_fr {X : x_X} {q : Nat} {I I' : Nat → Nat → Int32} (h : mT X q I) (e1 : ∀ j, 17 ≤ j → j ≤ 22 → I' 147 j = I 147 j) (e2 : I' 161 = I 161) : mT X q I' := by
  unfold mT mB
  rw [e1 17 (by decide) (by decide), e1 18 (by decide) (by decide), e1 19 (by decide) (by decide), e1 20 (by decide) (by decide), e1 21 (by decide) (by decide), e1 22 (by decide) (by decide), e2]
  exact h
section TOKM
variable {g N : Nat} {sw lv : Bool} {I : Nat → Nat → Int32} {L : Nat → Nat → Int64} {X : x_X}
theorem M_by (hx : x_ok X) (hb : mB X I) {p : Nat} (hp : p ≤ X.1) : g_Mo_byteAt I (Int32.ofNat p) = true ∧ v_Mo_byteAt I (Int32.ofNat p) = cond (decide (X.1 ≤ p)) (-1) (Int32.ofNat (X.2 p)) := by
  have hn := hx.1
  unfold g_Mo_byteAt v_Mo_byteAt
  rw [hb.1, nb_dle (by omega) (by omega)]
  by_cases q : X.1 ≤ p
  · rw [d_t q, d_t q, d_t q]
    exact ⟨rfl, rfl⟩
  · rw [d_f q, d_f q, d_f q, nb_inb (show p < 700 by omega) (by omega), nb_tn (by omega), hb.2 p (by omega)]
    exact ⟨rfl, rfl⟩
/-- from 145:0, spaces passed -/
theorem M_stA (hx : x_ok X) : ∀ c p (I1 : Nat → Nat → Int32), p + c = X.1 → mB X I1 → I1 147 17 = Int32.ofNat p → ∃ I2, am_R 145 2 0 [.ref 147, am_u] [] (am_hp g N sw lv I1 L) = am_R 145 2 0 [.ref 147, am_u] [] (am_hp g N sw lv I2 L) ∧ I2 147 17 = Int32.ofNat (sc (x_sp X) c p) ∧ (∀ a, a ≠ 147 → I2 a = I1 a) ∧ ∀ j, j ≠ 17 → I2 147 j = I1 147 j
  | 0, p, I1, hc, hb, h3 => ⟨I1, rfl, h3, fun _ _ => rfl, fun _ _ => rfl⟩
  | c + 1, p, I1, hc, hb, h3 => by
    have hn := hx.1
    have hp : p < X.1 := by omega
    obtain ⟨⟨s1, s2⟩, -⟩ := mb_1 _ (hx.2 p hp)
    obtain ⟨b1, b2⟩ := M_by hx hb (show p ≤ X.1 by omega)
    rw [d_f (by omega)] at b2
    unfold sc
    cases hs : x_sp X p with
    | false => exact ⟨I1, rfl, h3, fun _ _ => rfl, fun _ _ => rfl⟩
    | true =>
      obtain ⟨I2, c1, c2, c3, c4⟩ := M_stA hx c (p + 1) (am_up I1 147 (upd (I1 147) 17 (Int32.ofNat (p + 1)))) (by omega) (mB_fr hb (by rw [up_same, upd_ne (by decide)]) (up_ne (by decide))) (by rw [up_same, upd_same])
      refine ⟨I2, ?_, c2, fun a q => by rw [c3 a q, up_ne q], fun j q => by rw [c4 j q, up_same, upd_ne q]⟩
      unfold x_sp at hs
      rw [y_Mo_stepOn_0, h3, b1, b2, s1, s2, y_Mo_stepOn_26, h3, nb_s]
      cases h32 : decide (X.2 p = 32) with
      | true => exact c1
      | false =>
        rw [h32, Bool.false_or] at hs
        rw [hs]
        exact c1
theorem M_stL (hx : x_ok X) (x1 : Int32) : ∀ c p (I1 : Nat → Nat → Int32), p + c = X.1 → mB X I1 → I1 147 17 = Int32.ofNat p → ∃ I2, am_R 145 2 76 [.ref 147, .int x1] [] (am_hp g N sw lv I1 L) = some (.inl none, am_hp g N sw lv I2 L) ∧ I2 147 17 = Int32.ofNat (sc (x_lt X) c p) ∧ I2 147 22 = Int32.ofNat (sc (x_lt X) c p) ∧ I2 147 19 = 1 ∧ (∀ a, a ≠ 147 → I2 a = I1 a) ∧ ∀ j, j ≠ 17 → j ≠ 22 → j ≠ 19 → I2 147 j = I1 147 j
  | c, p, I1, hc, hb, h3 => by
    have hn := hx.1
    obtain ⟨b1, b2⟩ := M_by hx hb (show p ≤ X.1 by omega)
    have fin : sc (x_lt X) c p = p → decide (v_Mo_isLetter (v_Mo_byteAt I1 (Int32.ofNat p)) = 0) = true → ∃ I2, am_R 145 2 76 [.ref 147, .int x1] [] (am_hp g N sw lv I1 L) = some (.inl none, am_hp g N sw lv I2 L) ∧ I2 147 17 = Int32.ofNat (sc (x_lt X) c p) ∧ I2 147 22 = Int32.ofNat (sc (x_lt X) c p) ∧ I2 147 19 = 1 ∧ (∀ a, a ≠ 147 → I2 a = I1 a) ∧ ∀ j, j ≠ 17 → j ≠ 22 → j ≠ 19 → I2 147 j = I1 147 j := fun e d => by
      rw [e, y_Mo_stepOn_76 _, h3, b1, d, y_Mo_stepOn_212 _]
      refine ⟨_, rfl, ?_, ?_, ?_, fun a q => by rw [up_ne q, up_ne q], fun j q1 q2 q3 => by rw [up_same, upd_ne q2, up_same, upd_ne q3]⟩
      · rw [up_same, upd_ne (by decide), up_same, upd_ne (by decide)]
        exact h3
      · rw [up_same, upd_same, up_same, upd_ne (by decide)]
        exact h3
      · rw [up_same, upd_ne (by decide), up_same, upd_same]
    match c, hc with
    | 0, hc =>
      refine fin rfl ?_
      rw [b2, d_t (by omega), mb_n.1]
      rfl
    | c + 1, hc =>
      have hp : p < X.1 := by omega
      obtain ⟨-, s1, -⟩ := mb_1 _ (hx.2 p hp)
      rw [d_f (by omega)] at b2
      cases hs : x_lt X p with
      | false =>
        refine fin (by unfold sc; rw [hs]; rfl) ?_
        rw [b2, s1]
        unfold x_lt at hs
        rw [hs]
        rfl
      | true =>
        obtain ⟨I2, c1, c2, c3, c4, c5, c6⟩ := M_stL hx x1 c (p + 1) (am_up I1 147 (upd (I1 147) 17 (Int32.ofNat (p + 1)))) (by omega) (mB_fr hb (by rw [up_same, upd_ne (by decide)]) (up_ne (by decide))) (by rw [up_same, upd_same])
        unfold sc
        rw [hs]
        refine ⟨I2, ?_, c2, c3, c4, fun a q => by rw [c5 a q, up_ne q], fun j q1 q2 q3 => by rw [c6 j q1 q2 q3, up_same, upd_ne q1]⟩
        unfold x_lt at hs
        rw [y_Mo_stepOn_76 _, h3, b1, b2, s1, hs, nb_s]
        exact c1
theorem M_stD (hx : x_ok X) (x1 : Int32) {s : Nat} : ∀ c p (I1 : Nat → Nat → Int32), p + c = X.1 → s ≤ p → mB X I1 → I1 147 17 = Int32.ofNat p → I1 147 20 = Int32.ofNat (x_v2 X s (p - s)) → ∃ I2, am_R 145 2 123 [.ref 147, .int x1] [] (am_hp g N sw lv I1 L) = some (.inl none, am_hp g N sw lv I2 L) ∧ I2 147 17 = Int32.ofNat (sc (x_dg X) c p) ∧ I2 147 22 = Int32.ofNat (sc (x_dg X) c p) ∧ I2 147 19 = 2 ∧ I2 147 20 = Int32.ofNat (x_v2 X s (sc (x_dg X) c p - s)) ∧ (∀ a, a ≠ 147 → I2 a = I1 a) ∧ ∀ j, j ≠ 17 → j ≠ 22 → j ≠ 19 → j ≠ 20 → I2 147 j = I1 147 j
  | c, p, I1, hc, hsp, hb, h3, h6 => by
    have hn := hx.1
    obtain ⟨b1, b2⟩ := M_by hx hb (show p ≤ X.1 by omega)
    have fin : sc (x_dg X) c p = p → decide (v_Mo_isDigit (v_Mo_byteAt I1 (Int32.ofNat p)) = 0) = true → ∃ I2, am_R 145 2 123 [.ref 147, .int x1] [] (am_hp g N sw lv I1 L) = some (.inl none, am_hp g N sw lv I2 L) ∧ I2 147 17 = Int32.ofNat (sc (x_dg X) c p) ∧ I2 147 22 = Int32.ofNat (sc (x_dg X) c p) ∧ I2 147 19 = 2 ∧ I2 147 20 = Int32.ofNat (x_v2 X s (sc (x_dg X) c p - s)) ∧ (∀ a, a ≠ 147 → I2 a = I1 a) ∧ ∀ j, j ≠ 17 → j ≠ 22 → j ≠ 19 → j ≠ 20 → I2 147 j = I1 147 j := fun e d => by
      rw [e, y_Mo_stepOn_123 _, h3, b1, d, y_Mo_stepOn_212 _]
      refine ⟨_, rfl, ?_, ?_, ?_, ?_, fun a q => by rw [up_ne q, up_ne q], fun j q1 q2 q3 q4 => by rw [up_same, upd_ne q2, up_same, upd_ne q3]⟩
      · rw [up_same, upd_ne (by decide), up_same, upd_ne (by decide)]
        exact h3
      · rw [up_same, upd_same, up_same, upd_ne (by decide)]
        exact h3
      · rw [up_same, upd_ne (by decide), up_same, upd_same]
      · rw [up_same, upd_ne (by decide), up_same, upd_ne (by decide)]
        exact h6
    match c, hc with
    | 0, hc =>
      refine fin rfl ?_
      rw [b2, d_t (by omega), mb_n.2]
      rfl
    | c + 1, hc =>
      have hp : p < X.1 := by omega
      obtain ⟨-, -, s1, -⟩ := mb_1 _ (hx.2 p hp)
      rw [d_f (by omega)] at b2
      cases hs : x_dg X p with
      | false =>
        refine fin (by unfold sc; rw [hs]; rfl) ?_
        rw [b2, s1]
        unfold x_dg at hs
        rw [hs]
        rfl
      | true =>
        have h9 := x_dg9 hs
        have hv := x_v2_le X s (p - s)
        have ev : x_v2 X s (p + 1 - s) = min 100000 (10 * x_v2 X s (p - s) + (X.2 p - 48)) := by
          rw [show p + 1 - s = (p - s) + 1 by omega]
          show min 100000 (10 * x_v2 X s (p - s) + (X.2 (s + (p - s)) - 48)) = _
          rw [show s + (p - s) = p by omega]
        have ti : ∀ m : Nat, m < 2000000 → (Int32.ofNat m).toInt = m := fun m hm => Int32.toInt_ofNat_of_lt (by omega)
        have e1 : (10 * Int32.ofNat (x_v2 X s (p - s))) + Int32.ofNat (X.2 p) - 48 = Int32.ofNat (10 * x_v2 X s (p - s) + (X.2 p - 48)) := by
          rw [show 10 * Int32.ofNat (x_v2 X s (p - s)) = Int32.ofNat (10 * x_v2 X s (p - s)) from nb_mul 10 _, nb_add]
          rw [show 10 * x_v2 X s (p - s) + (X.2 p - 48) = 10 * x_v2 X s (p - s) + X.2 p - 48 by omega]
          exact (Int32.ofNat_sub _ 48 (by omega)).symm
        have e2 : v_Ma_min 100000 (Int32.ofNat (10 * x_v2 X s (p - s) + (X.2 p - 48))) = Int32.ofNat (x_v2 X s (p + 1 - s)) := by
          rw [ev]
          unfold v_Ma_min
          have et : (100000 : Int32).toInt = 100000 := by decide
          by_cases q : 10 * x_v2 X s (p - s) + (X.2 p - 48) < 100000
          · rw [d_t (by rw [Int32.lt_iff_toInt_lt, ti _ (by omega), et]; omega), Nat.min_eq_right (by omega)]
          · rw [d_f (by rw [Int32.lt_iff_toInt_lt, ti _ (by omega), et]; omega), Nat.min_eq_left (by omega)]
            rfl
        have u : upd (I1 147) 20 (Int32.ofNat (x_v2 X s (p + 1 - s))) 17 = Int32.ofNat p := by rw [upd_ne (by decide)]; exact h3
        obtain ⟨I2, c1, c2, c3, c4, c5, c6, c7⟩ := M_stD hx x1 (s := s) c (p + 1) (am_up (am_up I1 147 (upd (I1 147) 20 (Int32.ofNat (x_v2 X s (p + 1 - s))))) 147 (upd (upd (I1 147) 20 (Int32.ofNat (x_v2 X s (p + 1 - s)))) 17 (Int32.ofNat (p + 1)))) (by omega) (by omega) (mB_fr hb (by rw [up_same, upd_ne (by decide), upd_ne (by decide)]) (by rw [up_ne (by decide), up_ne (by decide)])) (by rw [up_same, upd_same]) (by rw [up_same, upd_ne (by decide), upd_same])
        unfold sc
        rw [hs]
        refine ⟨I2, ?_, c2, c3, c4, c5, fun a q => by rw [c6 a q, up_ne q, up_ne q], fun j q1 q2 q3 q4 => by rw [c7 j q1 q2 q3 q4, up_same, upd_ne q1, upd_ne q4]⟩
        unfold x_dg at hs
        rw [y_Mo_stepOn_123 _, h3, b1, b2, s1, hs, h6, e1, e2, u, nb_s]
        exact c1
theorem M_step (hx : x_ok X) {p : Nat} (hp : p ≤ X.1) (hb : mB X I) (h3 : I 147 17 = Int32.ofNat p) : ∃ I2, am_R 145 2 0 [.ref 147, am_u] [] (am_hp g N sw lv I L) = some (.inl none, am_hp g N sw lv I2 L) ∧ mT X p I2 ∧ (∀ a, a ≠ 147 → I2 a = I a) ∧ ∀ j, j < 17 ∨ 22 < j → I2 147 j = I 147 j := by
  have hn := hx.1
  obtain ⟨I1, a1, a2, a3, a4⟩ := M_stA (g := g) (N := N) (sw := sw) (lv := lv) (L := L) hx (X.1 - p) p I (by omega) hb h3
  have hb1 : mB X I1 := mB_fr hb (a4 18 (by decide)) (a3 161 (by decide))
  have ha2 : I1 147 17 = Int32.ofNat (x_S X p) := a2
  obtain ⟨l1, l2⟩ := x_S_le (X := X) hp
  have hend := sc_end (x_sp X) (X.1 - p) p
  have hend2 : x_S X p < X.1 → x_sp X (x_S X p) = false := fun q => hend (by unfold x_S at q; omega)
  have q3 : upd (I1 147) 21 (I1 147 17) 17 = Int32.ofNat (x_S X p) := by rw [upd_ne (by decide)]; exact ha2
  have hb2 : mB X (am_up I1 147 (upd (I1 147) 21 (I1 147 17))) := mB_fr hb1 (by rw [up_same, upd_ne (by decide)]) (up_ne (by decide))
  have e0 := y_Mo_stepOn_0 (g := g) (N := N) (sw := sw) (lv := lv) (I := I1) (L := L)
  rw [q3] at e0
  obtain ⟨b1, b2⟩ := M_by hx hb1 l2
  obtain ⟨b3, b4⟩ := M_by hx hb2 l2
  rw [ha2] at e0
  rw [ha2] at b3 b4
  rw [b1, b2, b3, b4] at e0
  rw [a1, e0]
  generalize hS : x_S X p = s at *
  have eK : x_K X p = x_Ks X s := by unfold x_K; rw [hS]
  have eE : x_E X p = x_Es X s := by unfold x_E; rw [hS]
  by_cases h0 : s < X.1
  · obtain ⟨⟨s1, s2⟩, s3, s4, s5⟩ := mb_1 _ (hx.2 s h0)
    have hsp := hend2 h0
    unfold x_sp at hsp
    rw [Bool.or_eq_false_iff] at hsp
    rw [d_f (by omega : ¬ X.1 ≤ s), s1, s2, hsp.1, hsp.2, d_f (nb_n1 (by have := hx.2 s h0; omega)), s3, s4, s5]
    simp only [cond_true, cond_false]
    cases hl : x_lt X s with
    | true =>
      have k1 : x_K X p = 1 := by
        rw [eK]
        unfold x_Ks
        rw [d_f (by omega), hl]
        rfl
      have k2 : x_E X p = sc (x_lt X) (X.1 - s) s := by
        rw [eE]
        unfold x_Es
        rw [d_f (by omega), hl]
        rfl
      obtain ⟨I2, c1, c2, c3, c4, c5, c6⟩ := M_stL (g := g) (N := N) (sw := sw) (lv := lv) (L := L) hx (Int32.ofNat (X.2 s)) (X.1 - s) s (am_up I1 147 (upd (I1 147) 21 (Int32.ofNat s))) (by omega) (mB_fr hb1 (by rw [up_same, upd_ne (by decide)]) (up_ne (by decide))) (by rw [up_same, upd_ne (by decide)]; exact ha2)
      refine ⟨I2, ?_, ⟨mB_fr hb1 ?_ ?_, by rw [c2, k2], by rw [c3, k2], by rw [c4, k1]; rfl, ?_, fun q => by rw [k1] at q; cases q⟩, fun a q => ?_, fun j q => ?_⟩
      · unfold x_lt at hl
        rw [hl]
        exact c1
      · rw [c6 18 (by decide) (by decide) (by decide), up_same, upd_ne (by decide)]
      · rw [c5 161 (by decide), up_ne (by decide)]
      · rw [c6 21 (by decide) (by decide) (by decide), up_same, upd_same, hS]
      · rw [c5 a q, up_ne q, a3 a q]
      · rw [c6 j (by omega) (by omega) (by omega), up_same, upd_ne (by omega), a4 j (by omega)]
    | false =>
      have hl' : (decide (97 ≤ X.2 s) && decide (X.2 s ≤ 122)) = false := hl
      rw [hl']
      simp only [Bool.not_false, cond_true]
      cases hd : x_dg X s with
      | true =>
        have k1 : x_K X p = 2 := by
          rw [eK]
          unfold x_Ks
          rw [d_f (by omega), hl, hd]
          rfl
        have k2 : x_E X p = sc (x_dg X) (X.1 - s) s := by
          rw [eE]
          unfold x_Es
          rw [d_f (by omega), hl, hd]
          rfl
        obtain ⟨I2, c1, c2, c3, c4, c5, c6, c7⟩ := M_stD (g := g) (N := N) (sw := sw) (lv := lv) (L := L) hx (Int32.ofNat (X.2 s)) (s := s) (X.1 - s) s (am_up (am_up I1 147 (upd (I1 147) 21 (Int32.ofNat s))) 147 (upd (upd (I1 147) 21 (Int32.ofNat s)) 20 0)) (by omega) (Nat.le_refl _) (mB_fr hb1 (by rw [up_same, upd_ne (by decide), upd_ne (by decide)]) (by rw [up_ne (by decide), up_ne (by decide)])) (by rw [up_same, upd_ne (by decide), upd_ne (by decide)]; exact ha2) (by rw [up_same, upd_same, Nat.sub_self]; rfl)
        refine ⟨I2, ?_, ⟨mB_fr hb1 ?_ ?_, by rw [c2, k2], by rw [c3, k2], by rw [c4, k1]; rfl, ?_, fun _ => ?_⟩, fun a q => ?_, fun j q => ?_⟩
        · unfold x_dg at hd
          rw [hd]
          exact c1
        · rw [c7 18 (by decide) (by decide) (by decide) (by decide), up_same, upd_ne (by decide), upd_ne (by decide)]
        · rw [c6 161 (by decide), up_ne (by decide), up_ne (by decide)]
        · rw [c7 21 (by decide) (by decide) (by decide) (by decide), up_same, upd_ne (by decide), upd_same, hS]
        · rw [c5, hS, k2]
        · rw [c6 a q, up_ne q, up_ne q, a3 a q]
        · rw [c7 j (by omega) (by omega) (by omega) (by omega), up_same, upd_ne (by omega), upd_ne (by omega), a4 j (by omega)]
      | false =>
        have hd' : (decide (48 ≤ X.2 s) && decide (X.2 s ≤ 57)) = false := hd
        have k1 : x_K X p = cond (x_mk (X.2 s)) (X.2 s) 3 := by
          rw [eK]
          unfold x_Ks
          rw [d_f (by omega), hl, hd]
          rfl
        have k2 : x_E X p = s + 1 := by
          rw [eE]
          unfold x_Es
          rw [d_f (by omega), hl, hd]
          rfl
        have kk : ∀ b, b < 256 → mk_ (cond (x_mk b) b 3) = cond (x_mk b) 3 4 ∧ cond (x_mk b) b 3 ≠ 2 := by decide +kernel
        obtain ⟨kk1, kk2⟩ := kk _ (hx.2 s h0)
        rw [← k1] at kk1 kk2
        have key : ∀ y : Int32, y = mk_ (x_K X p) → ∃ I2, am_R 145 2 212 [.ref 147, .int (Int32.ofNat (X.2 s))] [] (am_hp g N sw lv (am_up (am_up (am_up I1 147 (upd (I1 147) 21 (Int32.ofNat s))) 147 (upd (upd (I1 147) 21 (Int32.ofNat s)) 17 (Int32.ofNat (s + 1)))) 147 (upd (upd (upd (I1 147) 21 (Int32.ofNat s)) 17 (Int32.ofNat (s + 1))) 19 y)) L) = some (.inl none, am_hp g N sw lv I2 L) ∧ mT X p I2 ∧ (∀ a, a ≠ 147 → I2 a = I a) ∧ ∀ j, j < 17 ∨ 22 < j → I2 147 j = I 147 j := fun y hy => by
          refine ⟨_, y_Mo_stepOn_212 _, ⟨mB_fr hb1 ?_ ?_, ?_, ?_, ?_, ?_, fun q => absurd q kk2⟩, fun a q => ?_, fun j q => ?_⟩
          · rw [up_same, upd_ne (by decide), up_same, upd_ne (by decide), upd_ne (by decide), upd_ne (by decide)]
          · rw [up_ne (by decide), up_ne (by decide), up_ne (by decide), up_ne (by decide)]
          · rw [up_same, upd_ne (by decide), up_same, upd_ne (by decide), upd_same, k2]
          · rw [up_same, upd_same, up_same, upd_ne (by decide), upd_same, k2]
          · rw [up_same, upd_ne (by decide), up_same, upd_same, hy]
          · rw [up_same, upd_ne (by decide), up_same, upd_ne (by decide), upd_ne (by decide), upd_same, hS]
          · rw [up_ne q, up_ne q, up_ne q, up_ne q, a3 a q]
          · rw [up_same, upd_ne (by omega), up_same, upd_ne (by omega), upd_ne (by omega), upd_ne (by omega), a4 j (by omega)]
        have q17 : upd (I1 147) 21 (Int32.ofNat s) 17 = Int32.ofNat s := by rw [upd_ne (by decide)]; exact ha2
        rw [hd']
        simp only [Bool.not_false, cond_true]
        rw [nb_s]
        cases hm : x_mk (X.2 s) with
        | true =>
          rw [hm] at kk1
          exact key 3 (by rw [kk1]; rfl)
        | false =>
          rw [hm] at kk1
          exact key 4 (by rw [kk1]; rfl)
  · have k1 : x_K X p = 0 := by
      rw [eK]
      unfold x_Ks
      rw [d_t (by omega)]
    have k2 : x_E X p = s := by
      rw [eE]
      unfold x_Es
      rw [d_t (by omega)]
    rw [d_t (by omega : X.1 ≤ s)]
    refine ⟨_, y_Mo_stepOn_212 _, ⟨mB_fr hb1 ?_ ?_, ?_, ?_, ?_, ?_, fun q => by rw [k1] at q; cases q⟩, fun a q => ?_, fun j q => ?_⟩
    · rw [up_same, upd_ne (by decide), up_same, upd_ne (by decide), upd_ne (by decide)]
    · rw [up_ne (by decide), up_ne (by decide), up_ne (by decide)]
    · rw [up_same, upd_ne (by decide), up_same, upd_ne (by decide), upd_ne (by decide), k2]
      exact ha2
    · rw [up_same, upd_same, up_same, upd_ne (by decide), upd_ne (by decide), k2]
      exact ha2
    · rw [up_same, upd_ne (by decide), up_same, upd_same, k1]
      rfl
    · rw [up_same, upd_ne (by decide), up_same, upd_ne (by decide), upd_same, hS]
    · rw [up_ne q, up_ne q, up_ne q, a3 a q]
    · rw [up_same, upd_ne (by omega), up_same, upd_ne (by omega), upd_ne (by omega), a4 j (by omega)]
end TOKM
