/-! ACTS kept -/
def k_keep (A : s_A) (T : tr_T) : s_A := cond (decide (A.1 < 40)) (A.1 + 1, fun i => if i = A.1 then T else A.2 i) (40, fun i => if i = 39 then T else A.2 (i + 1))
def s_act (S : s_S) (T' : tr_T) : s_S := ((sE S, sB S, T'), k_keep (sA S) (sT S), sW S, sF S, sP S, sX S, sI S)
def s_ref (S : s_S) (k : Nat) : s_S := ((sE S, sB S, sT S), sA S, sW S, upd (sF S) k (sF S k + 1), sP S, sX S, sI S)
theorem nb_9 (a : Nat) : Int32.ofNat a * 9 = Int32.ofNat (9 * a) := by
  rw [Nat.mul_comm]
  exact nb_mul a 9
theorem nb_42 (a : Nat) : 42 * Int32.ofNat a = Int32.ofNat (42 * a) := nb_mul 42 a
theorem nb_m40 {a : Nat} (h : a < 1000) : Int32.ofNat a - Int32.ofNat a / 40 * 40 = Int32.ofNat (a % 40) := nb_mod (n := 40) (by omega) (by decide)
theorem nb_min40 {a : Nat} (h : a < 1000) : v_Ma_min 40 (Int32.ofNat a) = Int32.ofNat (min 40 a) := by
  unfold v_Ma_min
  by_cases q : a < 40
  · rw [show decide (Int32.ofNat a < 40) = decide (a < 40) from nb_dlt (b := 40) (by omega) (by decide), d_t q, Nat.min_eq_right (by omega)]
  · rw [show decide (Int32.ofNat a < 40) = decide (a < 40) from nb_dlt (b := 40) (by omega) (by decide), d_f q, Nat.min_eq_left (by omega)]
    rfl
theorem g_I2 {α : Type} {a b x : Int32} {p q : α} : cond (decide (x < a)) q (cond (decide (b < x)) q p) = cond (gI a b x) p q := by
  rw [← g_I, i_dnlt (x := b) (y := x)]
  cases decide (x < a) <;> cases decide (x ≤ b) <;> rfl
section ACTS
variable {g N : Nat} {sw lv : Bool} {I I' : Nat → Nat → Int32} {L : Nat → Nat → Int64} {S : s_S} {T : tr_T}
theorem pC_at {a o : Nat} (h : pC a o T I) (hn : t_n T ≤ 8) (e : ∀ j, o ≤ j → j < o + 9 → I' a j = I a j) : pC a o T I' :=
  ⟨by rw [e o (by omega) (by omega)]; exact h.1, fun k hk => by rw [e (o + 1 + k) (by omega) (by omega)]; exact h.2 k hk⟩
theorem pM_at {a o : Nat} (h : pM a o T I) (hn : t_n T ≤ 8) (e : ∀ j, o ≤ j → j < o + 42 → I' a j = I a j) : pM a o T I' := by
  refine ⟨by rw [e o (by omega) (by omega)]; exact h.1, by rw [e (o + 1) (by omega) (by omega)]; exact h.2.1, fun k hk => ?_⟩
  rw [e (o + 2 + k) (by omega) (by omega), e (o + 10 + k) (by omega) (by omega), e (o + 18 + k) (by omega) (by omega), e (o + 26 + k) (by omega) (by omega), e (o + 34 + k) (by omega) (by omega)]
  exact h.2.2 k hk
theorem C_keep (h : sC S sw I) (hg : sG S) : ∃ I', am_R 14 2 0 [.ref 119, .ref 99] [] (am_hp g N sw lv I L) = some (.inl none, am_hp g N sw lv I' L) ∧ aC 119 (k_keep (sA S) (sT S)) I' ∧ ∀ a, a ≠ 119 → a ≠ 120 → I' a = I a := by
  obtain ⟨nx, n1, n2, n3, n4⟩ := h.2.1
  obtain ⟨g1, g2, -⟩ := hg
  have ha : am_isa 119 := Or.inl rfl
  obtain ⟨I1, a1, a2, a3, a4⟩ := rC_pack (g := g) (N := N) (sw := sw) (lv := lv) (L := L) a_99 ha h.1.2.1 g1.1 (o := 9 * nx) (by omega)
  have hm := g2.1
  have e1 : I1 119 = I 119 := a2 119 (by decide)
  have q2 : upd (I 119) 2 (Int32.ofNat ((nx + 1) % 40)) 1 = Int32.ofNat (sA S).1 := by rw [upd_ne (by decide)]; exact n2
  refine ⟨am_up (am_up I1 119 (upd (I 119) 2 (Int32.ofNat ((nx + 1) % 40)))) 119 (upd (upd (I 119) 2 (Int32.ofNat ((nx + 1) % 40))) 1 (Int32.ofNat (min 40 ((sA S).1 + 1)))), ?_, ?_, ?_⟩
  · rw [y_Ac_keep_0 a_99 ha, n3, nb_9, a1, am_bd_ok, am_tn, y_Ac_keep_15 a_99 ha, e1, n3, nb_s, nb_m40 (by omega), q2, nb_s, nb_min40 (by omega)]
  · unfold k_keep
    refine ⟨(nx + 1) % 40, Nat.mod_lt _ (by decide), ?_, ?_, fun i hi => ?_⟩
    · rw [up_same, upd_same]
      by_cases hc : (sA S).1 < 40
      · rw [d_t hc, Nat.min_eq_right (by omega)]
      · rw [d_f hc, Nat.min_eq_left (by omega)]
    · rw [up_same, upd_ne (by decide), upd_same]
    · have u : ∀ T' : tr_T, ∀ o, pC (119 + 1) o T' I1 → pC (119 + 1) o T' (am_up (am_up I1 119 (upd (I 119) 2 (Int32.ofNat ((nx + 1) % 40)))) 119 (upd (upd (I 119) 2 (Int32.ofNat ((nx + 1) % 40))) 1 (Int32.ofNat (min 40 ((sA S).1 + 1))))) := fun T' o q => pC_fr q (by rw [up_ne (by decide), up_ne (by decide)])
      have v : ∀ j b, j < (sA S).1 → b = (nx + 40 - (sA S).1 + j) % 40 → b ≠ nx → pC (119 + 1) (9 * b) ((sA S).2 j) I1 := fun j b hj hb hne => by
        rw [hb] at hne ⊢
        exact pC_at (n4 j hj) (by have := (g2.2 j hj).1.1; exact this) (fun i p1 p2 => a4 i (by omega))
      by_cases hc : (sA S).1 < 40
      · rw [d_t hc] at hi ⊢
        dsimp only at hi ⊢
        by_cases hq : i = (sA S).1
        · rw [if_pos hq, show ((nx + 1) % 40 + 40 - ((sA S).1 + 1) + i) % 40 = nx by omega]
          exact u _ _ a3
        · rw [if_neg hq]
          exact u _ _ (v i _ (by omega) (by omega) (by omega))
      · rw [d_f hc] at hi ⊢
        dsimp only at hi ⊢
        by_cases hq : i = 39
        · rw [if_pos hq, show ((nx + 1) % 40 + 40 - 40 + i) % 40 = nx by omega]
          exact u _ _ a3
        · rw [if_neg hq]
          exact u _ _ (v (i + 1) _ (by omega) (by omega) (by omega))
  · intro a p1 p2
    rw [up_ne p1, up_ne p1]
    exact a2 a p2
theorem M_shL : ∀ c k (I1 : Nat → Nat → Int32), k + c = 1680 → 42 ≤ k → (∀ j, j + 42 < k → I1 167 j = I 167 (j + 42)) → (∀ j, k ≤ j + 42 → I1 167 j = I 167 j) → (∀ a, a ≠ 167 → I1 a = I a) → ∃ I2, am_R 190 2 12 [.ref 147, .int (Int32.ofNat k)] [] (am_hp g N sw lv I1 L) = am_R 190 2 12 [.ref 147, .int (Int32.ofNat 1680)] [] (am_hp g N sw lv I2 L) ∧ (∀ j, j + 42 < 1680 → I2 167 j = I 167 (j + 42)) ∧ ∀ a, a ≠ 167 → I2 a = I a
  | 0, k, I1, hc, hk, h1, h2, h3 => ⟨I1, by rw [show k = 1680 by omega], fun j hj => h1 j (by omega), h3⟩
  | c + 1, k, I1, hc, hk, h1, h2, h3 => by
    have e : Int32.ofNat k - 42 = Int32.ofNat (k - 42) := (Int32.ofNat_sub k 42 hk).symm
    obtain ⟨I2, b1, b2, b3⟩ := M_shL c (k + 1) (am_up I1 167 (upd (I1 167) (k - 42) (I1 167 k))) (by omega) (by omega) (fun j hj => by
      rw [up_same]
      by_cases q : j = k - 42
      · rw [q, upd_same, h2 k (by omega), show k - 42 + 42 = k by omega]
      · rw [upd_ne q]
        exact h1 j (by omega)) (fun j hj => by
      rw [up_same, upd_ne (by omega)]
      exact h2 j (by omega)) (fun a p => by
      rw [up_ne p]
      exact h3 a p)
    refine ⟨I2, ?_, b2, b3⟩
    rw [y_Mo_keep_12 _, nb_dle (by decide) (by omega), d_f (by omega : ¬ 1680 ≤ k), e, nb_inb (show k < 1680 by omega) (by omega), nb_inb (show k - 42 < 1680 by omega) (by omega), nb_tn (by omega), nb_tn (by omega), nb_s]
    exact b1
theorem pM_sh {i : Nat} (hi : i < 39) (hn : t_n T ≤ 8) (h : pM 167 (42 * (i + 1)) T I) (e : ∀ j, j + 42 < 1680 → I' 167 j = I 167 (j + 42)) : pM 167 (42 * i) T I' := by
  have e2 : ∀ j, j < 42 → I' 167 (42 * i + j) = I 167 (42 * (i + 1) + j) := fun j hj => by
    rw [e (42 * i + j) (by omega), show 42 * i + j + 42 = 42 * (i + 1) + j by omega]
  refine ⟨(e2 0 (by omega)).trans h.1, (e2 1 (by omega)).trans h.2.1, fun k hk => ?_⟩
  have h2 := h.2.2 k hk
  rw [show 42 * i + 2 + k = 42 * i + (2 + k) by omega, show 42 * i + 10 + k = 42 * i + (10 + k) by omega, show 42 * i + 18 + k = 42 * i + (18 + k) by omega, show 42 * i + 26 + k = 42 * i + (26 + k) by omega, show 42 * i + 34 + k = 42 * i + (34 + k) by omega, e2 (2 + k) (by omega), e2 (10 + k) (by omega), e2 (18 + k) (by omega), e2 (26 + k) (by omega), e2 (34 + k) (by omega), show 42 * (i + 1) + (2 + k) = 42 * (i + 1) + 2 + k by omega, show 42 * (i + 1) + (10 + k) = 42 * (i + 1) + 10 + k by omega, show 42 * (i + 1) + (18 + k) = 42 * (i + 1) + 18 + k by omega, show 42 * (i + 1) + (26 + k) = 42 * (i + 1) + 26 + k by omega, show 42 * (i + 1) + (34 + k) = 42 * (i + 1) + 34 + k by omega]
  exact h2
theorem M_keep (h : sM S I) (hg : sG S) : ∃ I', am_R 190 2 0 [.ref 147, am_u] [] (am_hp g N sw lv I L) = some (.inl none, am_hp g N sw lv I' L) ∧ aM 167 35 (k_keep (sA S) (sT S)) I' ∧ (∀ a, a ≠ 147 → a ≠ 167 → I' a = I a) ∧ ∀ j, j ≠ 35 → I' 147 j = I 147 j := by
  obtain ⟨m1, m2⟩ := h.2.1
  obtain ⟨g1, g2, -⟩ := hg
  have hm := g2.1
  have ha : am_isk 167 := by unfold am_isk; omega
  unfold k_keep
  by_cases hc : (sA S).1 < 40
  · obtain ⟨I1, a1, a2, a3, a4⟩ := rM_pack (g := g) (N := N) (sw := sw) (lv := lv) (L := L) ha h.1.2.1 g1.1 (o := 42 * (sA S).1) (show 42 * (sA S).1 + 42 ≤ 1680 by omega) (show 1680 ≤ 2000 by decide)
    have e7 : I1 147 = I 147 := a2 147 (by decide)
    refine ⟨am_up I1 147 (upd (I 147) 35 (Int32.ofNat ((sA S).1 + 1))), ?_, ?_, ?_, ?_⟩
    · rw [y_Mo_keep_0, m1, show decide (Int32.ofNat (sA S).1 = 40) = decide ((sA S).1 = 40) from nb_deq (b := 40) (by omega) (by decide), d_f (by omega : ¬ (sA S).1 = 40), nb_42, a1, am_bd_ok, am_tn, y_Mo_keep_67 _, e7, m1, nb_s]
    · rw [d_t hc]
      refine ⟨?_, fun i hi => pM_fr ?_ (up_ne (by decide))⟩
      · rw [up_same, upd_same]
      · dsimp only at hi ⊢
        by_cases hq : i = (sA S).1
        · rw [if_pos hq, hq]
          exact a3
        · rw [if_neg hq]
          exact pM_at (m2 i (by omega)) (g2.2 i (by omega)).1.1 (fun j p1 p2 => a4 j (by omega))
    · intro a p1 p2
      rw [up_ne p1]
      exact a2 a p2
    · intro j p
      rw [up_same, upd_ne p]
  · have hm0 : (sA S).1 = 40 := by omega
    obtain ⟨I0, s1, s2, s3⟩ := M_shL (g := g) (N := N) (sw := sw) (lv := lv) (L := L) (I := I) 1638 42 I (by omega) (by omega) (fun j hj => by omega) (fun j _ => rfl) (fun a _ => rfl)
    have f7 : I0 147 = I 147 := s3 147 (by decide)
    have e35 : upd (I 147) 35 (I 147 35 - 1) 35 = Int32.ofNat 39 := by
      rw [upd_same, m1, hm0]
      decide
    have r0 : rM (sT S) (am_up I0 147 (upd (I 147) 35 (I 147 35 - 1))) := rM_fr h.1.2.1 (fun a q => by rw [up_ne (by omega), s3 a (by omega)]) (by rw [up_same, upd_ne (by decide)]) (by rw [up_same, upd_ne (by decide)])
    obtain ⟨I1, a1, a2, a3, a4⟩ := rM_pack (g := g) (N := N) (sw := sw) (lv := lv) (L := L) ha r0 g1.1 (o := 1638) (show 1638 + 42 ≤ 1680 by decide) (show 1680 ≤ 2000 by decide)
    have e7 : I1 147 = upd (I 147) 35 (I 147 35 - 1) := by
      rw [a2 147 (by decide), up_same]
    refine ⟨am_up I1 147 (upd (upd (I 147) 35 (I 147 35 - 1)) 35 (Int32.ofNat 40)), ?_, ?_, ?_, ?_⟩
    · rw [y_Mo_keep_0, m1, show decide (Int32.ofNat (sA S).1 = 40) = decide ((sA S).1 = 40) from nb_deq (b := 40) (by omega) (by decide), d_t hm0, show (.int 42 : Value) = .int (Int32.ofNat 42) from rfl, s1, y_Mo_keep_12 _, d_t (Int32.le_refl _), f7, e35, nb_42, a1, am_bd_ok, am_tn, y_Mo_keep_67 _, e7, e35, m1]
      rfl
    · rw [d_f hc]
      refine ⟨?_, fun i hi => pM_fr ?_ (up_ne (by decide))⟩
      · rw [up_same, upd_same]
      · dsimp only at hi ⊢
        by_cases hq : i = 39
        · rw [if_pos hq, hq]
          exact a3
        · rw [if_neg hq]
          have hi2 : i < 39 := by omega
          have w1 := pM_sh (I' := I0) hi2 (g2.2 (i + 1) (by omega)).1.1 (m2 (i + 1) (by omega)) s2
          exact pM_at (I := I0) w1 (g2.2 (i + 1) (by omega)).1.1 (fun j p1 p2 => by rw [a4 j (by omega), up_ne (by decide)])
    · intro a p1 p2
      rw [up_ne p1, a2 a p2, up_ne p1]
      exact s3 a p2
    · intro j p
      rw [up_same, upd_ne p, upd_ne p]
/-- an act done -/
theorem sC_act {T' : tr_T} (h : sC S sw I) (ha : aC 119 (k_keep (sA S) (sT S)) I') (hr : rC 99 T' I') (e : ∀ a, a < 88 ∨ 88 < a ∧ a < 98 ∨ 120 < a ∧ a < 144 → I' a = I a) : sC (s_act S T') sw I' := by
  obtain ⟨h1, h2, h3, h4, h5, h6, h7⟩ := h
  refine sC_of (S := S) ⟨h1, h2, h3, h4, h5, h6, h7⟩ hr ha (wCs_fr h3 (fun a p q => e a (by omega))) ?_ (tC_fr h5 (e 77 (by decide)) (e 78 (by decide))) ?_ (fun a q => e a (by omega))
  · rw [e 125 (by decide)]
    exact h4
  · rw [e 75 (by decide)]
    exact h6
theorem sM_act {T' : tr_T} (h : sM S I) (ha : aM 167 35 (k_keep (sA S) (sT S)) I') (hr : rM T' I') (hn : t_n T' = t_n (sT S)) (e : ∀ a, 147 < a ∧ a < 162 ∨ a = 172 ∨ a = 173 ∨ a = 175 ∨ 178 < a → I' a = I a) (e2 : ∀ j, j ≠ 4 → j ≠ 33 → j ≠ 34 → j ≠ 35 → I' 147 j = I 147 j) : sM (s_act S T') I' := by
  obtain ⟨h1, h2, h3, h4, h5, h6, h7⟩ := h
  refine sM_of (S := S) ⟨h1, h2, h3, h4, h5, h6, h7⟩ hr hn (by rw [e2 37 (by decide) (by decide) (by decide) (by decide)]; exact h1.2.2.1) ha (wMs_fr h3 (e2 36 (by decide) (by decide) (by decide) (by decide)) (e 172 (by decide)) (e 173 (by decide)) (e 175 (by decide))) ?_ (tM_fr h5 (e2 16 (by decide) (by decide) (by decide) (by decide)) (e 161 (by decide))) ?_ (fun a q => e a (by omega)) (fun j p q => e2 j (by omega) (by omega) (by omega) (by omega))
  · rw [e 160 (by decide)]
    exact h4
  · rw [e2 25 (by decide) (by decide) (by decide) (by decide)]
    exact h6
/-- an act refused -/
theorem sC_ref (h : sC S sw I) (k : Nat) (hk : k < 3) : sC (s_ref S k) sw (am_up I 125 (upd (I 125) k (I 125 k + 1))) := by
  obtain ⟨h1, h2, h3, h4, h5, h6, h7⟩ := h
  refine sC_of (S := S) ⟨h1, h2, h3, h4, h5, h6, h7⟩ (rC_fr h1.2.1 (fun a p q => up_ne (by omega))) (aC_fr h2 (up_ne (by decide)) (up_ne (by decide))) (wCs_fr h3 (fun a p q => up_ne (by omega))) (fun j hj => ?_) (tC_fr h5 (up_ne (by decide)) (up_ne (by decide))) ?_ (fun a q => up_ne (by omega))
  · rw [up_same]
    by_cases q : j = k
    · rw [q, upd_same, upd_same, h4 k hk]
    · rw [upd_ne q, upd_ne q]
      exact h4 j hj
  · rw [up_ne (by decide)]
    exact h6
theorem sM_ref (h : sM S I) (k : Nat) (hk : k < 3) : sM (s_ref S k) (am_up (am_up I 147 (upd (I 147) 4 0)) 160 (upd (I 160) k (I 160 k + 1))) := by
  obtain ⟨h1, h2, h3, h4, h5, h6, h7⟩ := h
  have u : ∀ a, a ≠ 147 → a ≠ 160 → (am_up (am_up I 147 (upd (I 147) 4 0)) 160 (upd (I 160) k (I 160 k + 1))) a = I a := fun a p q => by rw [up_ne q, up_ne p]
  have v : ∀ j, j ≠ 4 → (am_up (am_up I 147 (upd (I 147) 4 0)) 160 (upd (I 160) k (I 160 k + 1))) 147 j = I 147 j := fun j p => by rw [up_ne (by decide), up_same, upd_ne p]
  refine sM_of (S := S) ⟨h1, h2, h3, h4, h5, h6, h7⟩ (rM_fr h1.2.1 (fun a q => u a (by omega) (by omega)) (v 33 (by decide)) (v 34 (by decide))) rfl ((v 37 (by decide)).trans h1.2.2.1) (aM_fr h2 (v 35 (by decide)) (u 167 (by decide) (by decide))) (wMs_fr h3 (v 36 (by decide)) (u 172 (by decide) (by decide)) (u 173 (by decide) (by decide)) (u 175 (by decide) (by decide))) (fun j hj => ?_) (tM_fr h5 (v 16 (by decide)) (u 161 (by decide) (by decide))) ((v 25 (by decide)).trans h6) (fun a q => u a (by omega) (by omega)) (fun j p q => v j (by omega))
  rw [up_same]
  by_cases q : j = k
  · rw [q, upd_same, upd_same, h4 k hk]
  · rw [upd_ne q, upd_ne q]
    exact h4 j hj
theorem KC_ref {x : Option am_Res} {v : Int32} (h : sC S sw I) (k : Nat) (hk : k < 3) (e : x = some (.inl (some (.int v)), am_hp g N sw lv (am_up I 125 (upd (I 125) k (I 125 k + 1))) L)) : KC g N sw lv L I x (.inl v) (s_ref S k) := KC_v (sC_ref h k hk) (fun a p => up_ne (by omega)) e
theorem KM_ref {x : Option am_Res} {v : Int32} {kk : Nat → Nat} (h : sM S I) (k : Nat) (hk : k < 3) (e : x = some (.inl (some (.int v)), am_hp g N sw lv (am_up (am_up I 147 (upd (I 147) 4 0)) 160 (upd (I 160) k (I 160 k + 1))) L)) : KM g N sw lv L I kk x (.inl v) (s_ref S k) := KM_v (sM_ref h k hk) (fun a p => by rw [up_ne (by omega), up_ne (by omega)]) (by rw [up_ne (by decide), up_same, upd_same]) e
theorem gA_keep (hg : sG S) : gA (t_n (sT S)) (k_keep (sA S) (sT S)) := by
  obtain ⟨g1, g2, -⟩ := hg
  unfold k_keep
  by_cases hc : (sA S).1 < 40
  · rw [d_t hc]
    refine ⟨by show (sA S).1 + 1 ≤ 40; omega, fun i hi => ?_⟩
    have hi2 : i < (sA S).1 + 1 := hi
    show gT _ (if i = (sA S).1 then sT S else (sA S).2 i)
    by_cases q : i = (sA S).1
    · rw [if_pos q]
      exact g1
    · rw [if_neg q]
      exact g2.2 i (by omega)
  · rw [d_f hc]
    refine ⟨Nat.le_refl _, fun i hi => ?_⟩
    have hi2 : i < 40 := hi
    have := g2.1
    show gT _ (if i = 39 then sT S else (sA S).2 (i + 1))
    by_cases q : i = 39
    · rw [if_pos q]
      exact g1
    · rw [if_neg q]
      exact g2.2 (i + 1) (by omega)
theorem sG_act {T' : tr_T} (hg : sG S) (h : gT (t_n (sT S)) T') : sG (s_act S T') := by
  have hn : t_n T' = t_n (sT S) := h.2.1
  have hk := gA_keep hg
  obtain ⟨g1, g2, g3, g4, g5, g6⟩ := hg
  unfold sG s_act
  show gT (t_n T') T' ∧ gA (t_n T') (k_keep (sA S) (sT S)) ∧ gW (sW S) ∧ ((sP S).1 ≤ 700 ∧ ∀ i, i < (sP S).1 → (sP S).2 i < 256) ∧ e_pos (sE S) ∧ ∀ y, sI S = some y → gT (t_n T') y.1 ∧ gA (t_n T') y.2.1 ∧ gW y.2.2.1
  rw [hn]
  exact ⟨h, hk, g3, g4, g5, g6⟩
theorem sG_ref (hg : sG S) (k : Nat) : sG (s_ref S k) := hg
end ACTS
