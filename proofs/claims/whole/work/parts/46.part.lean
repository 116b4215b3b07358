/-! PARSING: numbers, signs, parts, expressions -/
def nf (X : x_X) (q lo hi : Nat) : Nat := cond (decide (x_K X q = 2)) (cond (decide (lo ≤ x_N X q) && decide (x_N X q ≤ hi)) 0 2) 1
theorem nf_0 {X : x_X} {q lo hi : Nat} (h : nf X q lo hi = 0) : x_K X q = 2 ∧ lo ≤ x_N X q ∧ x_N X q ≤ hi := by
  unfold nf at h
  by_cases a : x_K X q = 2
  · rw [d_t a] at h
    cases b : (decide (lo ≤ x_N X q) && decide (x_N X q ≤ hi)) with
    | true =>
      rw [Bool.and_eq_true, decide_eq_true_iff, decide_eq_true_iff] at b
      exact ⟨a, b.1, b.2⟩
    | false =>
      rw [b] at h
      cases h
  · rw [d_f a] at h
    cases h
theorem nf_n {X : x_X} {q lo hi : Nat} (h : nf X q lo hi ≠ 0) : (x_K X q ≠ 2 ∧ nf X q lo hi = 1) ∨ (x_K X q = 2 ∧ nf X q lo hi = 2 ∧ (x_N X q < lo ∨ hi < x_N X q)) := by
  unfold nf at h ⊢
  by_cases a : x_K X q = 2
  · rw [d_t a] at h ⊢
    cases b : (decide (lo ≤ x_N X q) && decide (x_N X q ≤ hi)) with
    | true =>
      rw [b] at h
      exact absurd rfl h
    | false =>
      refine Or.inr ⟨a, rfl, ?_⟩
      refine Decidable.byContradiction fun e => ?_
      rw [decide_eq_true (by omega), decide_eq_true (by omega)] at b
      cases b
  · rw [d_f a]
    exact Or.inl ⟨a, rfl⟩
theorem x_num {X : x_X} {q : Nat} (hk : x_K X q = 2) : x_S X q < X.1 ∧ ∀ j, x_S X q ≤ j → j < x_E X q → x_dg X j = true := by
  have h0 : ¬ X.1 ≤ x_S X q := fun w => by
    unfold x_K x_Ks at hk
    rw [d_t w] at hk
    cases hk
  unfold x_K x_Ks at hk
  rw [d_f h0] at hk
  refine ⟨by omega, fun j h1 h2 => ?_⟩
  cases hl : x_lt X (x_S X q) with
  | true =>
    rw [hl] at hk
    cases hk
  | false =>
    rw [hl, cond_false] at hk
    cases hd : x_dg X (x_S X q) with
    | true =>
      unfold x_E x_Es at h2
      rw [d_f h0, hl, cond_false, hd] at h2
      exact sc_all _ _ _ j h1 h2
    | false =>
      rw [hd, cond_false] at hk
      cases hm : x_mk (X.2 (x_S X q)) with
      | true =>
        rw [hm, cond_true] at hk
        rw [hk, show x_mk 2 = false by decide] at hm
        cases hm
      | false =>
        rw [hm] at hk
        cases hk
theorem x_N_f {X : x_X} {q : Nat} (hq : q ≤ X.1) (hk : x_K X q = 2) : x_N X q ≤ 10000 ∧ (4 < x_E X q - x_S X q → x_N X q = 10000) ∧ (x_E X q - x_S X q ≤ 4 → x_v2 X (x_S X q) (x_E X q - x_S X q) = x_N X q) := by
  have h1 := (x_num hk).2
  have h2 := x_E_le (X := X) hq
  refine ⟨(x_v_b h1 _ (by omega)).2, fun h => ?_, fun h => x_v2_eq h1 _ (by omega) h⟩
  unfold x_N
  obtain ⟨c, hc⟩ : ∃ c, x_E X q - x_S X q = c + 1 := ⟨x_E X q - x_S X q - 1, by omega⟩
  rw [hc]
  unfold x_v
  rw [d_f (by omega)]
section PARTS
variable {X : x_X} {rc ru : Nat} {w : Bool} {d q : Nat} {k : s_K}
theorem C_num1 {g N : Nat} {sw lv : Bool} {L : Nat → Nat → Int64} {I : Nat → Nat → Int32} (hx : x_ok X) (hr : am_isc rc) (hs : sO I) (hq : q ≤ X.1) (hG : pG X rc q k I) {lo hi : Nat} (h1 : lo < 100000) (h2 : hi < 100000) (h : nf X q lo hi = 0) : ∃ I', am_R 68 9 0 [.ref 76, .int (Int32.ofNat lo), .int (Int32.ofNat hi), am_u] [] (am_hp g N sw lv I L) = some (.inl (some (.int (Int32.ofNat (x_N X q)))), (am_hp g N sw lv I' L)) ∧ pG X rc (x_E X q) k I' ∧ fP rc I I' ∧ sO I' := by
  obtain ⟨e1, e2, e3⟩ := nf_0 h
  have hN := (x_N_f hq e1).1
  obtain ⟨I1, a1, a2, a3, a4⟩ := P_step (g := g) (N := N) (sw := sw) (lv := lv) (L := L) hx hr hs hq hG
  refine ⟨I1, ?_, a2, a3, a4⟩
  rw [y_Rd_readNumber_0 _ _, d_t hG.2.1, hG.1.2.2.1, e1, d_t (show Int32.ofNat 2 = 2 from rfl), hG.1.2.2.2.2 e1, nb_dlt (by omega) h1, d_f (by omega), nb_dle (by omega) h2, d_t e3, a1, am_bd_ok, am_tn, y_Rd_readNumber_59 _ _ _]
theorem C_num0 {g N : Nat} {sw lv : Bool} {L : Nat → Nat → Int64} {I : Nat → Nat → Int32} (hx : x_ok X) (hr : am_isc rc) (hk : k.1 ≤ 700) (hq : q ≤ X.1) (hG : pG X rc q k I) {lo hi : Nat} (h1 : lo < 100000) (h2 : hi < 100000) (h : nf X q lo hi ≠ 0) : ∃ I', am_R 68 9 0 [.ref 76, .int (Int32.ofNat lo), .int (Int32.ofNat hi), am_u] [] (am_hp g N sw lv I L) = some (.inl (some (.int 0)), (am_hp g N sw lv I' L)) ∧ pF X rc (nf X q lo hi) (x_S X q) I' ∧ fP rc I I' := by
  have hK := x_K_lt hx hq
  rcases nf_n h with ⟨e1, e2⟩ | ⟨e1, e2, e3⟩
  · obtain ⟨f1, f2⟩ := P_fail hr hq hk hG 1
    rw [e2]
    refine ⟨_, ?_, f1, f2⟩
    rw [y_Rd_readNumber_0 _ _, d_t hG.2.1, hG.1.2.2.1, show decide (Int32.ofNat (x_K X q) = 2) = decide (x_K X q = 2) from nb_deq (b := 2) (by omega) (by decide), d_f e1, d_t hG.2.1]
    rfl
  · have hN := (x_N_f hq e1).1
    obtain ⟨f1, f2⟩ := P_fail hr hq hk hG 2
    rw [e2]
    refine ⟨_, ?_, f1, f2⟩
    rw [y_Rd_readNumber_0 _ _, d_t hG.2.1, hG.1.2.2.1, e1, d_t (show Int32.ofNat 2 = 2 from rfl), hG.1.2.2.2.2 e1, nb_dlt (by omega) h1, nb_dle (by omega) h2, y_Rd_readNumber_45 _ _ _, d_t hG.2.1]
    by_cases e4 : x_N X q < lo
    · rw [d_t e4]
      rfl
    · rw [d_f e4, d_f (by omega)]
      rfl
theorem M_num1 {g N : Nat} {sw lv : Bool} {L : Nat → Nat → Int64} {I : Nat → Nat → Int32} (hx : x_ok X) (hs : sO I) (hq : q ≤ X.1) (hG : mG X w q k I) {lo hi : Nat} (h1 : lo < 10000) (h2 : hi < 10000) (h : nf X q lo hi = 0) : ∃ I', am_R 156 3 0 [.ref 147, .int (Int32.ofNat lo), .int (Int32.ofNat hi), am_u] [] (am_hp g N sw lv I L) = some (.inl (some (.int (Int32.ofNat (x_N X q)))), (am_hp g N sw lv I' L)) ∧ mG X w (x_E X q) k I' ∧ fDm w I I' ∧ sO I' := by
  have hn := hx.1
  obtain ⟨e1, e2, e3⟩ := nf_0 h
  obtain ⟨n1, n2, n3⟩ := x_N_f hq e1
  have hE := x_E_le hq
  have h4 : ¬ 4 < x_E X q - x_S X q := fun e => by
    have := n2 e
    omega
  obtain ⟨I1, a1, a2, a3, a4⟩ := M_stp (g := g) (N := N) (sw := sw) (lv := lv) (L := L) hx hs hq hG
  refine ⟨I1, ?_, a2, a3, a4⟩
  obtain ⟨-, -, t22, t19, t21, t20⟩ := hG.1
  rw [y_Mo_readNumber_0 _ _, d_t hG.2.1, t19, e1, d_t (by decide), t22, t21, ← Int32.ofNat_sub _ _ hE.2.2, show decide ((4 : Int32) < Int32.ofNat (x_E X q - x_S X q)) = decide (4 < x_E X q - x_S X q) from nb_dlt (a := 4) (by decide) (by omega), d_f h4, t20 e1, n3 (by omega), nb_dlt (by omega) (by omega), d_f (by omega), nb_dle (by omega) (by omega), d_t e3, y_Mo_readNumber_59 _ _, d_t hG.2.1, d_t hG.2.1, a1, am_bd_ok, am_tn, y_Mo_readNumber_86 _ _ _, t20 e1, n3 (by omega)]
theorem M_num0 {g N : Nat} {sw lv : Bool} {L : Nat → Nat → Int64} {I : Nat → Nat → Int32} (hx : x_ok X) (hq : q ≤ X.1) (hG : mG X w q k I) {lo hi : Nat} (h1 : lo < 10000) (h2 : hi < 10000) (h : nf X q lo hi ≠ 0) : ∃ I', am_R 156 3 0 [.ref 147, .int (Int32.ofNat lo), .int (Int32.ofNat hi), am_u] [] (am_hp g N sw lv I L) = some (.inl (some (.int 0)), (am_hp g N sw lv I' L)) ∧ mF (nf X q lo hi) (x_S X q) I' ∧ fDm w I I' := by
  have hn := hx.1
  have hE := x_E_le hq
  rcases nf_n h with ⟨e1, e2⟩ | ⟨e1, e2, e3⟩
  · obtain ⟨f1, f2⟩ := M_fail hG 1
    rw [e2]
    refine ⟨_, ?_, f1, f2⟩
    have hb := mF_ne f1 (by decide) (by decide)
    have e4 : am_R 156 3 59 [.ref 147, .int (Int32.ofNat lo), .int (Int32.ofNat hi), am_u] [] (am_hp g N sw lv (am_up (am_up I 147 (upd (I 147) 23 (Int32.ofNat 1))) 147 (upd (upd (I 147) 23 (Int32.ofNat 1)) 24 ((upd (I 147) 23 (Int32.ofNat 1)) 21))) L) = some (.inl (some (.int 0)), (am_hp g N sw lv (am_up (am_up I 147 (upd (I 147) 23 (Int32.ofNat 1))) 147 (upd (upd (I 147) 23 (Int32.ofNat 1)) 24 ((upd (I 147) 23 (Int32.ofNat 1)) 21))) L)) := by
      rw [y_Mo_readNumber_59 _ _, d_f hb, d_f hb, y_Mo_readNumber_86 _ _ _]
    rw [y_Mo_readNumber_0 _ _, d_t hG.2.1, hG.1.2.2.2.1, (mk_1 _).2, d_f e1, d_t hG.2.1]
    exact e4
  · obtain ⟨n1, n2, n3⟩ := x_N_f hq e1
    obtain ⟨f1, f2⟩ := M_fail hG 2
    rw [e2]
    refine ⟨_, ?_, f1, f2⟩
    have hb := mF_ne f1 (by decide) (by decide)
    have e4 : am_R 156 3 54 [.ref 147, .int (Int32.ofNat lo), .int (Int32.ofNat hi), am_u] [] (am_hp g N sw lv I L) = some (.inl (some (.int 0)), (am_hp g N sw lv (am_up (am_up I 147 (upd (I 147) 23 (Int32.ofNat 2))) 147 (upd (upd (I 147) 23 (Int32.ofNat 2)) 24 ((upd (I 147) 23 (Int32.ofNat 2)) 21))) L)) := by
      rw [y_Mo_readNumber_54 _ _, d_t hG.2.1]
      refine Eq.trans (y_Mo_readNumber_59 (I := (am_up (am_up I 147 (upd (I 147) 23 (Int32.ofNat 2))) 147 (upd (upd (I 147) 23 (Int32.ofNat 2)) 24 ((upd (I 147) 23 (Int32.ofNat 2)) 21)))) _ _) ?_
      rw [d_f hb, d_f hb, y_Mo_readNumber_86 _ _ _]
    obtain ⟨-, -, t22, t19, t21, t20⟩ := hG.1
    rw [y_Mo_readNumber_0 _ _, d_t hG.2.1, t19, e1, d_t (by decide), t22, t21, ← Int32.ofNat_sub _ _ hE.2.2, show decide ((4 : Int32) < Int32.ofNat (x_E X q - x_S X q)) = decide (4 < x_E X q - x_S X q) from nb_dlt (a := 4) (by decide) (by omega), e4]
    by_cases h4 : 4 < x_E X q - x_S X q
    · rw [d_t h4]
    · rw [d_f h4, t20 e1, n3 (by omega), nb_dlt (by omega) (by omega), nb_dle (by omega) (by omega)]
      by_cases e5 : x_N X q < lo
      · rw [d_t e5]
      · rw [d_f e5, d_f (by omega)]
/-- a sign -/
theorem C_sg1 {g N : Nat} {sw lv : Bool} {L : Nat → Nat → Int64} {I : Nat → Nat → Int32} (hx : x_ok X) (hr : am_isc rc) (hs : sO I) (hq : q ≤ X.1) (hG : pG X rc q k I) {c : Nat} (h : x_K X q = c) : ∃ I', am_R 69 9 0 [.ref 76, .int (Int32.ofNat c)] [] (am_hp g N sw lv I L) = some (.inl none, (am_hp g N sw lv I' L)) ∧ pG X rc (x_E X q) k I' ∧ fP rc I I' ∧ sO I' := by
  obtain ⟨I1, a1, a2, a3, a4⟩ := P_step (g := g) (N := N) (sw := sw) (lv := lv) (L := L) hx hr hs hq hG
  refine ⟨I1, ?_, a2, a3, a4⟩
  rw [y_Rd_readSign_0 _, d_t hG.2.1, hG.1.2.2.1, h, d_t rfl, a1, am_bd_ok, am_tn, y_Rd_readSign_32 _]
theorem C_sg0 {g N : Nat} {sw lv : Bool} {L : Nat → Nat → Int64} {I : Nat → Nat → Int32} (hx : x_ok X) (hr : am_isc rc) (hk : k.1 ≤ 700) (hq : q ≤ X.1) (hG : pG X rc q k I) {c : Nat} (hc : c < 256) (h : x_K X q ≠ c) : ∃ I', am_R 69 9 0 [.ref 76, .int (Int32.ofNat c)] [] (am_hp g N sw lv I L) = some (.inl none, (am_hp g N sw lv I' L)) ∧ pF X rc 1 (x_S X q) I' ∧ fP rc I I' := by
  have hK := x_K_lt hx hq
  obtain ⟨f1, f2⟩ := P_fail hr hq hk hG 1
  refine ⟨_, ?_, f1, f2⟩
  rw [y_Rd_readSign_0 _, d_t hG.2.1, hG.1.2.2.1, nb_deq (by omega) (by omega), d_f h, d_t hG.2.1]
  rfl
theorem C_sgb {g N : Nat} {sw lv : Bool} {L : Nat → Nat → Int64} {I : Nat → Nat → Int32} (h : I 76 1 ≠ 0) (x : Int32) : am_R 69 9 0 [.ref 76, .int x] [] (am_hp g N sw lv I L) = some (.inl none, (am_hp g N sw lv I L)) := by
  rw [y_Rd_readSign_0 _, d_f h]
theorem M_sg1 {g N : Nat} {sw lv : Bool} {L : Nat → Nat → Int64} {I : Nat → Nat → Int32} (hx : x_ok X) (hs : sO I) (hq : q ≤ X.1) (hG : mG X w q k I) {c : Nat} (hc : x_mk c = true) (hc2 : c < 256) (h : x_K X q = c) : ∃ I', am_R 165 3 0 [.ref 147, .int (Int32.ofNat c)] [] (am_hp g N sw lv I L) = some (.inl none, (am_hp g N sw lv I' L)) ∧ mG X w (x_E X q) k I' ∧ fDm w I I' ∧ sO I' := by
  obtain ⟨I1, a1, a2, a3, a4⟩ := M_stp (g := g) (N := N) (sw := sw) (lv := lv) (L := L) hx hs hq hG
  obtain ⟨b1, b2, -⟩ := mk_v hx hq hG hc hc2
  refine ⟨I1, ?_, a2, a3, a4⟩
  rw [y_Mo_mark_0 _, d_t hG.2.1, b1, cond_true, b2 h, d_f (by decide), y_Mo_mark_20 _, d_t hG.2.1, a1, am_bd_ok, am_tn, y_Mo_mark_31 _]
theorem M_sg0 {g N : Nat} {sw lv : Bool} {L : Nat → Nat → Int64} {I : Nat → Nat → Int32} (hx : x_ok X) (hq : q ≤ X.1) (hG : mG X w q k I) {c : Nat} (hc : x_mk c = true) (hc2 : c < 256) (h : x_K X q ≠ c) : ∃ I', am_R 165 3 0 [.ref 147, .int (Int32.ofNat c)] [] (am_hp g N sw lv I L) = some (.inl none, (am_hp g N sw lv I' L)) ∧ mF 1 (x_S X q) I' ∧ fDm w I I' := by
  obtain ⟨b1, -, b2⟩ := mk_v hx hq hG hc hc2
  obtain ⟨f1, f2⟩ := M_fail hG 1
  have hb := mF_ne f1 (by decide) (by decide)
  refine ⟨_, ?_, f1, f2⟩
  rw [y_Mo_mark_0 _, d_t hG.2.1, b1, cond_true, b2 h, d_t rfl, d_t hG.2.1]
  refine Eq.trans (y_Mo_mark_20 (I := (am_up (am_up I 147 (upd (I 147) 23 (Int32.ofNat 1))) 147 (upd (upd (I 147) 23 (Int32.ofNat 1)) 24 ((upd (I 147) 23 (Int32.ofNat 1)) 21)))) _) ?_
  rw [d_f hb, y_Mo_mark_31 _]
theorem M_sgb {g N : Nat} {sw lv : Bool} {L : Nat → Nat → Int64} {I : Nat → Nat → Int32} (h : I 147 23 ≠ 0) (x : Int32) : am_R 165 3 0 [.ref 147, .int x] [] (am_hp g N sw lv I L) = some (.inl none, (am_hp g N sw lv I L)) := by
  rw [y_Mo_mark_0 _, d_f h, y_Mo_mark_20 _, d_f h, y_Mo_mark_31 _]
/-- the sixth level is a part -/
theorem c_l5 (hr : am_isc rc) (hu : ru = rc + cond w 7 6) (hd : d ≤ 6) {r : p_R} (h : cSp X rc ru w 80 0 (10 * (7 - d) + 0 + 20) [.int (Int32.ofNat d), am_u] q r) : cSp X rc ru w 75 0 (10 * (7 - d) + 1 + 20) [.int 5, .int (Int32.ofNat d), am_u, am_u] q r := by
  intro g N sw lv L I k hs hG hk hv
  have hu' := (ru_f hr hu).1
  obtain ⟨I2, b1, b2, b3⟩ := h g N sw lv L I k hs hG hk hv
  refine ⟨I2, ?_, b2, b3⟩
  rw [y_Rd_readLevel_0 _ _ hr hu', d_t hG.2.1, d_f (by decide), d_f (by decide), nb_tn (by omega : d < 100000), bu_, blt_t (by omega), cond_true, b1, am_bd_ok, am_tn, y_Rd_readLevel_35 _ _ hr hu']
theorem mc_n {n : Nat} (h : n < 100000) : (-8 : Int32) < Int32.ofNat n ∧ mc (Int32.ofNat n) = Int32.ofNat n := by
  have h1 : (-8 : Int32) < Int32.ofNat n := by
    rw [Int32.lt_iff_toInt_lt, nb_ti h]
    show (-8 : Int) < n
    omega
  refine ⟨h1, ?_⟩
  unfold mc
  rw [d_t h1]
theorem mc_v : ∀ v, v < 7 → (-8 : Int32) < -1 - Int32.ofNat v ∧ mc (-1 - Int32.ofNat v) = -1 - Int32.ofNat v ∧ -1 - (-1 - Int32.ofNat v) = Int32.ofNat v := by decide
theorem kk_K (hx : x_ok X) (hr : am_isc rc) (hq : q ≤ X.1) {I : Nat → Nat → Int32} (hG : pG X rc q k I) {c : Nat} (hc : c < 256) : decide (I 77 4 = Int32.ofNat c) = decide (x_K X q = c) := by
  have hK := x_K_lt hx hq
  rw [hG.1.2.2.1, nb_deq (by omega) (by omega)]
/-- numbers -/
theorem c_pw2 (hx : x_ok X) (hr : am_isc rc) (hu : ru = rc + cond w 7 6) (hq : q ≤ X.1) (h : nf X q 0 9999 = 0) : cSp X rc ru w 80 0 (10 * (7 - d) + 0 + 20) [.int (Int32.ofNat d), am_u] q (.inr (x_E X q, [Int32.ofNat (x_N X q)])) := by
  intro g N sw lv L I k hs hG hk hv
  have hn := hx.1
  have hu' := (ru_f hr hu).1
  have hK := (nf_0 h).1
  have hE := x_E_lt hq (by omega)
  have hE2 := x_E_le hq
  obtain ⟨I1, a1, a2, a3, a4⟩ := C_num1 (g := g) (N := N) (sw := sw) (lv := lv) (L := L) hx hr hs hq hG (lo := 0) (hi := 9999) (by decide) (by decide) h
  have c1 := C_addc (z := none) (x := Int32.ofNat (x_N X q)) (F := fun I => am_R 80 (10 * (7 - d) + 0 + 20) 127 [.ref 76, .ref rc, .ref ru, .int (Int32.ofNat d), am_u] [] (am_hp g N sw lv I L)) a2.2.2 (by omega)
  refine ⟨_, ?_, fP_tr a3 (fP_adc hr), pG_add hr a2⟩
  rw [y_Rd_readPart_0 _ hr hu', show decide (I 77 4 = 2) = decide (x_K X q = 2) from kk_K hx hr hq hG (c := 2) (by decide), d_t hK]
  refine Eq.trans (congrArg (fun z => am_bd z _ _) a1) ?_
  rw [am_bd_ok, am_tl, y_Rd_readPart_20 _ _ hr hu']
  refine c1.trans ?_
  exact y_Rd_readPart_127 _ _ hr hu'
theorem c_pw2f (hx : x_ok X) (hr : am_isc rc) (hu : ru = rc + cond w 7 6) (hq : q ≤ X.1) (hK : x_K X q = 2) (h : nf X q 0 9999 ≠ 0) : cSp X rc ru w 80 0 (10 * (7 - d) + 0 + 20) [.int (Int32.ofNat d), am_u] q (.inl (nf X q 0 9999, x_S X q)) := by
  intro g N sw lv L I k hs hG hk hv
  have hn := hx.1
  have hu' := (ru_f hr hu).1
  obtain ⟨I1, a1, a2, a3⟩ := C_num0 (g := g) (N := N) (sw := sw) (lv := lv) (L := L) hx hr (by omega) hq hG (lo := 0) (hi := 9999) (by decide) (by decide) h
  obtain ⟨m, hm, em⟩ := a2.2.2.2
  obtain ⟨I3, c1, c2, c3, c4⟩ := C_addg (z := none) (x := 0) (F := fun I => am_R 80 (10 * (7 - d) + 0 + 20) 127 [.ref 76, .ref rc, .ref ru, .int (Int32.ofNat d), am_u] [] (am_hp g N sw lv I L)) hm em
  refine ⟨I3, ?_, fP_tr a3 (fP_of hr c3 c4), pF_of hr a2 c2 c3⟩
  rw [y_Rd_readPart_0 _ hr hu', show decide (I 77 4 = 2) = decide (x_K X q = 2) from kk_K hx hr hq hG (c := 2) (by decide), d_t hK]
  refine Eq.trans (congrArg (fun z => am_bd z _ _) a1) ?_
  rw [am_bd_ok, am_tl, y_Rd_readPart_20 _ _ hr hu']
  refine c1.trans ?_
  exact y_Rd_readPart_127 _ _ hr hu'
theorem m_pw2 (hx : x_ok X) (hq : q ≤ X.1) (h : nf X q 0 9999 = 0) : mSp X w 163 0 (10 * (7 - d) + 1 + 20) [.int (Int32.ofNat d), am_u] q (.inr (x_E X q, [Int32.ofNat (x_N X q)])) := by
  intro g N sw L I k hs hG hk
  have hn := hx.1
  have hK := (nf_0 h).1
  have hE := x_E_lt hq (by omega)
  have hE2 := x_E_le hq
  have hN := (x_N_f hq hK).1
  obtain ⟨I1, a1, a2, a3, a4⟩ := M_num1 (g := g) (N := N) (sw := sw) (L := L) (lv := w) hx hs hq hG (lo := 0) (hi := 9999) (by decide) (by decide) h
  have c1 := M_layc (z := none) (x := mc (Int32.ofNat (x_N X q))) (F := fun I => (some (.inl none, (am_hp g N sw w I L)) : Option am_Res)) a2.2.2 a2.2.1 (by omega)
  refine ⟨_, ?_, fDm_tr a3 fDm_lay, mG_lay (c := Int32.ofNat (x_N X q)) a2⟩
  rw [y_Mo_readPart_0 _, d_t hG.2.1, hG.1.2.2.2.1, (mk_1 _).2, d_t hK]
  refine Eq.trans (congrArg (fun z => am_bd z _ _) a1) ?_
  rw [am_bd_ok, am_tl, y_Mo_readPart_25 _ _]
  have e := (mc_n (n := x_N X q) (by omega)).2
  rw [e] at c1 ⊢
  exact c1
theorem m_pw2f (hx : x_ok X) (hq : q ≤ X.1) (hK : x_K X q = 2) (h : nf X q 0 9999 ≠ 0) : mSp X w 163 0 (10 * (7 - d) + 1 + 20) [.int (Int32.ofNat d), am_u] q (.inl (nf X q 0 9999, x_S X q)) := by
  intro g N sw L I k hs hG hk
  have hn := hx.1
  have hb : 0 < nf X q 0 9999 ∧ nf X q 0 9999 < 100 := by
    rcases nf_n h with e | e <;> omega
  obtain ⟨I1, a1, a2, a3⟩ := M_num0 (g := g) (N := N) (sw := sw) (L := L) (lv := w) hx hq hG (lo := 0) (hi := 9999) (by decide) (by decide) h
  refine ⟨I1, ?_, a3, a2⟩
  rw [y_Mo_readPart_0 _, d_t hG.2.1, hG.1.2.2.2.1, (mk_1 _).2, d_t hK]
  refine Eq.trans (congrArg (fun z => am_bd z _ _) a1) ?_
  rw [am_bd_ok, am_tl, y_Mo_readPart_25 _ _, d_f (mF_ne a2 hb.1 hb.2)]
/-- words -/
theorem st_inj : ∀ a, a < 7 → ∀ b, b < 7 → st_l (22 + 2 * a) = st_l (22 + 2 * b) → a = b := by decide
theorem vi_lt {n v : Nat} (h : vi X q n = some v) : v < n ∧ wd (st_l (22 + 2 * v)) X q = true := by
  obtain ⟨-, h1, h2⟩ := fs_some h
  exact ⟨by omega, h2⟩
theorem vi_u {n n' v : Nat} (hn : n ≤ 7) (hn' : n' ≤ 7) (h : vi X q n = some v) (hv : v < n') : vi X q n' = some v := by
  obtain ⟨h1, h2⟩ := vi_lt h
  obtain ⟨j, h3, h4⟩ := fs_le (P := fun k => wd (st_l (22 + 2 * k)) X q) (c := n') (k := 0) (m := v) (Nat.zero_le _) (by omega) h2
  have h5 := (vi_lt h4).2
  have h6 := st_inj j (by omega) v (by omega) (wd_inj h5 h2)
  rw [h6] at h4
  exact h4
theorem w75 (w : Bool) : cond w 7 5 ≤ 7 := by cases w <;> decide
theorem c_pw1 (hx : x_ok X) (hr : am_isc rc) (hu : ru = rc + cond w 7 6) (hq : q ≤ X.1) (hK : x_K X q = 1) {v : Nat} (h : vi X q (cond w 7 5) = some v) : cSp X rc ru w 80 0 (10 * (7 - d) + 0 + 20) [.int (Int32.ofNat d), am_u] q (.inr (x_E X q, [-1 - Int32.ofNat v])) := by
  intro g N sw lv L I k hs hG hk hv
  have hn := hx.1
  have hu' := (ru_f hr hu).1
  have hE := x_E_lt hq (by omega)
  have hE2 := x_E_le hq
  have h7 := w75 w
  have hvl := (vi_lt h).1
  have h2 := vi_u h7 (Nat.le_refl 7) h (by omega)
  obtain ⟨I1, a1, a2, a3, a4⟩ := P_step (g := g) (N := N) (sw := sw) (lv := lv) (L := L) hx hr (sO_fP hr (fP_adc hr) hs) hq (pG_add (c := -1 - Int32.ofNat v) hr hG)
  have c1 := C_addc (z := none) (x := -1 - Int32.ofNat v) (F := fun I => am_bd (am_R 61 8 0 [.ref 77, am_u] [] (am_hp g N sw lv I L)) (fun v' h => am_R 80 (10 * (7 - d) + 0 + 20) 82 [.ref 76, .ref rc, .ref ru, .int (Int32.ofNat d), .int (Int32.ofNat v)] (v'.toList ++ []) h) (fun _ _ => none)) hG.2.2 (by omega)
  refine ⟨I1, ?_, fP_tr (fP_adc hr) a3, a2⟩
  rw [y_Rd_readPart_0 _ hr hu', show decide (I 77 4 = 2) = decide (x_K X q = 2) from kk_K hx hr hq hG (c := 2) (by decide), d_f (by omega), show decide (I 77 4 = 1) = decide (x_K X q = 1) from kk_K hx hr hq hG (c := 1) (by decide), d_t hK, C_val hx hG.1 hq hs, h2, am_bd_ok, am_tl, show oi (some v) = Int32.ofNat v from rfl, y_Rd_readPart_44 _ _ hr hu', d_f (nb_n1 (by omega)), hv, nb_dlt (by omega) (by omega), d_t hvl]
  refine c1.trans ?_
  show am_bd (am_R 61 8 0 [.ref 77, am_u] [] (am_hp g N sw lv _ L)) _ _ = _
  rw [a1, am_bd_ok, am_tn, y_Rd_readPart_82 _ _ hr hu', y_Rd_readPart_127 _ _ hr hu']
theorem c_pw1f (hx : x_ok X) (hr : am_isc rc) (hu : ru = rc + cond w 7 6) (hq : q ≤ X.1) (hK : x_K X q = 1) (h : vi X q (cond w 7 5) = none) : cSp X rc ru w 80 0 (10 * (7 - d) + 0 + 20) [.int (Int32.ofNat d), am_u] q (.inl (3, x_S X q)) := by
  intro g N sw lv L I k hs hG hk hv
  have hn := hx.1
  have hu' := (ru_f hr hu).1
  have h7 := w75 w
  obtain ⟨f1, f2⟩ := P_fail hr hq (by omega) hG 3
  refine ⟨_, ?_, f2, f1⟩
  rw [y_Rd_readPart_0 _ hr hu', show decide (I 77 4 = 2) = decide (x_K X q = 2) from kk_K hx hr hq hG (c := 2) (by decide), d_f (by omega), show decide (I 77 4 = 1) = decide (x_K X q = 1) from kk_K hx hr hq hG (c := 1) (by decide), d_t hK, C_val hx hG.1 hq hs, am_bd_ok, am_tl, y_Rd_readPart_44 _ _ hr hu', y_Rd_readPart_61 _ _ hr hu', d_t hG.2.1]
  cases e : vi X q 7 with
  | none => rfl
  | some v =>
    have hvl := (vi_lt e).1
    have hne : ¬ v < cond w 7 5 := fun e2 => by
      rw [vi_u (Nat.le_refl 7) h7 e e2] at h
      cases h
    rw [show oi (some v) = Int32.ofNat v from rfl, d_f (nb_n1 (by omega)), hv, nb_dlt (by omega) (by omega), d_f hne]
    rfl
theorem m_pw1 (hx : x_ok X) (hq : q ≤ X.1) (hK : x_K X q = 1) {v : Nat} (h : vi X q (cond w 7 5) = some v) : mSp X w 163 0 (10 * (7 - d) + 1 + 20) [.int (Int32.ofNat d), am_u] q (.inr (x_E X q, [-1 - Int32.ofNat v])) := by
  intro g N sw L I k hs hG hk
  have hn := hx.1
  have hE := x_E_lt hq (by omega)
  have hE2 := x_E_le hq
  have h7 := w75 w
  have hvl := (vi_lt h).1
  have hmc := (mc_v v (by omega)).2.1
  obtain ⟨I1, a1, a2, a3, a4⟩ := M_stp (g := g) (N := N) (sw := sw) (L := L) (lv := w) hx (sO_fD fDm_lay hs) hq (mG_lay (c := -1 - Int32.ofNat v) hG)
  have c1 := M_layc (z := none) (x := mc (-1 - Int32.ofNat v)) (F := fun J => cond (decide (I 147 23 = 0)) (am_bd (am_R 145 2 0 [.ref 147, am_u] [] (am_hp g N sw w J L)) (fun v' h => am_R 163 (10 * (7 - d) + 1 + 20) 74 [.ref 147, .int (Int32.ofNat d), .int (Int32.ofNat v)] (v'.toList ++ []) h) (fun c h => some (.inr c, h))) (am_R 163 (10 * (7 - d) + 1 + 20) 74 [.ref 147, .int (Int32.ofNat d), .int (Int32.ofNat v)] [] (am_hp g N sw w J L))) hG.2.2 hG.2.1 (by omega)
  rw [hmc] at c1 a1 a3
  refine ⟨I1, ?_, fDm_tr fDm_lay a3, a2⟩
  rw [y_Mo_readPart_0 _, d_t hG.2.1, hG.1.2.2.2.1, (mk_1 _).2, d_f (by omega), (mk_1 _).1, d_t hK, M_wh hx hG.1 hG.2.1 hq hs, h, am_bd_ok, am_tl, show oi (some v) = Int32.ofNat v from rfl, y_Mo_readPart_45 _ _, d_f (nb_n1 (by omega)), y_Mo_readPart_56 _ _]
  refine c1.trans ?_
  show cond (decide (I 147 23 = 0)) (am_bd (am_R 145 2 0 [.ref 147, am_u] [] (am_hp g N sw w _ L)) _ _) _ = _
  rw [d_t hG.2.1, a1, am_bd_ok, am_tn, y_Mo_readPart_74 _ _]
theorem m_pw1f (hx : x_ok X) (hq : q ≤ X.1) (hK : x_K X q = 1) (h : vi X q (cond w 7 5) = none) : mSp X w 163 0 (10 * (7 - d) + 1 + 20) [.int (Int32.ofNat d), am_u] q (.inl (3, x_S X q)) := by
  intro g N sw L I k hs hG hk
  obtain ⟨f1, f2⟩ := M_fail hG 3
  have hb := mF_ne f1 (by decide) (by decide)
  refine ⟨_, ?_, f2, f1⟩
  rw [y_Mo_readPart_0 _, d_t hG.2.1, hG.1.2.2.2.1, (mk_1 _).2, d_f (by omega), (mk_1 _).1, d_t hK, M_wh hx hG.1 hG.2.1 hq hs, h, am_bd_ok, am_tl, show oi none = -1 from rfl, y_Mo_readPart_45 _ _, d_t rfl, d_t hG.2.1]
  refine Eq.trans (y_Mo_readPart_56 (I := (am_up (am_up I 147 (upd (I 147) 23 (Int32.ofNat 3))) 147 (upd (upd (I 147) 23 (Int32.ofNat 3)) 24 ((upd (I 147) 23 (Int32.ofNat 3)) 21)))) _ _) ?_
  rw [d_f hb, d_f hb, y_Mo_readPart_74 _ _]
end PARTS
