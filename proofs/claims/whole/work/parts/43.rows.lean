/-! PARSING: rows of parts with operators between them -/
def cSp (X : x_X) (rc ru : Nat) (w : Bool) (fid pc bu : Nat) (tl : List Value) (q : Nat) (r : p_R) : Prop := ∀ (g N : Nat) (sw lv : Bool) (L : Nat → Nat → Int64) (I : Nat → Nat → Int32) (k : s_K), sO I → pG X rc q k I → k.1 ≤ q → I ru 0 = Int32.ofNat (cond w 7 5) → ∃ I', am_R fid bu pc (.ref 76 :: .ref rc :: .ref ru :: tl) [] (am_hp g N sw lv I L) = some (.inl none, am_hp g N sw lv I' L) ∧ fP rc I I' ∧ pE X rc k r I'
def mSp (X : x_X) (w : Bool) (fid pc bu : Nat) (tl : List Value) (q : Nat) (r : p_R) : Prop := ∀ (g N : Nat) (sw : Bool) (L : Nat → Nat → Int64) (I : Nat → Nat → Int32) (k : s_K), sO I → mG X w q k I → k.1 ≤ q → ∃ I', am_R fid bu pc (.ref 147 :: tl) [] (am_hp g N sw w I L) = some (.inl none, am_hp g N sw w I' L) ∧ fDm w I I' ∧ mE X w k r I'
/-- codes, then an end -/
def sq (cs : List Int32) (r : p_R) : p_R := match r with
  | .inl fp => .inl fp
  | .inr qc => .inr (qc.1, cs ++ qc.2)
theorem pE_sq {X : x_X} {rc : Nat} {k : s_K} {cs : List Int32} {r : p_R} {I : Nat → Nat → Int32} (h : pE X rc (kap k cs) r I) : pE X rc k (sq cs r) I := by
  cases r with
  | inl fp => exact h
  | inr qc =>
    show pG X rc qc.1 (kap k (cs ++ qc.2)) I
    rw [kap_ap]
    exact h
theorem mE_sq {X : x_X} {w : Bool} {k : s_K} {cs : List Int32} {r : p_R} {I : Nat → Nat → Int32} (h : mE X w (kap k cs) r I) : mE X w k (sq cs r) I := by
  cases r with
  | inl fp => exact h
  | inr qc =>
    show mG X w qc.1 (kap k (cs ++ qc.2)) I
    rw [kap_ap]
    exact h
theorem bu_ (d p : Nat) : 20 + 10 * (7 - d) + p = 10 * (7 - d) + p + 20 := by omega
theorem sO_fP {rc : Nat} {I I' : Nat → Nat → Int32} (hr : am_isc rc) (h : fP rc I I') (hs : sO I) : sO I' := sO_lo hs fun a p => h.1 a (by omega) (by omega) (by rcases hr with rfl | rfl <;> omega) (by rcases hr with rfl | rfl <;> omega)
theorem sO_fD {w : Bool} {I I' : Nat → Nat → Int32} (h : fDm w I I') (hs : sO I) : sO I' := sO_lo hs fun a p => h.1 a (by omega) (by omega) (by cases w with | true => exact (by omega : a ≠ 159) | false => exact (by omega : a ≠ 158))
theorem ru_f {rc ru : Nat} {w : Bool} (hr : am_isc rc) (hu : ru = rc + cond w 7 6) : am_isu ru ∧ ru ≠ 76 ∧ ru ≠ 77 ∧ ru ≠ rc ∧ ru ≠ rc + 8 := by
  subst hu
  unfold am_isu
  rcases hr with rfl | rfl <;> cases w <;> decide
theorem fP_ru {rc ru : Nat} {w : Bool} {I I' : Nat → Nat → Int32} (hr : am_isc rc) (hu : ru = rc + cond w 7 6) (h : fP rc I I') (hv : I ru 0 = Int32.ofNat (cond w 7 5)) : I' ru 0 = Int32.ofNat (cond w 7 5) := by
  obtain ⟨-, h1, h2, h3, h4⟩ := ru_f hr hu
  rw [h.1 ru h1 h2 h3 h4]
  exact hv
/-- an operator of this level stands here -/
def lo_ (X : x_X) (q : Nat) (l : Int32) : Bool := decide (v_Ru_levelOf (oh X q) = l)
theorem oh_cases (X : x_X) (q : Nat) : (oh X q = -17 ∨ (x_K X q = 1 ∧ wd (st_l 44) X q = true ∧ oh X q = -9) ∨ (x_K X q = 1 ∧ wd (st_l 44) X q = false ∧ wd (st_l 42) X q = true ∧ oh X q = -10) ∨ (x_K X q = 42 ∧ oh X q = -15) ∨ (x_K X q = 43 ∧ oh X q = -13) ∨ (x_K X q = 45 ∧ oh X q = -14) ∨ (x_K X q = 47 ∧ oh X q = -16) ∨ (x_K X q = 60 ∧ oh X q = -11) ∨ (x_K X q = 61 ∧ oh X q = -12)) := by
  unfold oh
  by_cases h1 : x_K X q = 1
  · rw [d_t h1]
    cases h2 : wd (st_l 44) X q with
    | true => exact Or.inr (Or.inl ⟨h1, rfl, rfl⟩)
    | false =>
      cases h3 : wd (st_l 42) X q with
      | true => exact Or.inr (Or.inr (Or.inl ⟨h1, rfl, rfl, rfl⟩))
      | false => exact Or.inl rfl
  · rw [d_f h1]
    by_cases a1 : x_K X q = 42
    · rw [d_t a1]
      exact Or.inr (Or.inr (Or.inr (Or.inl ⟨a1, rfl⟩)))
    · rw [d_f a1]
      by_cases a2 : x_K X q = 43
      · rw [d_t a2]
        exact Or.inr (Or.inr (Or.inr (Or.inr (Or.inl ⟨a2, rfl⟩))))
      · rw [d_f a2]
        by_cases a3 : x_K X q = 45
        · rw [d_t a3]
          exact Or.inr (Or.inr (Or.inr (Or.inr (Or.inr (Or.inl ⟨a3, rfl⟩)))))
        · rw [d_f a3]
          by_cases a4 : x_K X q = 47
          · rw [d_t a4]
            exact Or.inr (Or.inr (Or.inr (Or.inr (Or.inr (Or.inr (Or.inl ⟨a4, rfl⟩))))))
          · rw [d_f a4]
            by_cases a5 : x_K X q = 60
            · rw [d_t a5]
              exact Or.inr (Or.inr (Or.inr (Or.inr (Or.inr (Or.inr (Or.inr (Or.inl ⟨a5, rfl⟩)))))))
            · rw [d_f a5]
              by_cases a6 : x_K X q = 61
              · rw [d_t a6]
                exact Or.inr (Or.inr (Or.inr (Or.inr (Or.inr (Or.inr (Or.inr (Or.inr ⟨a6, rfl⟩)))))))
              · rw [d_f a6]
                exact Or.inl rfl
theorem wd_K {l : List Nat} {X : x_X} {q : Nat} (h : x_K X q ≠ 1) : wd l X q = false := by
  unfold wd
  rw [decide_eq_false h, Bool.false_and]
theorem oh_n {X : x_X} {q : Nat} (h : oh X q = -17) : x_K X q ≠ 42 ∧ x_K X q ≠ 43 ∧ x_K X q ≠ 45 ∧ x_K X q ≠ 47 ∧ x_K X q ≠ 60 ∧ x_K X q ≠ 61 ∧ wd (st_l 44) X q = false ∧ wd (st_l 42) X q = false := by
  unfold oh at h
  by_cases h1 : x_K X q = 1
  · rw [d_t h1] at h
    cases h2 : wd (st_l 44) X q with
    | true =>
      rw [h2] at h
      exact absurd (show (-9 : Int32) = -17 from h) (by decide)
    | false =>
      rw [h2] at h
      cases h3 : wd (st_l 42) X q with
      | true =>
        rw [h3] at h
        exact absurd (show (-10 : Int32) = -17 from h) (by decide)
      | false => exact ⟨by omega, by omega, by omega, by omega, by omega, by omega, rfl, rfl⟩
  · rw [d_f h1] at h
    refine ⟨?_, ?_, ?_, ?_, ?_, ?_, wd_K h1, wd_K h1⟩ <;> intro e <;> rw [e] at h <;> exact absurd h (by decide)
theorem lo_end {X : x_X} {q : Nat} (h : X.1 ≤ q) : oh X q = -17 := by
  have hS : x_S X q = q := by
    unfold x_S
    rw [show X.1 - q = 0 by omega]
    rfl
  have hK : x_K X q = 0 := by
    unfold x_K x_Ks
    rw [hS, d_t h]
  unfold oh
  rw [hK]
  rfl
theorem oh_op (X : x_X) (q : Nat) : decide (-8 < oh X q) = false ∧ decide (oh X q = -8) = false := by
  rcases oh_cases X q with h | h | h | h | h | h | h | h | h
  · rw [h]; decide
  · rw [h.2.2]; decide
  · rw [h.2.2.2]; decide
  · rw [h.2]; decide
  · rw [h.2]; decide
  · rw [h.2]; decide
  · rw [h.2]; decide
  · rw [h.2]; decide
  · rw [h.2]; decide
theorem lv_17 : v_Ru_levelOf (-17) = -1 := by decide
theorem lo_K {X : x_X} {q : Nat} {l : Int32} (hl : l ≠ -1) (h : lo_ X q l = true) : x_K X q ≠ 0 ∧ q < X.1 := by
  unfold lo_ at h
  have h1 := of_decide_eq_true h
  have h2 : oh X q ≠ -17 := by
    intro e
    rw [e, lv_17] at h1
    exact hl h1.symm
  refine ⟨fun e => h2 ?_, Nat.lt_of_not_le fun v => h2 (lo_end v)⟩
  unfold oh
  rw [e]
  rfl
theorem gd_fl {X : x_X} {w : Bool} {q q' m m' s s' : Nat} {fp : Nat × Nat} (h : gd X w q m s (.inl fp)) : gd X w q' m' s' (.inl fp) := h
theorem gd_op {X : x_X} {w : Bool} {q q1 q2 m : Nat} {cs1 : List Int32} {r2 : p_R} {c : Int32} (hc : decide (-8 < c) = false ∧ decide (c = -8) = false) (hq : q < q1) (g1 : gd X w q1 m 0 (.inr (q2, cs1))) (g2 : gd X w q2 (m + 1) 1 r2) : gd X w q (m + 1) 1 (sq (cs1 ++ [c]) r2) := by
  obtain ⟨a1, a2, a3, a4⟩ := g1
  cases r2 with
  | inl fp => exact g2
  | inr qc =>
    obtain ⟨b1, b2, b3, b4⟩ := g2
    dsimp only at a1 a2 a3 b1 b2 b3
    refine ⟨by show q ≤ qc.1; omega, b2, ?_, ?_⟩
    · show ((cs1 ++ [c]) ++ qc.2).length ≤ qc.1 - q
      rw [List.length_append, List.length_append]
      show cs1.length + 1 + qc.2.length ≤ qc.1 - q
      omega
    · show bl w (m + 1) ((cs1 ++ [c]) ++ qc.2) 1 = some 1
      have := bl_up w (m := m) (m' := m + 1) (j := 1) (Nat.le_refl _) cs1 0 1 a4
      rw [List.append_assoc, bl_ap, this]
      show bl w (m + 1) (c :: qc.2) 2 = some 1
      unfold bl
      rw [hc.1, hc.2]
      exact b4
theorem gd_sq {X : x_X} {w : Bool} {q q1 m : Nat} {cs1 : List Int32} {r2 : p_R} (g1 : gd X w q m 0 (.inr (q1, cs1))) (g2 : gd X w q1 (m + 1) 1 r2) : gd X w q (m + 1) 0 (sq cs1 r2) := by
  obtain ⟨a1, a2, a3, a4⟩ := g1
  cases r2 with
  | inl fp => exact g2
  | inr qc =>
    obtain ⟨b1, b2, b3, b4⟩ := g2
    dsimp only at a1 a2 a3 b1 b2 b3
    refine ⟨by show q ≤ qc.1; omega, b2, ?_, ?_⟩
    · show (cs1 ++ qc.2).length ≤ qc.1 - q
      rw [List.length_append]
      omega
    · show bl w (m + 1) (cs1 ++ qc.2) 0 = some 1
      have := bl_up w (m := m) (m' := m + 1) (j := 0) (Nat.le_succ _) cs1 0 1 a4
      rw [bl_ap, this]
      exact b4
/-- a row, of both -/
theorem row_ {X : x_X} {w : Bool} {m : Nat} {A B D : Nat → p_R → Prop} {lo : Nat → Bool} {cd : Nat → Int32} (hc : ∀ q, decide (-8 < cd q) = false ∧ decide (cd q = -8) = false) (hlo : ∀ q, q ≤ X.1 → lo q = true → q < x_E X q) (hA : ∀ q, q ≤ X.1 → ∃ r, gd X w q m 0 r ∧ A q r) (b0 : ∀ q, q ≤ X.1 → lo q = false → B q (.inr (q, []))) (b1 : ∀ q fp, q ≤ X.1 → lo q = true → gd X w (x_E X q) m 0 (.inl fp) → A (x_E X q) (.inl fp) → B q (.inl fp)) (b2 : ∀ q q1 cs r, q ≤ X.1 → lo q = true → gd X w (x_E X q) m 0 (.inr (q1, cs)) → A (x_E X q) (.inr (q1, cs)) → B q1 r → B q (sq (cs ++ [cd q]) r)) (d1 : ∀ q fp, q ≤ X.1 → gd X w q m 0 (.inl fp) → A q (.inl fp) → D q (.inl fp)) (d2 : ∀ q q1 cs r, q ≤ X.1 → gd X w q m 0 (.inr (q1, cs)) → A q (.inr (q1, cs)) → B q1 r → D q (sq cs r)) : ∀ q, q ≤ X.1 → ∃ r, gd X w q (m + 1) 0 r ∧ D q r := by
  have hB : ∀ c q, q ≤ X.1 → X.1 ≤ q + c → ∃ r, gd X w q (m + 1) 1 r ∧ B q r := by
    intro c
    induction c with
    | zero =>
      intro q hq hc0
      cases h : lo q with
      | true =>
        have h1 := hlo q hq h
        have h2 := (x_E_le (X := X) hq).2.1
        omega
      | false => exact ⟨.inr (q, []), ⟨Nat.le_refl _, hq, Nat.zero_le _, rfl⟩, b0 q hq h⟩
    | succ c ih =>
      intro q hq hc0
      cases h : lo q with
      | false => exact ⟨.inr (q, []), ⟨Nat.le_refl _, hq, Nat.zero_le _, rfl⟩, b0 q hq h⟩
      | true =>
        have h1 := hlo q hq h
        have h2 := (x_E_le (X := X) hq).2.1
        obtain ⟨r, g1, a1⟩ := hA _ h2
        cases r with
        | inl fp => exact ⟨.inl fp, g1, b1 q fp hq h g1 a1⟩
        | inr qc =>
          obtain ⟨q1, cs⟩ := qc
          have g3 : x_E X q ≤ q1 ∧ q1 ≤ X.1 := ⟨g1.1, g1.2.1⟩
          obtain ⟨r2, g2, a2⟩ := ih q1 g3.2 (by omega)
          exact ⟨sq (cs ++ [cd q]) r2, gd_op (hc q) h1 g1 g2, b2 q q1 cs r2 hq h g1 a1 a2⟩
  intro q hq
  obtain ⟨r, g1, a1⟩ := hA q hq
  cases r with
  | inl fp => exact ⟨.inl fp, g1, d1 q fp hq g1 a1⟩
  | inr qc =>
    obtain ⟨q1, cs⟩ := qc
    have g3 : q ≤ q1 ∧ q1 ≤ X.1 := ⟨g1.1, g1.2.1⟩
    obtain ⟨r2, g2, a2⟩ := hB X.1 q1 g3.2 (by omega)
    exact ⟨sq cs r2, gd_sq g1 g2, d2 q q1 cs r2 hq g1 a1 a2⟩
section ROWS
variable {X : x_X} {rc ru : Nat} {w : Bool} {q d p p1 : Nat} {x x1 : Int32}
theorem cL_no (hx : x_ok X) (hr : am_isc rc) (hu : ru = rc + cond w 7 6) (hq : q ≤ X.1) (hlo : lo_ X q x = false) (j : Nat) (w6 : Value) : cSp X rc ru w 75 50 (10 * (7 - d) + p + 20) [.int x, .int (Int32.ofNat d), .int (Int32.ofNat j), w6] q (.inr (q, [])) := by
  intro g N sw lv L I k hs hG hk hv
  have hu' := (ru_f hr hu).1
  refine ⟨I, ?_, fP_rfl, hG⟩
  unfold lo_ at hlo
  rw [y_Rd_readLevel_50 _ _ _ _ hr hu', hG.2.1, d_t rfl, C_oh hx hs hq hG.1, am_bd_ok, am_tl, y_Rd_readLevel_69 _ _ _ _ _ hr hu', hlo]
  cases decide ((700 : Int32) ≤ Int32.ofNat j) <;> rfl
theorem cL_yes (hx : x_ok X) (hr : am_isc rc) (hu : ru = rc + cond w 7 6) (hd : d ≤ 6) (hp : p1 < p) (e1 : x + 1 = x1) (er : cond (Nat.ble (Int32.toNatClampNeg x1) 2) (7 - Int32.toNatClampNeg x1) (6 - Int32.toNatClampNeg x1) = p1) (hl : x ≠ -1) (hq : q ≤ X.1) (hlo : lo_ X q x = true) {r1 : p_R} (h1 : cSp X rc ru w 75 0 (10 * (7 - d) + p1 + 20) [.int x1, .int (Int32.ofNat d), am_u, am_u] (x_E X q) r1) {j : Nat} (hj : j ≤ q) (w6 : Value) {g N : Nat} {sw lv : Bool} {L : Nat → Nat → Int64} {I : Nat → Nat → Int32} {k : s_K} (hs : sO I) (hG : pG X rc q k I) (hk : k.1 ≤ q) (hv : I ru 0 = Int32.ofNat (cond w 7 5)) : ∃ I', am_R 75 (10 * (7 - d) + p + 20) 50 [.ref 76, .ref rc, .ref ru, .int x, .int (Int32.ofNat d), .int (Int32.ofNat j), w6] [] (am_hp g N sw lv I L) = cond (decide (700 ≤ I' rc 11)) (am_R 75 (10 * (7 - d) + p + 20) 50 [.ref 76, .ref rc, .ref ru, .int x, .int (Int32.ofNat d), .int (Int32.ofNat (j + 1)), .int (oh X q)] [] (am_hp g N sw lv I' L)) (cond (am_inb (I' rc 11) 700) (am_R 75 (10 * (7 - d) + p + 20) 50 [.ref 76, .ref rc, .ref ru, .int x, .int (Int32.ofNat d), .int (Int32.ofNat (j + 1)), .int (oh X q)] [] (am_hp g N sw lv (am_up (am_up I' (rc + 8) (upd (I' (rc + 8)) (Int32.toNatClampNeg (I' rc 11)) (oh X q))) rc (upd (I' rc) 11 (I' rc 11 + 1))) L)) none) ∧ fP rc I I' ∧ pE X rc k r1 I' := by
  have hn := hx.1
  have hu' := (ru_f hr hu).1
  have hqx := (lo_K hl hlo).2
  have hE := x_E_lt hq (lo_K hl hlo).1
  unfold lo_ at hlo
  obtain ⟨I1, a1, a2, a3, a4⟩ := P_step (g := g) (N := N) (sw := sw) (lv := lv) (L := L) hx hr hs hq hG
  obtain ⟨I2, b1, b2, b3⟩ := h1 g N sw lv L I1 k a4 a2 (by omega) (fP_ru hr hu a3 hv)
  refine ⟨I2, ?_, fP_tr a3 b2, b3⟩
  rw [y_Rd_readLevel_50 _ _ _ _ hr hu', hG.2.1, d_t rfl, show decide ((700 : Int32) ≤ Int32.ofNat j) = decide (700 ≤ j) from nb_dle (a := 700) (by decide) (by omega), d_f (by omega : ¬ 700 ≤ j), C_oh hx hs hq hG.1, am_bd_ok, am_tl, y_Rd_readLevel_69 _ _ _ _ _ hr hu', hlo, cond_true, a1, am_bd_ok, am_tn, y_Rd_readLevel_88 _ _ _ _ hr hu', e1, er, nb_tn (by omega : d < 100000), bu_, blt_t (by omega), cond_true, b1, am_bd_ok, am_tn, y_Rd_readLevel_99 _ _ _ _ hr hu', nb_s]
theorem cL_fl (hx : x_ok X) (hr : am_isc rc) (hu : ru = rc + cond w 7 6) (hd : d ≤ 6) (hp : p1 < p) (e1 : x + 1 = x1) (er : cond (Nat.ble (Int32.toNatClampNeg x1) 2) (7 - Int32.toNatClampNeg x1) (6 - Int32.toNatClampNeg x1) = p1) (hl : x ≠ -1) (hq : q ≤ X.1) (hlo : lo_ X q x = true) {fp : Nat × Nat} (h0 : 0 < fp.1 ∧ fp.1 < 100) (h1 : cSp X rc ru w 75 0 (10 * (7 - d) + p1 + 20) [.int x1, .int (Int32.ofNat d), am_u, am_u] (x_E X q) (.inl fp)) {j : Nat} (hj : j ≤ q) (w6 : Value) : cSp X rc ru w 75 50 (10 * (7 - d) + p + 20) [.int x, .int (Int32.ofNat d), .int (Int32.ofNat j), w6] q (.inl fp) := by
  intro g N sw lv L I k hs hG hk hv
  have hu' := (ru_f hr hu).1
  obtain ⟨I2, b1, b2, b3⟩ := cL_yes (g := g) (N := N) (sw := sw) (lv := lv) (L := L) hx hr hu hd hp e1 er hl hq hlo h1 hj w6 hs hG hk hv
  have b3' : pF X rc fp.1 fp.2 I2 := b3
  obtain ⟨m, hm, em⟩ := b3'.2.2.2
  obtain ⟨I3, c1, c2, c3, c4⟩ := C_addg (z := none) (x := oh X q) (F := fun I => am_R 75 (10 * (7 - d) + p + 20) 50 [.ref 76, .ref rc, .ref ru, .int x, .int (Int32.ofNat d), .int (Int32.ofNat (j + 1)), .int (oh X q)] [] (am_hp g N sw lv I L)) hm em
  have c5 := fP_of hr c3 c4
  have c6 : pF X rc fp.1 fp.2 I3 := by
    have h1 : rc + 8 ≠ 77 ∧ rc ≠ 77 ∧ rc + 8 ≠ 78 ∧ rc ≠ 78 ∧ rc + 8 ≠ 76 ∧ rc ≠ 76 := by rcases hr with rfl | rfl <;> decide
    obtain ⟨⟨q', hq', t'⟩, f1, f2, -⟩ := b3'
    exact ⟨⟨q', hq', cT_fr t' (c3 77 (by omega) (by omega)) (c3 78 (by omega) (by omega))⟩, by rw [c3 76 (by omega) (by omega)]; exact f1, by rw [c3 76 (by omega) (by omega)]; exact f2, c2⟩
  refine ⟨I3, ?_, fP_tr b2 c5, c6⟩
  rw [b1]
  refine c1.trans ?_
  show am_R 75 (10 * (7 - d) + p + 20) 50 [.ref 76, .ref rc, .ref ru, .int x, .int (Int32.ofNat d), .int (Int32.ofNat (j + 1)), .int (oh X q)] [] (am_hp g N sw lv I3 L) = _
  rw [y_Rd_readLevel_50 _ _ _ _ hr hu', d_f (pF_ne c6 h0.1 h0.2)]
  cases decide ((700 : Int32) ≤ Int32.ofNat (j + 1)) <;> rfl
theorem cL_ok (hx : x_ok X) (hr : am_isc rc) (hu : ru = rc + cond w 7 6) (hd : d ≤ 6) (hp : p1 < p) (e1 : x + 1 = x1) (er : cond (Nat.ble (Int32.toNatClampNeg x1) 2) (7 - Int32.toNatClampNeg x1) (6 - Int32.toNatClampNeg x1) = p1) (hl : x ≠ -1) (hq : q ≤ X.1) (hlo : lo_ X q x = true) {q1 : Nat} {cs : List Int32} {m : Nat} (h0 : gd X w (x_E X q) m 0 (.inr (q1, cs))) (h1 : cSp X rc ru w 75 0 (10 * (7 - d) + p1 + 20) [.int x1, .int (Int32.ofNat d), am_u, am_u] (x_E X q) (.inr (q1, cs))) {r2 : p_R} (h2 : ∀ j w6, j ≤ q1 → cSp X rc ru w 75 50 (10 * (7 - d) + p + 20) [.int x, .int (Int32.ofNat d), .int (Int32.ofNat j), w6] q1 r2) {j : Nat} (hj : j ≤ q) (w6 : Value) : cSp X rc ru w 75 50 (10 * (7 - d) + p + 20) [.int x, .int (Int32.ofNat d), .int (Int32.ofNat j), w6] q (sq (cs ++ [oh X q]) r2) := by
  intro g N sw lv L I k hs hG hk hv
  have hn := hx.1
  have hE := x_E_lt hq (lo_K hl hlo).1
  obtain ⟨g1, g2, g3, -⟩ := h0
  dsimp only at g1 g2 g3
  obtain ⟨I2, b1, b2, b3⟩ := cL_yes (g := g) (N := N) (sw := sw) (lv := lv) (L := L) hx hr hu hd hp e1 er hl hq hlo h1 hj w6 hs hG hk hv
  have b3' : pG X rc q1 (kap k cs) I2 := b3
  have k1 := kap_1 cs k
  have hk1 : (kap k cs).1 < q1 := by omega
  have c1 := C_addc (z := none) (x := oh X q) (F := fun I => am_R 75 (10 * (7 - d) + p + 20) 50 [.ref 76, .ref rc, .ref ru, .int x, .int (Int32.ofNat d), .int (Int32.ofNat (j + 1)), .int (oh X q)] [] (am_hp g N sw lv I L)) b3'.2.2 (by omega)
  have c2 := pG_add (c := oh X q) hr b3'
  have c3 : fP rc I _ := fP_tr b2 (fP_adc hr (m := (kap k cs).1) (x := oh X q) (y := Int32.ofNat ((kap k cs).1 + 1)))
  obtain ⟨I3, d1, d2, d3⟩ := h2 (j + 1) (.int (oh X q)) (by omega) g N sw lv L _ _ (sO_fP hr c3 hs) c2 hk1 (fP_ru hr hu c3 hv)
  refine ⟨I3, ?_, fP_tr c3 d2, pE_sq ?_⟩
  · rw [b1]
    exact c1.trans d1
  · rw [kap_ap]
    exact d3
/-- a level begins with the next -/
theorem cL_in (hr : am_isc rc) (hu : ru = rc + cond w 7 6) (hd : d ≤ 6) (hp : p1 < p) (e1 : x + 1 = x1) (er : cond (Nat.ble (Int32.toNatClampNeg x1) 2) (7 - Int32.toNatClampNeg x1) (6 - Int32.toNatClampNeg x1) = p1) (hx2 : x ≠ 2) (hx4 : x ≤ 4) {r : p_R} (h1 : cSp X rc ru w 75 0 (10 * (7 - d) + p1 + 20) [.int x1, .int (Int32.ofNat d), am_u, am_u] q r) {g N : Nat} {sw lv : Bool} {L : Nat → Nat → Int64} {I : Nat → Nat → Int32} {k : s_K} (hs : sO I) (hG : pG X rc q k I) (hk : k.1 ≤ q) (hv : I ru 0 = Int32.ofNat (cond w 7 5)) : ∃ I', am_R 75 (10 * (7 - d) + p + 20) 0 [.ref 76, .ref rc, .ref ru, .int x, .int (Int32.ofNat d), am_u, am_u] [] (am_hp g N sw lv I L) = am_R 75 (10 * (7 - d) + p + 20) 50 [.ref 76, .ref rc, .ref ru, .int x, .int (Int32.ofNat d), .int (Int32.ofNat 0), am_u] [] (am_hp g N sw lv I' L) ∧ fP rc I I' ∧ pE X rc k r I' := by
  have hu' := (ru_f hr hu).1
  obtain ⟨I2, b1, b2, b3⟩ := h1 g N sw lv L I k hs hG hk hv
  refine ⟨I2, ?_, b2, b3⟩
  rw [y_Rd_readLevel_0 _ _ hr hu', hG.2.1, d_t rfl, d_f hx2, d_t hx4, e1, er, nb_tn (by omega : d < 100000), bu_, blt_t (by omega), cond_true, b1, am_bd_ok, am_tn, y_Rd_readLevel_47 _ _ hr hu']
  rfl
theorem cL_d1 (hr : am_isc rc) (hu : ru = rc + cond w 7 6) (hd : d ≤ 6) (hp : p1 < p) (e1 : x + 1 = x1) (er : cond (Nat.ble (Int32.toNatClampNeg x1) 2) (7 - Int32.toNatClampNeg x1) (6 - Int32.toNatClampNeg x1) = p1) (hx2 : x ≠ 2) (hx4 : x ≤ 4) {fp : Nat × Nat} (h0 : 0 < fp.1 ∧ fp.1 < 100) (h1 : cSp X rc ru w 75 0 (10 * (7 - d) + p1 + 20) [.int x1, .int (Int32.ofNat d), am_u, am_u] q (.inl fp)) : cSp X rc ru w 75 0 (10 * (7 - d) + p + 20) [.int x, .int (Int32.ofNat d), am_u, am_u] q (.inl fp) := by
  intro g N sw lv L I k hs hG hk hv
  have hu' := (ru_f hr hu).1
  obtain ⟨I2, b1, b2, b3⟩ := cL_in (g := g) (N := N) (sw := sw) (lv := lv) (L := L) hr hu hd hp e1 er hx2 hx4 h1 hs hG hk hv
  have b3' : pF X rc fp.1 fp.2 I2 := b3
  refine ⟨I2, ?_, b2, b3⟩
  rw [b1, y_Rd_readLevel_50 _ _ _ _ hr hu', d_f (pF_ne b3' h0.1 h0.2)]
  rfl
theorem cL_d2 (hr : am_isc rc) (hu : ru = rc + cond w 7 6) (hd : d ≤ 6) (hp : p1 < p) (e1 : x + 1 = x1) (er : cond (Nat.ble (Int32.toNatClampNeg x1) 2) (7 - Int32.toNatClampNeg x1) (6 - Int32.toNatClampNeg x1) = p1) (hx2 : x ≠ 2) (hx4 : x ≤ 4) {q1 : Nat} {cs : List Int32} {m : Nat} (h0 : gd X w q m 0 (.inr (q1, cs))) (h1 : cSp X rc ru w 75 0 (10 * (7 - d) + p1 + 20) [.int x1, .int (Int32.ofNat d), am_u, am_u] q (.inr (q1, cs))) {r2 : p_R} (h2 : ∀ j w6, j ≤ q1 → cSp X rc ru w 75 50 (10 * (7 - d) + p + 20) [.int x, .int (Int32.ofNat d), .int (Int32.ofNat j), w6] q1 r2) : cSp X rc ru w 75 0 (10 * (7 - d) + p + 20) [.int x, .int (Int32.ofNat d), am_u, am_u] q (sq cs r2) := by
  intro g N sw lv L I k hs hG hk hv
  obtain ⟨g1, g2, g3, -⟩ := h0
  dsimp only at g1 g2 g3
  obtain ⟨I2, b1, b2, b3⟩ := cL_in (g := g) (N := N) (sw := sw) (lv := lv) (L := L) hr hu hd hp e1 er hx2 hx4 h1 hs hG hk hv
  have b3' : pG X rc q1 (kap k cs) I2 := b3
  have k1 := kap_1 cs k
  obtain ⟨I3, d1, d2, d3⟩ := h2 0 am_u (Nat.zero_le _) g N sw lv L I2 _ (sO_fP hr b2 hs) b3' (by omega) (fP_ru hr hu b2 hv)
  exact ⟨I3, b1.trans d1, fP_tr b2 d2, pE_sq d3⟩
end ROWS
