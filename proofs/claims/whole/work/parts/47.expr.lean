/-! PARSING: an expression -/
section EXPR
variable {X : x_X} {rc ru : Nat} {w : Bool} {d q : Nat} {k : s_K}
theorem c_pa (hx : x_ok X) (hr : am_isc rc) (hu : ru = rc + cond w 7 6) (hd : d ≤ 5) (hq : q ≤ X.1) (hK : x_K X q = 40) {r : p_R} (h : cSp X rc ru w 74 0 (10 * (7 - (d + 1)) + 9 + 20) [.int (Int32.ofNat (d + 1)), am_u] (x_E X q) r) {g N : Nat} {sw lv : Bool} {L : Nat → Nat → Int64} {I : Nat → Nat → Int32} {k : s_K} (hs : sO I) (hG : pG X rc q k I) (hk : k.1 ≤ q) (hv : I ru 0 = Int32.ofNat (cond w 7 5)) : ∃ I', am_R 80 (10 * (7 - d) + 0 + 20) 0 [.ref 76, .ref rc, .ref ru, .int (Int32.ofNat d), am_u] [] (am_hp g N sw lv I L) = am_bd (am_R 69 9 0 [.ref 76, .int 41] [] (am_hp g N sw lv I' L)) (fun v h => am_R 80 (10 * (7 - d) + 0 + 20) 119 [.ref 76, .ref rc, .ref ru, .int (Int32.ofNat d), am_u] (v.toList ++ []) h) (fun c h => some (.inr c, h)) ∧ fP rc I I' ∧ pE X rc k r I' := by
  have hu' := (ru_f hr hu).1
  have hE := x_E_le hq
  obtain ⟨I1, a1, a2, a3, a4⟩ := P_step (g := g) (N := N) (sw := sw) (lv := lv) (L := L) hx hr hs hq hG
  obtain ⟨I2, b1, b2, b3⟩ := h g N sw lv L I1 k a4 a2 (by omega) (fP_ru hr hu a3 hv)
  refine ⟨I2, ?_, fP_tr a3 b2, b3⟩
  rw [y_Rd_readPart_0 _ hr hu', show decide (I 77 4 = 2) = decide (x_K X q = 2) from kk_K hx hr hq hG (c := 2) (by decide), d_f (by omega), show decide (I 77 4 = 1) = decide (x_K X q = 1) from kk_K hx hr hq hG (c := 1) (by decide), d_f (by omega), show decide (I 77 4 = 40) = decide (x_K X q = 40) from kk_K hx hr hq hG (c := 40) (by decide), d_t hK, a1, am_bd_ok, am_tn, y_Rd_readPart_104 _ hr hu', nb_s, nb_tn (by omega : d + 1 < 100000), bu_, blt_t (by omega), cond_true]
  refine Eq.trans (congrArg (fun z => am_bd z _ _) b1) ?_
  rw [am_bd_ok, am_tn, y_Rd_readPart_113 _ hr hu']
theorem c_pa0 (hx : x_ok X) (hr : am_isc rc) (hu : ru = rc + cond w 7 6) (hd : d ≤ 5) (hq : q ≤ X.1) (hK : x_K X q = 40) {fp : Nat × Nat} (h0 : 0 < fp.1 ∧ fp.1 < 100) (h : cSp X rc ru w 74 0 (10 * (7 - (d + 1)) + 9 + 20) [.int (Int32.ofNat (d + 1)), am_u] (x_E X q) (.inl fp)) : cSp X rc ru w 80 0 (10 * (7 - d) + 0 + 20) [.int (Int32.ofNat d), am_u] q (.inl fp) := by
  intro g N sw lv L I k hs hG hk hv
  have hu' := (ru_f hr hu).1
  obtain ⟨I2, b1, b2, b3⟩ := c_pa (g := g) (N := N) (sw := sw) (lv := lv) (L := L) hx hr hu hd hq hK h hs hG hk hv
  have b3' : pF X rc fp.1 fp.2 I2 := b3
  refine ⟨I2, ?_, b2, b3⟩
  rw [b1, C_sgb (pF_ne b3' h0.1 h0.2), am_bd_ok, am_tn, y_Rd_readPart_119 _ hr hu', y_Rd_readPart_127 _ _ hr hu']
theorem c_pa1 (hx : x_ok X) (hr : am_isc rc) (hu : ru = rc + cond w 7 6) (hd : d ≤ 5) (hq : q ≤ X.1) (hK : x_K X q = 40) {q1 m : Nat} {cs : List Int32} (h0 : gd X w (x_E X q) m 0 (.inr (q1, cs))) (h : cSp X rc ru w 74 0 (10 * (7 - (d + 1)) + 9 + 20) [.int (Int32.ofNat (d + 1)), am_u] (x_E X q) (.inr (q1, cs))) (h41 : x_K X q1 = 41) : cSp X rc ru w 80 0 (10 * (7 - d) + 0 + 20) [.int (Int32.ofNat d), am_u] q (.inr (x_E X q1, cs)) := by
  intro g N sw lv L I k hs hG hk hv
  have hu' := (ru_f hr hu).1
  obtain ⟨I2, b1, b2, b3⟩ := c_pa (g := g) (N := N) (sw := sw) (lv := lv) (L := L) hx hr hu hd hq hK h hs hG hk hv
  have b3' : pG X rc q1 (kap k cs) I2 := b3
  obtain ⟨I3, c1, c2, c3, c4⟩ := C_sg1 (g := g) (N := N) (sw := sw) (lv := lv) (L := L) hx hr (sO_fP hr b2 hs) h0.2.1 b3' h41
  refine ⟨I3, ?_, fP_tr b2 c3, c2⟩
  rw [b1]
  refine Eq.trans (congrArg (fun z => am_bd z _ _) c1) ?_
  rw [am_bd_ok, am_tn, y_Rd_readPart_119 _ hr hu', y_Rd_readPart_127 _ _ hr hu']
theorem c_pa2 (hx : x_ok X) (hr : am_isc rc) (hu : ru = rc + cond w 7 6) (hd : d ≤ 5) (hq : q ≤ X.1) (hK : x_K X q = 40) {q1 m : Nat} {cs : List Int32} (h0 : gd X w (x_E X q) m 0 (.inr (q1, cs))) (h : cSp X rc ru w 74 0 (10 * (7 - (d + 1)) + 9 + 20) [.int (Int32.ofNat (d + 1)), am_u] (x_E X q) (.inr (q1, cs))) (h41 : x_K X q1 ≠ 41) : cSp X rc ru w 80 0 (10 * (7 - d) + 0 + 20) [.int (Int32.ofNat d), am_u] q (.inl (1, x_S X q1)) := by
  intro g N sw lv L I k hs hG hk hv
  have hn := hx.1
  have hu' := (ru_f hr hu).1
  have hE := x_E_le hq
  obtain ⟨I2, b1, b2, b3⟩ := c_pa (g := g) (N := N) (sw := sw) (lv := lv) (L := L) hx hr hu hd hq hK h hs hG hk hv
  have b3' : pG X rc q1 (kap k cs) I2 := b3
  have k1 := kap_1 cs k
  obtain ⟨g1, g2, g3, -⟩ := h0
  dsimp only at g1 g2 g3
  obtain ⟨I3, c1, c2, c3⟩ := C_sg0 (g := g) (N := N) (sw := sw) (lv := lv) (L := L) hx hr (by omega) g2 b3' (c := 41) (by decide) h41
  refine ⟨I3, ?_, fP_tr b2 c3, c2⟩
  rw [b1]
  refine Eq.trans (congrArg (fun z => am_bd z _ _) c1) ?_
  rw [am_bd_ok, am_tn, y_Rd_readPart_119 _ hr hu', y_Rd_readPart_127 _ _ hr hu']
theorem c_pz (hx : x_ok X) (hr : am_isc rc) (hu : ru = rc + cond w 7 6) (hq : q ≤ X.1) (h1 : x_K X q ≠ 1) (h2 : x_K X q ≠ 2) (h3 : x_K X q ≠ 40) : cSp X rc ru w 80 0 (10 * (7 - d) + 0 + 20) [.int (Int32.ofNat d), am_u] q (.inl (1, x_S X q)) := by
  intro g N sw lv L I k hs hG hk hv
  have hn := hx.1
  have hu' := (ru_f hr hu).1
  obtain ⟨f1, f2⟩ := P_fail hr hq (by omega) hG 1
  refine ⟨_, ?_, f2, f1⟩
  rw [y_Rd_readPart_0 _ hr hu', show decide (I 77 4 = 2) = decide (x_K X q = 2) from kk_K hx hr hq hG (c := 2) (by decide), d_f h2, show decide (I 77 4 = 1) = decide (x_K X q = 1) from kk_K hx hr hq hG (c := 1) (by decide), d_f h1, show decide (I 77 4 = 40) = decide (x_K X q = 40) from kk_K hx hr hq hG (c := 40) (by decide), d_f h3, d_t hG.2.1, y_Rd_readPart_127 _ _ hr hu']
  rfl
theorem m_pa (hx : x_ok X) (hd : d ≤ 5) (hq : q ≤ X.1) (hK : x_K X q = 40) {r : p_R} (h : mSp X w 157 0 (10 * (7 - (d + 1)) + 6 + 20) [.int (Int32.ofNat (d + 1)), am_u] (x_E X q) r) {g N : Nat} {sw : Bool} {L : Nat → Nat → Int64} {I : Nat → Nat → Int32} {k : s_K} (hs : sO I) (hG : mG X w q k I) (hk : k.1 ≤ q) : ∃ I', am_R 163 (10 * (7 - d) + 1 + 20) 0 [.ref 147, .int (Int32.ofNat d), am_u] [] (am_hp g N sw w I L) = am_bd (am_R 165 3 0 [.ref 147, .int 41] [] (am_hp g N sw w I' L)) (fun v h => am_R 163 (10 * (7 - d) + 1 + 20) 94 [.ref 147, .int (Int32.ofNat d), am_u] (v.toList ++ []) h) (fun c h => some (.inr c, h)) ∧ fDm w I I' ∧ mE X w k r I' := by
  have hE := x_E_le hq
  obtain ⟨I1, a1, a2, a3, a4⟩ := M_sg1 (g := g) (N := N) (sw := sw) (L := L) (lv := w) hx hs hq hG (c := 40) (by decide) (by decide) hK
  obtain ⟨I2, b1, b2, b3⟩ := h g N sw L I1 k a4 a2 (by omega)
  refine ⟨I2, ?_, fDm_tr a3 b2, b3⟩
  rw [y_Mo_readPart_0 _, d_t hG.2.1, hG.1.2.2.2.1, (mk_1 _).2, d_f (by omega), (mk_1 _).1, d_f (by omega)]
  refine Eq.trans (congrArg (fun z => am_bd z _ _) a1) ?_
  rw [am_bd_ok, am_tn, y_Mo_readPart_81 _, nb_s, nb_tn (by omega : d + 1 < 100000), bu_, blt_t (by omega), cond_true]
  refine Eq.trans (congrArg (fun z => am_bd z _ _) b1) ?_
  rw [am_bd_ok, am_tn, y_Mo_readPart_88 _]
theorem m_pa0 (hx : x_ok X) (hd : d ≤ 5) (hq : q ≤ X.1) (hK : x_K X q = 40) {fp : Nat × Nat} (h0 : 0 < fp.1 ∧ fp.1 < 100) (h : mSp X w 157 0 (10 * (7 - (d + 1)) + 6 + 20) [.int (Int32.ofNat (d + 1)), am_u] (x_E X q) (.inl fp)) : mSp X w 163 0 (10 * (7 - d) + 1 + 20) [.int (Int32.ofNat d), am_u] q (.inl fp) := by
  intro g N sw L I k hs hG hk
  obtain ⟨I2, b1, b2, b3⟩ := m_pa (g := g) (N := N) (sw := sw) (L := L) hx hd hq hK h hs hG hk
  have b3' : mF fp.1 fp.2 I2 := b3
  refine ⟨I2, ?_, b2, b3⟩
  rw [b1, M_sgb (mF_ne b3' h0.1 h0.2), am_bd_ok, am_tn, y_Mo_readPart_94 _]
theorem m_pa1 (hx : x_ok X) (hd : d ≤ 5) (hq : q ≤ X.1) (hK : x_K X q = 40) {q1 m : Nat} {cs : List Int32} (h0 : gd X w (x_E X q) m 0 (.inr (q1, cs))) (h : mSp X w 157 0 (10 * (7 - (d + 1)) + 6 + 20) [.int (Int32.ofNat (d + 1)), am_u] (x_E X q) (.inr (q1, cs))) (h41 : x_K X q1 = 41) : mSp X w 163 0 (10 * (7 - d) + 1 + 20) [.int (Int32.ofNat d), am_u] q (.inr (x_E X q1, cs)) := by
  intro g N sw L I k hs hG hk
  obtain ⟨I2, b1, b2, b3⟩ := m_pa (g := g) (N := N) (sw := sw) (L := L) hx hd hq hK h hs hG hk
  have b3' : mG X w q1 (kap k cs) I2 := b3
  obtain ⟨I3, c1, c2, c3, c4⟩ := M_sg1 (g := g) (N := N) (sw := sw) (L := L) (lv := w) hx (sO_fD b2 hs) h0.2.1 b3' (c := 41) (by decide) (by decide) h41
  refine ⟨I3, ?_, fDm_tr b2 c3, c2⟩
  rw [b1]
  refine Eq.trans (congrArg (fun z => am_bd z _ _) c1) ?_
  rw [am_bd_ok, am_tn, y_Mo_readPart_94 _]
theorem m_pa2 (hx : x_ok X) (hd : d ≤ 5) (hq : q ≤ X.1) (hK : x_K X q = 40) {q1 m : Nat} {cs : List Int32} (h0 : gd X w (x_E X q) m 0 (.inr (q1, cs))) (h : mSp X w 157 0 (10 * (7 - (d + 1)) + 6 + 20) [.int (Int32.ofNat (d + 1)), am_u] (x_E X q) (.inr (q1, cs))) (h41 : x_K X q1 ≠ 41) : mSp X w 163 0 (10 * (7 - d) + 1 + 20) [.int (Int32.ofNat d), am_u] q (.inl (1, x_S X q1)) := by
  intro g N sw L I k hs hG hk
  obtain ⟨I2, b1, b2, b3⟩ := m_pa (g := g) (N := N) (sw := sw) (L := L) hx hd hq hK h hs hG hk
  have b3' : mG X w q1 (kap k cs) I2 := b3
  obtain ⟨I3, c1, c2, c3⟩ := M_sg0 (g := g) (N := N) (sw := sw) (L := L) (lv := w) hx h0.2.1 b3' (c := 41) (by decide) (by decide) h41
  refine ⟨I3, ?_, fDm_tr b2 c3, c2⟩
  rw [b1]
  refine Eq.trans (congrArg (fun z => am_bd z _ _) c1) ?_
  rw [am_bd_ok, am_tn, y_Mo_readPart_94 _]
theorem m_pz (hx : x_ok X) (hd : d ≤ 5) (hq : q ≤ X.1) (h1 : x_K X q ≠ 1) (h2 : x_K X q ≠ 2) (h3 : x_K X q ≠ 40) : mSp X w 163 0 (10 * (7 - d) + 1 + 20) [.int (Int32.ofNat d), am_u] q (.inl (1, x_S X q)) := by
  intro g N sw L I k hs hG hk
  obtain ⟨I2, a1, a2, a3⟩ := M_sg0 (g := g) (N := N) (sw := sw) (L := L) (lv := w) hx hq hG (c := 40) (by decide) (by decide) h3
  have hb := mF_ne a2 (by decide) (by decide)
  refine ⟨I2, ?_, a3, a2⟩
  rw [y_Mo_readPart_0 _, d_t hG.2.1, hG.1.2.2.2.1, (mk_1 _).2, d_f h2, (mk_1 _).1, d_f h1]
  refine Eq.trans (congrArg (fun z => am_bd z _ _) a1) ?_
  rw [am_bd_ok, am_tn, y_Mo_readPart_81 _, nb_s, nb_tn (by omega : d + 1 < 100000), bu_, blt_t (by omega), cond_true, y_Mo_readExpression_0 _, d_f hb, am_bd_ok, am_tn, y_Mo_readPart_88 _, M_sgb hb, am_bd_ok, am_tn, y_Mo_readPart_94 _]
/-- a part, of both -/
theorem R_part (hx : x_ok X) (hr : am_isc rc) (hu : ru = rc + cond w 7 6) (hd : d ≤ 5) {m : Nat} (hm : 1 ≤ m) (hX : ∀ q, q ≤ X.1 → ∃ r, gd X w q m 0 r ∧ cSp X rc ru w 74 0 (10 * (7 - (d + 1)) + 9 + 20) [.int (Int32.ofNat (d + 1)), am_u] q r ∧ mSp X w 157 0 (10 * (7 - (d + 1)) + 6 + 20) [.int (Int32.ofNat (d + 1)), am_u] q r) : ∀ q, q ≤ X.1 → ∃ r, gd X w q m 0 r ∧ cSp X rc ru w 75 0 (10 * (7 - d) + 1 + 20) [.int 5, .int (Int32.ofNat d), am_u, am_u] q r ∧ (mSp X w 163 0 (10 * (7 - d) + 1 + 20) [.int (Int32.ofNat d), am_u] q r) ∧ bt X q r := by
  intro q hq
  have hE := x_E_le hq
  have hSX := (x_S_le (X := X) hq).2
  have hw7 := w75 w
  have l5 : ∀ r, cSp X rc ru w 80 0 (10 * (7 - d) + 0 + 20) [.int (Int32.ofNat d), am_u] q r → cSp X rc ru w 75 0 (10 * (7 - d) + 1 + 20) [.int 5, .int (Int32.ofNat d), am_u, am_u] q r := fun r h => c_l5 hr hu (by omega) h
  by_cases h2 : x_K X q = 2
  · have hlt := x_E_lt hq (by omega)
    by_cases hn : nf X q 0 9999 = 0
    · have hN := (x_N_f hq h2).1
      refine ⟨.inr (x_E X q, [Int32.ofNat (x_N X q)]), ⟨hE.1, hE.2.1, ?_, ?_⟩, l5 _ (c_pw2 hx hr hu hq hn), m_pw2 hx hq hn, fun _ e => absurd h2 e⟩
      · show 1 ≤ x_E X q - q
        omega
      · show bl w m [Int32.ofNat (x_N X q)] 0 = some 1
        unfold bl
        rw [d_t (mc_n (by omega)).1, decide_eq_true (by omega : 0 + 1 ≤ m), show decide ((0 : Int32) ≤ Int32.ofNat (x_N X q)) = true from decide_eq_true ((nb_le (a := 0) (by decide) (by omega)).mpr (Nat.zero_le _))]
        rfl
    · refine ⟨.inl (nf X q 0 9999, x_S X q), ⟨?_, ?_, hSX⟩, l5 _ (c_pw2f hx hr hu hq h2 hn), m_pw2f hx hq h2 hn, fun _ e => absurd h2 e⟩
      · show 0 < nf X q 0 9999
        omega
      · show nf X q 0 9999 < 100
        rcases nf_n hn with e | e <;> omega
  · by_cases h1 : x_K X q = 1
    · have hlt := x_E_lt hq (by omega)
      cases hv : vi X q (cond w 7 5) with
      | none => exact ⟨.inl (3, x_S X q), ⟨by show 0 < 3; decide, by show 3 < 100; decide, hSX⟩, l5 _ (c_pw1f hx hr hu hq h1 hv), m_pw1f hx hq h1 hv, fun e => absurd h1 e⟩
      | some v =>
        have hvl := (vi_lt hv).1
        obtain ⟨e1, -, e3⟩ := mc_v v (by omega)
        refine ⟨.inr (x_E X q, [-1 - Int32.ofNat v]), ⟨hE.1, hE.2.1, ?_, ?_⟩, l5 _ (c_pw1 hx hr hu hq h1 hv), m_pw1 hx hq h1 hv, fun e => absurd h1 e⟩
        · show 1 ≤ x_E X q - q
          omega
        · show bl w m [-1 - Int32.ofNat v] 0 = some 1
          unfold bl
          rw [d_t e1, decide_eq_true (by omega : 0 + 1 ≤ m), e3, nb_dlt (by omega) (by omega), decide_eq_true hvl, Bool.or_true]
          rfl
    · by_cases h3 : x_K X q = 40
      · have hlt := x_E_lt hq (by omega)
        have hbt : ∀ r, bt X q r := fun r _ _ e => absurd h3 e
        obtain ⟨r, g1, a1, a2⟩ := hX _ hE.2.1
        cases r with
        | inl fp => exact ⟨.inl fp, g1, l5 _ (c_pa0 hx hr hu hd hq h3 ⟨g1.1, g1.2.1⟩ a1), m_pa0 hx hd hq h3 ⟨g1.1, g1.2.1⟩ a2, hbt _⟩
        | inr qc =>
          obtain ⟨q1, cs⟩ := qc
          obtain ⟨f1, f2, f3, f4⟩ := id g1
          dsimp only at f1 f2 f3 f4
          have hE1 := x_E_le (X := X) f2
          by_cases h41 : x_K X q1 = 41
          · refine ⟨.inr (x_E X q1, cs), ⟨by show q ≤ x_E X q1; omega, hE1.2.1, by show cs.length ≤ x_E X q1 - q; omega, f4⟩, l5 _ (c_pa1 hx hr hu hd hq h3 g1 a1 h41), m_pa1 hx hd hq h3 g1 a2 h41, hbt _⟩
          · exact ⟨.inl (1, x_S X q1), ⟨by show 0 < 1; decide, by show 1 < 100; decide, (x_S_le (X := X) f2).2⟩, l5 _ (c_pa2 hx hr hu hd hq h3 g1 a1 h41), m_pa2 hx hd hq h3 g1 a2 h41, hbt _⟩
      · exact ⟨.inl (1, x_S X q), ⟨by show 0 < 1; decide, by show 1 < 100; decide, hSX⟩, l5 _ (c_pz hx hr hu hq h1 h2 h3), m_pz hx hd hq h1 h2 h3, fun _ _ _ => rfl⟩
/-- too deep -/
theorem R_deep (hx : x_ok X) (hr : am_isc rc) (hu : ru = rc + cond w 7 6) (m : Nat) : ∀ q, q ≤ X.1 → ∃ r, gd X w q m 0 r ∧ cSp X rc ru w 74 0 (10 * (7 - 6) + 9 + 20) [.int (Int32.ofNat 6), am_u] q r ∧ mSp X w 157 0 (10 * (7 - 6) + 6 + 20) [.int (Int32.ofNat 6), am_u] q r := by
  intro q hq
  have hn := hx.1
  have hu' := (ru_f hr hu).1
  have hSX := (x_S_le (X := X) hq).2
  by_cases hb : x_K X q = 2 ∨ x_K X q = 1 ∨ x_K X q = 40
  · refine ⟨.inl (2, x_S X q), ⟨by show 0 < 2; decide, by show 2 < 100; decide, hSX⟩, ?_, ?_⟩
    · intro g N sw lv L I k hs hG hk hv
      obtain ⟨f1, f2⟩ := P_fail hr hq (by omega) hG 2
      refine ⟨_, ?_, f2, f1⟩
      rw [y_Rd_readExpr_0 _ hr hu', d_f (by decide), show decide (I 77 4 = 2) = decide (x_K X q = 2) from kk_K hx hr hq hG (c := 2) (by decide), show decide (I 77 4 = 1) = decide (x_K X q = 1) from kk_K hx hr hq hG (c := 1) (by decide), show decide (I 77 4 = 40) = decide (x_K X q = 40) from kk_K hx hr hq hG (c := 40) (by decide), d_t hG.2.1]
      rcases hb with e | e | e
      · rw [d_t e]
        rfl
      · rw [d_f (by omega), d_t e]
        rfl
      · rw [d_f (by omega), d_f (by omega), d_t e]
        rfl
    · intro g N sw L I k hs hG hk
      obtain ⟨f1, f2⟩ := M_fail hG 2
      refine ⟨_, ?_, f2, f1⟩
      have e0 : am_R 157 (10 * (7 - 6) + 6 + 20) 33 [.ref 147, .int (Int32.ofNat 6), am_u] [] (am_hp g N sw w I L) = some (.inl none, (am_hp g N sw w (am_up (am_up I 147 (upd (I 147) 23 (Int32.ofNat 2))) 147 (upd (upd (I 147) 23 (Int32.ofNat 2)) 24 ((upd (I 147) 23 (Int32.ofNat 2)) 21))) L)) := by
        rw [y_Mo_readExpression_33 _, d_t (by decide), d_t hG.2.1]
        exact b157 (g := g) (N := N) (sw := sw) (L := L) (d := 6) (fp := (2, x_S X q)) (by decide) (by show 0 < 2 ∧ 2 < 100; decide) f1 1
      rw [y_Mo_readExpression_0 _, d_t hG.2.1, hG.1.2.2.2.1, (mk_1 _).2, (mk_1 _).1, e0]
      rcases hb with e | e | e
      · rw [d_t e]
      · rw [d_f (by omega), d_t e]
      · obtain ⟨a1, a2, -⟩ := mk_v hx hq hG (c := 40) (by decide) (by decide)
        rw [d_f (by omega), d_f (by omega), show g_Mo_isMarked I 40 = true from a1, cond_true, show v_Mo_isMarked I 40 = 1 from a2 e, d_f (by decide)]
  · refine ⟨.inl (1, x_S X q), ⟨by show 0 < 1; decide, by show 1 < 100; decide, hSX⟩, ?_, ?_⟩
    · intro g N sw lv L I k hs hG hk hv
      obtain ⟨f1, f2⟩ := P_fail hr hq (by omega) hG 1
      refine ⟨_, ?_, f2, f1⟩
      rw [y_Rd_readExpr_0 _ hr hu', d_f (by decide), show decide (I 77 4 = 2) = decide (x_K X q = 2) from kk_K hx hr hq hG (c := 2) (by decide), d_f (by omega), show decide (I 77 4 = 1) = decide (x_K X q = 1) from kk_K hx hr hq hG (c := 1) (by decide), d_f (by omega), show decide (I 77 4 = 40) = decide (x_K X q = 40) from kk_K hx hr hq hG (c := 40) (by decide), d_f (by omega), d_t hG.2.1]
      rfl
    · intro g N sw L I k hs hG hk
      obtain ⟨f1, f2⟩ := M_fail hG 1
      refine ⟨_, ?_, f2, f1⟩
      obtain ⟨a1, -, a2⟩ := mk_v hx hq hG (c := 40) (by decide) (by decide)
      rw [y_Mo_readExpression_0 _, d_t hG.2.1, hG.1.2.2.2.1, (mk_1 _).2, (mk_1 _).1, d_f (by omega), d_f (by omega), show g_Mo_isMarked I 40 = true from a1, cond_true, show v_Mo_isMarked I 40 = 0 from a2 (by omega), d_t rfl, d_t hG.2.1]
      exact b157 (g := g) (N := N) (sw := sw) (L := L) (d := 6) (fp := (1, x_S X q)) (by decide) (by show 0 < 1 ∧ 1 < 100; decide) f1 0
/-- an expression from its rows -/
theorem R_expr (hx : x_ok X) (hr : am_isc rc) (hu : ru = rc + cond w 7 6) (hd : d ≤ 5) {m : Nat} (hO : ∀ q, q ≤ X.1 → ∃ r, gd X w q m 0 r ∧ cSp X rc ru w 75 0 (10 * (7 - d) + 7 + 20) [.int 0, .int (Int32.ofNat d), am_u, am_u] q r ∧ (∀ x2, mSp X w 157 62 (10 * (7 - d) + 6 + 20) [.int (Int32.ofNat d), .int x2] q r) ∧ bt X q r) : ∀ q, q ≤ X.1 → ∃ r, gd X w q m 0 r ∧ cSp X rc ru w 74 0 (10 * (7 - d) + 9 + 20) [.int (Int32.ofNat d), am_u] q r ∧ mSp X w 157 0 (10 * (7 - d) + 6 + 20) [.int (Int32.ofNat d), am_u] q r := by
  intro q hq
  have hn := hx.1
  have hu' := (ru_f hr hu).1
  obtain ⟨r, g1, a1, a2, a3⟩ := hO q hq
  refine ⟨r, g1, ?_, ?_⟩
  · intro g N sw lv L I k hs hG hk hv
    obtain ⟨I2, b1, b2, b3⟩ := a1 g N sw lv L I k hs hG hk hv
    refine ⟨I2, ?_, b2, b3⟩
    rw [y_Rd_readExpr_0 _ hr hu', show decide (Int32.ofNat d ≤ 5) = decide (d ≤ 5) from nb_dle (b := 5) (by omega) (by decide), d_t hd, show cond (Nat.ble (Int32.toNatClampNeg 0) 2) (7 - Int32.toNatClampNeg 0) (6 - Int32.toNatClampNeg 0) = 7 from by decide, nb_tn (by omega : d < 100000), bu_, blt_t (by omega), cond_true, b1, am_bd_ok, am_tn, y_Rd_readExpr_69 _ hr hu']
  · intro g N sw L I k hs hG hk
    have e33 : am_R 157 (10 * (7 - d) + 6 + 20) 33 [.ref 147, .int (Int32.ofNat d), am_u] [] (am_hp g N sw w I L) = am_R 157 (10 * (7 - d) + 6 + 20) 62 [.ref 147, .int (Int32.ofNat d), .int 1] [] (am_hp g N sw w I L) := by
      rw [y_Mo_readExpression_33 _, show decide (Int32.ofNat d = 6) = decide (d = 6) from nb_deq (b := 6) (by omega) (by decide), d_f (by omega)]
    by_cases hb : x_K X q = 2 ∨ x_K X q = 1 ∨ x_K X q = 40
    · obtain ⟨I2, b1, b2, b3⟩ := a2 1 g N sw L I k hs hG hk
      refine ⟨I2, ?_, b2, b3⟩
      rw [y_Mo_readExpression_0 _, d_t hG.2.1, hG.1.2.2.2.1, (mk_1 _).2, (mk_1 _).1, e33, b1]
      rcases hb with e | e | e
      · rw [d_t e]
      · rw [d_f (by omega), d_t e]
      · obtain ⟨c1, c2, -⟩ := mk_v hx hq hG (c := 40) (by decide) (by decide)
        rw [d_f (by omega), d_f (by omega), show g_Mo_isMarked I 40 = true from c1, cond_true, show v_Mo_isMarked I 40 = 1 from c2 e, d_f (by decide)]
    · rw [a3 (by omega) (by omega) (by omega)]
      obtain ⟨f1, f2⟩ := M_fail hG 1
      refine ⟨_, ?_, f2, f1⟩
      obtain ⟨c1, -, c2⟩ := mk_v hx hq hG (c := 40) (by decide) (by decide)
      rw [y_Mo_readExpression_0 _, d_t hG.2.1, hG.1.2.2.2.1, (mk_1 _).2, (mk_1 _).1, d_f (by omega), d_f (by omega), show g_Mo_isMarked I 40 = true from c1, cond_true, show v_Mo_isMarked I 40 = 0 from c2 (by omega), d_t rfl, d_t hG.2.1]
      exact b157 (g := g) (N := N) (sw := sw) (L := L) (d := d) (fp := (1, x_S X q)) (by omega) (by show 0 < 1 ∧ 1 < 100; decide) f1 0
/-- expressions of both -/
theorem R_all (hx : x_ok X) (hr : am_isc rc) (hu : ru = rc + cond w 7 6) : ∀ c d, d + c = 6 → ∀ q, q ≤ X.1 → ∃ r, gd X w q (1 + 5 * c) 0 r ∧ cSp X rc ru w 74 0 (10 * (7 - d) + 9 + 20) [.int (Int32.ofNat d), am_u] q r ∧ mSp X w 157 0 (10 * (7 - d) + 6 + 20) [.int (Int32.ofNat d), am_u] q r
  | 0, d, h => by
    have : d = 6 := by omega
    subst this
    exact R_deep hx hr hu 1
  | c + 1, d, h => by
    have ih := R_all hx hr hu c (d + 1) (by omega)
    have h5 := R_or hx hr hu (by omega) (R_and hx hr hu (by omega) (R_test hx hr hu (by omega) (R_sum hx hr hu (by omega) (R_prod hx hr hu (by omega) (R_part hx hr hu (by omega : d ≤ 5) (by omega : 1 ≤ 1 + 5 * c) ih)))))
    exact R_expr hx hr hu (by omega) h5
end EXPR
