/-! PARSING: tests -/
def cTB (X : x_X) (rc ru : Nat) (w : Bool) (d j pc q : Nat) (r : p_R) : Prop := ∀ (g N : Nat) (sw lv : Bool) (L : Nat → Nat → Int64) (I : Nat → Nat → Int32) (k : s_K), sO I → pG X rc q k I → k.1 + j ≤ q → I ru 0 = Int32.ofNat (cond w 7 5) → ∃ I', am_R 76 (10 * (7 - d) + 4 + 20) pc [.ref 76, .ref rc, .ref ru, .int (Int32.ofNat d), .int (Int32.ofNat j), am_u, am_u] [] (am_hp g N sw lv I L) = some (.inl none, am_hp g N sw lv I' L) ∧ fP rc I I' ∧ pE X rc k r I'
def mTB (X : x_X) (w : Bool) (d j pc : Nat) (st : List Value) (q : Nat) (r : p_R) : Prop := ∀ (g N : Nat) (sw : Bool) (L : Nat → Nat → Int64) (I : Nat → Nat → Int32) (k : s_K), sO I → mG X w q k I → k.1 + j ≤ q → ∃ I', am_R 160 (10 * (7 - d) + 4 + 20) pc [.ref 147, .int (Int32.ofNat d), .int (Int32.ofNat j), am_u] st (am_hp g N sw w I L) = some (.inl none, am_hp g N sw w I' L) ∧ fDm w I I' ∧ mE X w k r I'
section TEST
variable {X : x_X} {rc ru : Nat} {w : Bool} {d j : Nat}
theorem pF_of {f pl : Nat} {I I' : Nat → Nat → Int32} (hr : am_isc rc) (h : pF X rc f pl I) (c2 : ∃ m, m ≤ 700 ∧ I' rc 11 = Int32.ofNat m) (c3 : ∀ a, a ≠ rc → a ≠ rc + 8 → I' a = I a) : pF X rc f pl I' := by
  have h1 : rc + 8 ≠ 77 ∧ rc ≠ 77 ∧ rc + 8 ≠ 78 ∧ rc ≠ 78 ∧ rc + 8 ≠ 76 ∧ rc ≠ 76 := by rcases hr with rfl | rfl <;> decide
  obtain ⟨⟨q', hq', t'⟩, f1, f2, -⟩ := h
  exact ⟨⟨q', hq', cT_fr t' (c3 77 (by omega) (by omega)) (c3 78 (by omega) (by omega))⟩, by rw [c3 76 (by omega) (by omega)]; exact f1, by rw [c3 76 (by omega) (by omega)]; exact f2, c2⟩
theorem cNl (hr : am_isc rc) (hu : ru = rc + cond w 7 6) (hj : j ≤ 7) (x5 : Int32) {g N : Nat} {sw lv : Bool} {L : Nat → Nat → Int64} {q : Nat} : ∀ c i (I : Nat → Nat → Int32) (k : s_K), i + c = j → pG X rc q k I → k.1 + c ≤ 700 → ∃ I', am_R 76 (10 * (7 - d) + 4 + 20) 115 [.ref 76, .ref rc, .ref ru, .int (Int32.ofNat d), .int (Int32.ofNat j), .int x5, .int (Int32.ofNat i)] [] (am_hp g N sw lv I L) = some (.inl none, am_hp g N sw lv I' L) ∧ fP rc I I' ∧ pG X rc q (kap k (List.replicate c (-8))) I'
  | 0, i, I, k, hi, hG, hk => by
    have hu' := (ru_f hr hu).1
    refine ⟨I, ?_, fP_rfl, hG⟩
    rw [y_Rd_readTest_115 _ _ _ _ hr hu', nb_dle (by omega) (by omega), d_t (by omega)]
  | c + 1, i, I, k, hi, hG, hk => by
    have hu' := (ru_f hr hu).1
    have c1 := C_addc (z := none) (x := -8) (F := fun I => am_R 76 (10 * (7 - d) + 4 + 20) 115 [.ref 76, .ref rc, .ref ru, .int (Int32.ofNat d), .int (Int32.ofNat j), .int x5, .int (Int32.ofNat (i + 1))] [] (am_hp g N sw lv I L)) hG.2.2 (by omega)
    have c2 := pG_add (c := -8) hr hG
    obtain ⟨I3, d1, d2, d3⟩ := cNl hr hu hj x5 (g := g) (N := N) (sw := sw) (lv := lv) (L := L) c (i + 1) _ _ (by omega) c2 (by show k.1 + 1 + c ≤ 700; omega)
    refine ⟨I3, ?_, fP_tr (fP_adc hr) d2, d3⟩
    rw [y_Rd_readTest_115 _ _ _ _ hr hu', nb_dle (by omega) (by omega), d_f (by omega), nb_s]
    exact c1.trans d1
theorem cNb (hr : am_isc rc) (hu : ru = rc + cond w 7 6) (hj : j ≤ 7) (x5 : Int32) {g N : Nat} {sw lv : Bool} {L : Nat → Nat → Int64} {f pl : Nat} : ∀ c i (I : Nat → Nat → Int32), i + c = j → pF X rc f pl I → ∃ I', am_R 76 (10 * (7 - d) + 4 + 20) 115 [.ref 76, .ref rc, .ref ru, .int (Int32.ofNat d), .int (Int32.ofNat j), .int x5, .int (Int32.ofNat i)] [] (am_hp g N sw lv I L) = some (.inl none, am_hp g N sw lv I' L) ∧ fP rc I I' ∧ pF X rc f pl I'
  | 0, i, I, hi, hG => by
    have hu' := (ru_f hr hu).1
    refine ⟨I, ?_, fP_rfl, hG⟩
    rw [y_Rd_readTest_115 _ _ _ _ hr hu', nb_dle (by omega) (by omega), d_t (by omega)]
  | c + 1, i, I, hi, hG => by
    have hu' := (ru_f hr hu).1
    obtain ⟨m, hm, em⟩ := hG.2.2.2
    obtain ⟨I2, c1, c2, c3, c4⟩ := C_addg (z := none) (x := -8) (F := fun I => am_R 76 (10 * (7 - d) + 4 + 20) 115 [.ref 76, .ref rc, .ref ru, .int (Int32.ofNat d), .int (Int32.ofNat j), .int x5, .int (Int32.ofNat (i + 1))] [] (am_hp g N sw lv I L)) hm em
    obtain ⟨I3, d1, d2, d3⟩ := cNb hr hu hj x5 (g := g) (N := N) (sw := sw) (lv := lv) (L := L) c (i + 1) _ (by omega) (pF_of hr hG c2 c3)
    refine ⟨I3, ?_, fP_tr (fP_of hr c3 c4) d2, d3⟩
    rw [y_Rd_readTest_115 _ _ _ _ hr hu', nb_dle (by omega) (by omega), d_f (by omega), nb_s]
    exact c1.trans d1
/-- bad, before the operator -/
theorem cTb (hx : x_ok X) (hr : am_isc rc) (hu : ru = rc + cond w 7 6) (hj : j ≤ 7) {f pl : Nat} (hf : 0 < f ∧ f < 100) {g N : Nat} {sw lv : Bool} {L : Nat → Nat → Int64} {I : Nat → Nat → Int32} (hs : sO I) (h : pF X rc f pl I) : ∃ I', am_R 76 (10 * (7 - d) + 4 + 20) 69 [.ref 76, .ref rc, .ref ru, .int (Int32.ofNat d), .int (Int32.ofNat j), am_u, am_u] [] (am_hp g N sw lv I L) = some (.inl none, am_hp g N sw lv I' L) ∧ fP rc I I' ∧ pF X rc f pl I' := by
  have hu' := (ru_f hr hu).1
  obtain ⟨q', hq', t'⟩ := h.1
  obtain ⟨I2, a1, a2, a3⟩ := cNb (g := g) (N := N) (sw := sw) (lv := lv) (L := L) hr hu hj (oh X q') j 0 I (by omega) h
  refine ⟨I2, ?_, a2, a3⟩
  rw [y_Rd_readTest_69 _ _ hr hu', C_oh hx hs hq' t', am_bd_ok, am_tl, y_Rd_readTest_73 _ _ _ hr hu', d_f (pF_ne h hf.1 hf.2), y_Rd_readTest_112 _ _ _ hr hu']
  exact a1
theorem cT_in (hr : am_isc rc) (hu : ru = rc + cond w 7 6) (hd : d ≤ 6) {q : Nat} {r : p_R} (h1 : cSp X rc ru w 75 0 (10 * (7 - d) + 3 + 20) [.int 3, .int (Int32.ofNat d), am_u, am_u] q r) {g N : Nat} {sw lv : Bool} {L : Nat → Nat → Int64} {I : Nat → Nat → Int32} {k : s_K} (hs : sO I) (hG : pG X rc q k I) (hk : k.1 + j ≤ q) (hv : I ru 0 = Int32.ofNat (cond w 7 5)) : ∃ I', am_R 76 (10 * (7 - d) + 4 + 20) 61 [.ref 76, .ref rc, .ref ru, .int (Int32.ofNat d), .int (Int32.ofNat j), am_u, am_u] [] (am_hp g N sw lv I L) = am_R 76 (10 * (7 - d) + 4 + 20) 69 [.ref 76, .ref rc, .ref ru, .int (Int32.ofNat d), .int (Int32.ofNat j), am_u, am_u] [] (am_hp g N sw lv I' L) ∧ fP rc I I' ∧ pE X rc k r I' := by
  have hu' := (ru_f hr hu).1
  obtain ⟨I2, b1, b2, b3⟩ := h1 g N sw lv L I k hs hG (by omega) hv
  refine ⟨I2, ?_, b2, b3⟩
  rw [y_Rd_readTest_61 _ _ hr hu', show cond (Nat.ble (Int32.toNatClampNeg 3) 2) (7 - Int32.toNatClampNeg 3) (6 - Int32.toNatClampNeg 3) = 3 from by decide, nb_tn (by omega : d < 100000), bu_, blt_t (by omega), cond_true, b1, am_bd_ok, am_tn]
theorem cT_1 (hx : x_ok X) (hr : am_isc rc) (hu : ru = rc + cond w 7 6) (hd : d ≤ 6) (hj : j ≤ 7) {q : Nat} {fp : Nat × Nat} (h0 : 0 < fp.1 ∧ fp.1 < 100) (h1 : cSp X rc ru w 75 0 (10 * (7 - d) + 3 + 20) [.int 3, .int (Int32.ofNat d), am_u, am_u] q (.inl fp)) : cTB X rc ru w d j 61 q (.inl fp) := by
  intro g N sw lv L I k hs hG hk hv
  obtain ⟨I2, b1, b2, b3⟩ := cT_in (g := g) (N := N) (sw := sw) (lv := lv) (L := L) hr hu hd h1 hs hG hk hv
  obtain ⟨I3, c1, c2, c3⟩ := cTb (g := g) (N := N) (sw := sw) (lv := lv) (L := L) hx hr hu hj h0 (sO_fP hr b2 hs) (show pF X rc fp.1 fp.2 I2 from b3)
  exact ⟨I3, b1.trans c1, fP_tr b2 c2, c3⟩
theorem cT_2 (hx : x_ok X) (hr : am_isc rc) (hu : ru = rc + cond w 7 6) (hd : d ≤ 6) (hj : j ≤ 7) {q q1 m : Nat} {cs : List Int32} (h0 : gd X w q m 0 (.inr (q1, cs))) (h1 : cSp X rc ru w 75 0 (10 * (7 - d) + 3 + 20) [.int 3, .int (Int32.ofNat d), am_u, am_u] q (.inr (q1, cs))) (hlo : lo_ X q1 2 = false) : cTB X rc ru w d j 61 q (.inr (q1, cs ++ List.replicate j (-8))) := by
  intro g N sw lv L I k hs hG hk hv
  have hn := hx.1
  have hu' := (ru_f hr hu).1
  obtain ⟨g1, g2, g3, -⟩ := h0
  dsimp only at g1 g2 g3
  obtain ⟨I2, b1, b2, b3⟩ := cT_in (g := g) (N := N) (sw := sw) (lv := lv) (L := L) hr hu hd h1 hs hG hk hv
  have b3' : pG X rc q1 (kap k cs) I2 := b3
  have k1 := kap_1 cs k
  obtain ⟨I3, c1, c2, c3⟩ := cNl (g := g) (N := N) (sw := sw) (lv := lv) (L := L) (q := q1) hr hu hj (oh X q1) j 0 I2 _ (by omega) b3' (by omega)
  unfold lo_ at hlo
  refine ⟨I3, ?_, fP_tr b2 c2, ?_⟩
  · rw [b1, y_Rd_readTest_69 _ _ hr hu', C_oh hx (sO_fP hr b2 hs) g2 b3'.1, am_bd_ok, am_tl, y_Rd_readTest_73 _ _ _ hr hu', d_t b3'.2.1, hlo, cond_false, y_Rd_readTest_112 _ _ _ hr hu']
    exact c1
  · show pG X rc q1 (kap k (cs ++ List.replicate j (-8))) I3
    rw [kap_ap]
    exact c3
theorem cT_op (hx : x_ok X) (hr : am_isc rc) (hu : ru = rc + cond w 7 6) (hd : d ≤ 6) {q q1 m : Nat} {cs : List Int32} (h0 : gd X w q m 0 (.inr (q1, cs))) (h1 : cSp X rc ru w 75 0 (10 * (7 - d) + 3 + 20) [.int 3, .int (Int32.ofNat d), am_u, am_u] q (.inr (q1, cs))) (hlo : lo_ X q1 2 = true) {r : p_R} (h2 : cSp X rc ru w 75 0 (10 * (7 - d) + 3 + 20) [.int 3, .int (Int32.ofNat d), am_u, am_u] (x_E X q1) r) {g N : Nat} {sw lv : Bool} {L : Nat → Nat → Int64} {I : Nat → Nat → Int32} {k : s_K} (hs : sO I) (hG : pG X rc q k I) (hk : k.1 + j ≤ q) (hv : I ru 0 = Int32.ofNat (cond w 7 5)) : ∃ I', am_R 76 (10 * (7 - d) + 4 + 20) 61 [.ref 76, .ref rc, .ref ru, .int (Int32.ofNat d), .int (Int32.ofNat j), am_u, am_u] [] (am_hp g N sw lv I L) = am_R 76 (10 * (7 - d) + 4 + 20) 106 [.ref 76, .ref rc, .ref ru, .int (Int32.ofNat d), .int (Int32.ofNat j), .int (oh X q1), am_u] [] (am_hp g N sw lv I' L) ∧ fP rc I I' ∧ pE X rc (kap k cs) r I' := by
  have hn := hx.1
  have hu' := (ru_f hr hu).1
  obtain ⟨g1, g2, g3, -⟩ := h0
  dsimp only at g1 g2 g3
  obtain ⟨I2, b1, b2, b3⟩ := cT_in (g := g) (N := N) (sw := sw) (lv := lv) (L := L) hr hu hd h1 hs hG hk hv
  have b3' : pG X rc q1 (kap k cs) I2 := b3
  have k1 := kap_1 cs k
  have hE := x_E_le (X := X) g2
  have hs2 := sO_fP hr b2 hs
  obtain ⟨I3, c1, c2, c3, c4⟩ := P_step (g := g) (N := N) (sw := sw) (lv := lv) (L := L) hx hr hs2 g2 b3'
  obtain ⟨I4, d1, d2, d3⟩ := h2 g N sw lv L I3 _ c4 c2 (by omega) (fP_ru hr hu (fP_tr b2 c3) hv)
  unfold lo_ at hlo
  refine ⟨I4, ?_, fP_tr (fP_tr b2 c3) d2, d3⟩
  rw [b1, y_Rd_readTest_69 _ _ hr hu', C_oh hx hs2 g2 b3'.1, am_bd_ok, am_tl, y_Rd_readTest_73 _ _ _ hr hu', d_t b3'.2.1, hlo, cond_true, c1, am_bd_ok, am_tn, y_Rd_readTest_98 _ _ _ hr hu', show cond (Nat.ble (Int32.toNatClampNeg 3) 2) (7 - Int32.toNatClampNeg 3) (6 - Int32.toNatClampNeg 3) = 3 from by decide, nb_tn (by omega : d < 100000), bu_, blt_t (by omega), cond_true, d1, am_bd_ok, am_tn]
theorem cT_3 (hx : x_ok X) (hr : am_isc rc) (hu : ru = rc + cond w 7 6) (hd : d ≤ 6) (hj : j ≤ 7) {q q1 m : Nat} {cs : List Int32} (h0 : gd X w q m 0 (.inr (q1, cs))) (h1 : cSp X rc ru w 75 0 (10 * (7 - d) + 3 + 20) [.int 3, .int (Int32.ofNat d), am_u, am_u] q (.inr (q1, cs))) (hlo : lo_ X q1 2 = true) {fp : Nat × Nat} (hf : 0 < fp.1 ∧ fp.1 < 100) (h2 : cSp X rc ru w 75 0 (10 * (7 - d) + 3 + 20) [.int 3, .int (Int32.ofNat d), am_u, am_u] (x_E X q1) (.inl fp)) : cTB X rc ru w d j 61 q (.inl fp) := by
  intro g N sw lv L I k hs hG hk hv
  have hu' := (ru_f hr hu).1
  obtain ⟨I2, b1, b2, b3⟩ := cT_op (g := g) (N := N) (sw := sw) (lv := lv) (L := L) hx hr hu hd h0 h1 hlo h2 hs hG hk hv
  have b3' : pF X rc fp.1 fp.2 I2 := b3
  obtain ⟨m, hm, em⟩ := b3'.2.2.2
  obtain ⟨I3, c1, c2, c3, c4⟩ := C_addg (z := none) (x := oh X q1) (F := fun I => am_R 76 (10 * (7 - d) + 4 + 20) 112 [.ref 76, .ref rc, .ref ru, .int (Int32.ofNat d), .int (Int32.ofNat j), .int (oh X q1), am_u] [] (am_hp g N sw lv I L)) hm em
  obtain ⟨I4, d1, d2, d3⟩ := cNb (g := g) (N := N) (sw := sw) (lv := lv) (L := L) hr hu hj (oh X q1) j 0 I3 (by omega) (pF_of hr b3' c2 c3)
  refine ⟨I4, ?_, fP_tr (fP_tr b2 (fP_of hr c3 c4)) d2, d3⟩
  rw [b1, y_Rd_readTest_106 _ _ _ hr hu']
  refine c1.trans ?_
  show am_R 76 (10 * (7 - d) + 4 + 20) 112 [.ref 76, .ref rc, .ref ru, .int (Int32.ofNat d), .int (Int32.ofNat j), .int (oh X q1), am_u] [] (am_hp g N sw lv I3 L) = _
  rw [y_Rd_readTest_112 _ _ _ hr hu']
  exact d1
theorem cT_4 (hx : x_ok X) (hr : am_isc rc) (hu : ru = rc + cond w 7 6) (hd : d ≤ 6) (hj : j ≤ 7) {q q1 q3 m m' : Nat} {cs c3 : List Int32} (h0 : gd X w q m 0 (.inr (q1, cs))) (h1 : cSp X rc ru w 75 0 (10 * (7 - d) + 3 + 20) [.int 3, .int (Int32.ofNat d), am_u, am_u] q (.inr (q1, cs))) (hlo : lo_ X q1 2 = true) (h0' : gd X w (x_E X q1) m' 0 (.inr (q3, c3))) (h2 : cSp X rc ru w 75 0 (10 * (7 - d) + 3 + 20) [.int 3, .int (Int32.ofNat d), am_u, am_u] (x_E X q1) (.inr (q3, c3))) : cTB X rc ru w d j 61 q (.inr (q3, cs ++ (c3 ++ (oh X q1 :: List.replicate j (-8))))) := by
  intro g N sw lv L I k hs hG hk hv
  have hn := hx.1
  have hu' := (ru_f hr hu).1
  obtain ⟨g1, g2, g3, -⟩ := id h0
  obtain ⟨g4, g5, g6, -⟩ := id h0'
  dsimp only at g1 g2 g3 g4 g5 g6
  have hE := x_E_lt g2 (lo_K (by decide) hlo).1
  obtain ⟨I2, b1, b2, b3⟩ := cT_op (g := g) (N := N) (sw := sw) (lv := lv) (L := L) hx hr hu hd h0 h1 hlo h2 hs hG hk hv
  have b3' : pG X rc q3 (kap (kap k cs) c3) I2 := b3
  have k1 := kap_1 cs k
  have k2 := kap_1 c3 (kap k cs)
  have e1 := C_addc (z := none) (x := oh X q1) (F := fun I => am_R 76 (10 * (7 - d) + 4 + 20) 112 [.ref 76, .ref rc, .ref ru, .int (Int32.ofNat d), .int (Int32.ofNat j), .int (oh X q1), am_u] [] (am_hp g N sw lv I L)) b3'.2.2 (by omega)
  have e2 := pG_add (c := oh X q1) hr b3'
  obtain ⟨I4, d1, d2, d3⟩ := cNl (g := g) (N := N) (sw := sw) (lv := lv) (L := L) (q := q3) hr hu hj (oh X q1) j 0 _ _ (by omega) e2 (by show (kap (kap k cs) c3).1 + 1 + j ≤ 700; omega)
  refine ⟨I4, ?_, fP_tr (fP_tr b2 (fP_adc hr)) d2, ?_⟩
  · rw [b1, y_Rd_readTest_106 _ _ _ hr hu']
    refine e1.trans ?_
    show am_R 76 (10 * (7 - d) + 4 + 20) 112 [.ref 76, .ref rc, .ref ru, .int (Int32.ofNat d), .int (Int32.ofNat j), .int (oh X q1), am_u] [] (am_hp g N sw lv _ L) = _
    rw [y_Rd_readTest_112 _ _ _ hr hu']
    exact d1
  · show pG X rc q3 (kap k (cs ++ (c3 ++ (oh X q1 :: List.replicate j (-8))))) I4
    rw [kap_ap, kap_ap]
    exact d3
/-- the class's nots -/
theorem c_n1 (hx : x_ok X) (hr : am_isc rc) (hu : ru = rc + cond w 7 6) (hj : j < 6) {q : Nat} (hq : q ≤ X.1) (hw : wd (st_l 40) X q = true) {r : p_R} (h : cTB X rc ru w d (j + 1) 3 (x_E X q) r) : cTB X rc ru w d j 3 q r := by
  intro g N sw lv L I k hs hG hk hv
  have hu' := (ru_f hr hu).1
  have hK : x_K X q ≠ 0 := by
    intro e
    rw [wd_K (by omega)] at hw
    cases hw
  have hE := x_E_lt hq hK
  obtain ⟨I1, a1, a2, a3, a4⟩ := P_step (g := g) (N := N) (sw := sw) (lv := lv) (L := L) hx hr hs hq hG
  obtain ⟨I2, b1, b2, b3⟩ := h g N sw lv L I1 k a4 a2 (by omega) (fP_ru hr hu a3 hv)
  obtain ⟨-, -, -, -, -, -, w7, -⟩ := w_is
  refine ⟨I2, ?_, fP_tr a3 b2, b3⟩
  rw [y_Rd_readTest_3 _ _ hr hu', nb_ge6 (by omega), d_f (by omega), C_isW hx hG.1 hq hs w7, show st_l (am_tx 7) = st_l 40 from rfl, hw, am_bd_ok, am_tl, y_Rd_readTest_20 _ _ _ hr hu', i_b0, Bool.not_true, cond_false, a1, am_bd_ok, am_tn, y_Rd_readTest_30 _ _ hr hu', nb_s]
  exact b1
theorem c_n0 (hx : x_ok X) (hr : am_isc rc) (hu : ru = rc + cond w 7 6) (hj : j ≤ 6) {q : Nat} (hq : q ≤ X.1) (hw : wd (st_l 40) X q = false) {r : p_R} (h : cTB X rc ru w d j 61 q r) : cTB X rc ru w d j 3 q r := by
  intro g N sw lv L I k hs hG hk hv
  have hu' := (ru_f hr hu).1
  obtain ⟨I2, b1, b2, b3⟩ := h g N sw lv L I k hs hG hk hv
  obtain ⟨-, -, -, -, -, -, w7, -⟩ := w_is
  refine ⟨I2, ?_, b2, b3⟩
  rw [y_Rd_readTest_3 _ _ hr hu', nb_ge6 (by omega), C_isW hx hG.1 hq hs w7, show st_l (am_tx 7) = st_l 40 from rfl, hw, am_bd_ok, am_tl, y_Rd_readTest_20 _ _ _ hr hu', i_b0, Bool.not_false, cond_true, y_Rd_readTest_36 _ _ hr hu', C_isW hx hG.1 hq hs w7, show st_l (am_tx 7) = st_l 40 from rfl, hw, am_bd_ok, am_tl, y_Rd_readTest_53 _ _ _ hr hu', i_b0, Bool.not_false, cond_true, b1]
  cases decide (6 ≤ j) <;> cases decide (Int32.ofNat j = 6) <;> rfl
theorem c_n7 (hx : x_ok X) (hr : am_isc rc) (hu : ru = rc + cond w 7 6) (hd : d ≤ 6) {q : Nat} (hq : q ≤ X.1) (hw : wd (st_l 40) X q = true) : cTB X rc ru w d 6 3 q (.inl (2, x_S X q)) := by
  intro g N sw lv L I k hs hG hk hv
  have hn := hx.1
  have hu' := (ru_f hr hu).1
  obtain ⟨f1, f2⟩ := P_fail hr hq (by omega) hG 2
  obtain ⟨I3, c1, c2, c3⟩ := cTb (g := g) (N := N) (sw := sw) (lv := lv) (L := L) (d := d) (j := 6) hx hr hu (by decide) (f := 2) (by decide) (sO_fP hr f2 hs) f1
  obtain ⟨-, -, -, -, -, -, w7, -⟩ := w_is
  have e1 : am_R 76 (10 * (7 - d) + 4 + 20) 61 [.ref 76, .ref rc, .ref ru, .int (Int32.ofNat d), .int (Int32.ofNat 6), am_u, am_u] [] (am_hp g N sw lv (am_up (am_up I 76 (upd (I 76) 1 (Int32.ofNat 2))) 76 (upd (upd (I 76) 1 (Int32.ofNat 2)) 2 (I 77 5))) L) = some (.inl none, am_hp g N sw lv I3 L) := by
    rw [y_Rd_readTest_61 _ _ hr hu', show cond (Nat.ble (Int32.toNatClampNeg 3) 2) (7 - Int32.toNatClampNeg 3) (6 - Int32.toNatClampNeg 3) = 3 from by decide, nb_tn (by omega : d < 100000), bu_, blt_t (by omega), cond_true, y_Rd_readLevel_0 _ _ hr hu', d_f (pF_ne f1 (by decide) (by decide)), am_bd_ok, am_tn]
    exact c1
  refine ⟨I3, ?_, fP_tr f2 c2, c3⟩
  rw [y_Rd_readTest_3 _ _ hr hu', nb_ge6 (by decide), d_t (by decide), y_Rd_readTest_36 _ _ hr hu', d_t (by decide), C_isW hx hG.1 hq hs w7, show st_l (am_tx 7) = st_l 40 from rfl, hw, am_bd_ok, am_tl, y_Rd_readTest_53 _ _ _ hr hu', i_b0, Bool.not_true, cond_false, d_t hG.2.1]
  exact e1
/-- the reference's -/
theorem mNl (hj : j ≤ 7) {g N : Nat} {sw : Bool} {L : Nat → Nat → Int64} {q : Nat} : ∀ c i (I : Nat → Nat → Int32) (k : s_K), i + c = j → mG X w q k I → k.1 + c ≤ 700 → ∃ I', am_R 160 (10 * (7 - d) + 4 + 20) 95 [.ref 147, .int (Int32.ofNat d), .int (Int32.ofNat j), .int (Int32.ofNat i)] [] (am_hp g N sw w I L) = some (.inl none, am_hp g N sw w I' L) ∧ fDm w I I' ∧ mG X w q (kap k (List.replicate c (-8))) I'
  | 0, i, I, k, hi, hG, hk => by
    refine ⟨I, ?_, fDm_rfl, hG⟩
    rw [y_Mo_readNot_95 _ _ _, nb_dle (by omega) (by omega), d_t (by omega)]
  | c + 1, i, I, k, hi, hG, hk => by
    have c1 := M_layc (z := none) (x := mc (-8)) (F := fun I => am_R 160 (10 * (7 - d) + 4 + 20) 95 [.ref 147, .int (Int32.ofNat d), .int (Int32.ofNat j), .int (Int32.ofNat (i + 1))] [] (am_hp g N sw w I L)) hG.2.2 hG.2.1 (by omega)
    have c2 := mG_lay (c := -8) hG
    obtain ⟨I3, d1, d2, d3⟩ := mNl hj (g := g) (N := N) (sw := sw) (L := L) c (i + 1) _ _ (by omega) c2 (by show k.1 + 1 + c ≤ 700; omega)
    refine ⟨I3, ?_, fDm_tr fDm_lay d2, d3⟩
    rw [y_Mo_readNot_95 _ _ _, nb_dle (by omega) (by omega), d_f (by omega), nb_s, ← show mc (-8) = -28 from by decide]
    exact c1.trans d1
theorem mNb (hj : j ≤ 7) {g N : Nat} {sw : Bool} {L : Nat → Nat → Int64} {I : Nat → Nat → Int32} (h : I 147 23 ≠ 0) : ∀ c i, i + c = j → am_R 160 (10 * (7 - d) + 4 + 20) 95 [.ref 147, .int (Int32.ofNat d), .int (Int32.ofNat j), .int (Int32.ofNat i)] [] (am_hp g N sw w I L) = some (.inl none, am_hp g N sw w I L)
  | 0, i, hi => by rw [y_Mo_readNot_95 _ _ _, nb_dle (by omega) (by omega), d_t (by omega)]
  | c + 1, i, hi => by
    rw [y_Mo_readNot_95 _ _ _, nb_dle (by omega) (by omega), d_f (by omega), d_f h, nb_s]
    exact mNb hj h c (i + 1) (by omega)
theorem mTb (hj : j ≤ 7) {g N : Nat} {sw : Bool} {L : Nat → Nat → Int64} {I : Nat → Nat → Int32} (h : I 147 23 ≠ 0) : am_R 160 (10 * (7 - d) + 4 + 20) 44 [.ref 147, .int (Int32.ofNat d), .int (Int32.ofNat j), am_u] [] (am_hp g N sw w I L) = some (.inl none, am_hp g N sw w I L) := by
  obtain ⟨a1, a2⟩ := M_mk' h 60
  obtain ⟨b1, b2⟩ := M_mk' h 61
  rw [y_Mo_readNot_44 _ _, a1, cond_true, a2, d_t rfl, b1, cond_true, b2, d_t rfl, y_Mo_readNot_93 _ _ _]
  exact mNb hj h j 0 (by omega)
theorem mT_in (hd : d ≤ 6) {q : Nat} {r : p_R} (h1 : mSp X w 161 0 (10 * (7 - d) + 3 + 20) [.int (Int32.ofNat d), am_u] q r) {g N : Nat} {sw : Bool} {L : Nat → Nat → Int64} {I : Nat → Nat → Int32} {k : s_K} (hs : sO I) (hG : mG X w q k I) (hk : k.1 + j ≤ q) : ∃ I', am_R 160 (10 * (7 - d) + 4 + 20) 8 [.ref 147, .int (Int32.ofNat d), .int (Int32.ofNat j), am_u] [.int 0] (am_hp g N sw w I L) = am_R 160 (10 * (7 - d) + 4 + 20) 44 [.ref 147, .int (Int32.ofNat d), .int (Int32.ofNat j), am_u] [] (am_hp g N sw w I' L) ∧ fDm w I I' ∧ mE X w k r I' := by
  obtain ⟨I2, b1, b2, b3⟩ := h1 g N sw L I k hs hG (by omega)
  refine ⟨I2, ?_, b2, b3⟩
  rw [y_Mo_readNot_8 _ _ _, d_t rfl, nb_tn (by omega : d < 100000), bu_, blt_t (by omega), cond_true, b1, am_bd_ok, am_tn]
theorem mT_1 (hd : d ≤ 6) (hj : j ≤ 7) {q : Nat} {fp : Nat × Nat} (h0 : 0 < fp.1 ∧ fp.1 < 100) (h1 : mSp X w 161 0 (10 * (7 - d) + 3 + 20) [.int (Int32.ofNat d), am_u] q (.inl fp)) : mTB X w d j 8 [.int 0] q (.inl fp) := by
  intro g N sw L I k hs hG hk
  obtain ⟨I2, b1, b2, b3⟩ := mT_in (g := g) (N := N) (sw := sw) (L := L) hd h1 hs hG hk
  have b3' : mF fp.1 fp.2 I2 := b3
  exact ⟨I2, b1.trans (mTb hj (mF_ne b3' h0.1 h0.2)), b2, b3⟩
theorem mT_2 (hx : x_ok X) (hd : d ≤ 6) (hj : j ≤ 7) {q q1 m : Nat} {cs : List Int32} (h0 : gd X w q m 0 (.inr (q1, cs))) (h1 : mSp X w 161 0 (10 * (7 - d) + 3 + 20) [.int (Int32.ofNat d), am_u] q (.inr (q1, cs))) (hlo : lo_ X q1 2 = false) : mTB X w d j 8 [.int 0] q (.inr (q1, cs ++ List.replicate j (-8))) := by
  intro g N sw L I k hs hG hk
  have hn := hx.1
  obtain ⟨g1, g2, g3, -⟩ := h0
  dsimp only at g1 g2 g3
  obtain ⟨I2, b1, b2, b3⟩ := mT_in (g := g) (N := N) (sw := sw) (L := L) hd h1 hs hG hk
  have b3' : mG X w q1 (kap k cs) I2 := b3
  have k1 := kap_1 cs k
  obtain ⟨I3, c1, c2, c3⟩ := mNl (g := g) (N := N) (sw := sw) (L := L) (d := d) (q := q1) hj j 0 I2 _ (by omega) b3' (by omega)
  obtain ⟨n1, n2⟩ := lo2_f hlo
  obtain ⟨a1, -, a2⟩ := mk_v hx g2 b3' (c := 60) (by decide) (by decide)
  obtain ⟨e1, -, e2⟩ := mk_v hx g2 b3' (c := 61) (by decide) (by decide)
  refine ⟨I3, ?_, fDm_tr b2 c2, ?_⟩
  · rw [b1, y_Mo_readNot_44 _ _, show g_Mo_isMarked I2 60 = true from a1, cond_true, show v_Mo_isMarked I2 60 = 0 from a2 n1, d_t rfl, show g_Mo_isMarked I2 61 = true from e1, cond_true, show v_Mo_isMarked I2 61 = 0 from e2 n2, d_t rfl, y_Mo_readNot_93 _ _ _]
    exact c1
  · show mG X w q1 (kap k (cs ++ List.replicate j (-8))) I3
    rw [kap_ap]
    exact c3
theorem mT_op (hx : x_ok X) (hd : d ≤ 6) {q q1 m : Nat} {cs : List Int32} (h0 : gd X w q m 0 (.inr (q1, cs))) (h1 : mSp X w 161 0 (10 * (7 - d) + 3 + 20) [.int (Int32.ofNat d), am_u] q (.inr (q1, cs))) (hlo : lo_ X q1 2 = true) {r : p_R} (h2 : mSp X w 161 0 (10 * (7 - d) + 3 + 20) [.int (Int32.ofNat d), am_u] (x_E X q1) r) {g N : Nat} {sw : Bool} {L : Nat → Nat → Int64} {I : Nat → Nat → Int32} {k : s_K} (hs : sO I) (hG : mG X w q k I) (hk : k.1 + j ≤ q) : ∃ I', am_R 160 (10 * (7 - d) + 4 + 20) 8 [.ref 147, .int (Int32.ofNat d), .int (Int32.ofNat j), am_u] [.int 0] (am_hp g N sw w I L) = am_R 160 (10 * (7 - d) + 4 + 20) 88 [.ref 147, .int (Int32.ofNat d), .int (Int32.ofNat j), .int (mc (oh X q1))] [] (am_hp g N sw w I' L) ∧ fDm w I I' ∧ mE X w (kap k cs) r I' := by
  have hn := hx.1
  obtain ⟨g1, g2, g3, -⟩ := h0
  dsimp only at g1 g2 g3
  obtain ⟨I2, b1, b2, b3⟩ := mT_in (g := g) (N := N) (sw := sw) (L := L) hd h1 hs hG hk
  have b3' : mG X w q1 (kap k cs) I2 := b3
  have k1 := kap_1 cs k
  have hE := x_E_le (X := X) g2
  have hs2 := sO_fD b2 hs
  obtain ⟨I3, c1, c2, c3, c4⟩ := M_stp (g := g) (N := N) (sw := sw) (L := L) (lv := w) hx hs2 g2 b3'
  obtain ⟨I4, d1, d2, d3⟩ := h2 g N sw L I3 _ c4 c2 (by omega)
  obtain ⟨a1, a3, a2⟩ := mk_v hx g2 b3' (c := 60) (by decide) (by decide)
  obtain ⟨e1, e3, e2⟩ := mk_v hx g2 b3' (c := 61) (by decide) (by decide)
  refine ⟨I4, ?_, fDm_tr (fDm_tr b2 c3) d2, d3⟩
  rcases oh_2 hlo with e | e
  · rw [b1, y_Mo_readNot_44 _ _, show g_Mo_isMarked I2 60 = true from a1, cond_true, show v_Mo_isMarked I2 60 = 1 from a3 e.1, d_f (by decide), y_Mo_readNot_62 _ _, show g_Mo_isMarked I2 60 = true from a1, cond_true, show v_Mo_isMarked I2 60 = 1 from a3 e.1, d_f (by decide), c1, am_bd_ok, am_tn, y_Mo_readNot_83 _ _ _, nb_tn (by omega : d < 100000), bu_, blt_t (by omega), cond_true, d1, am_bd_ok, am_tn, e.2]
  · rw [b1, y_Mo_readNot_44 _ _, show g_Mo_isMarked I2 60 = true from a1, cond_true, show v_Mo_isMarked I2 60 = 0 from a2 (by omega), d_t rfl, show g_Mo_isMarked I2 61 = true from e1, cond_true, show v_Mo_isMarked I2 61 = 1 from e3 e.1, d_f (by decide), y_Mo_readNot_62 _ _, show g_Mo_isMarked I2 60 = true from a1, cond_true, show v_Mo_isMarked I2 60 = 0 from a2 (by omega), d_t rfl, c1, am_bd_ok, am_tn, y_Mo_readNot_83 _ _ _, nb_tn (by omega : d < 100000), bu_, blt_t (by omega), cond_true, d1, am_bd_ok, am_tn, e.2]
theorem mT_3 (hx : x_ok X) (hd : d ≤ 6) (hj : j ≤ 7) {q q1 m : Nat} {cs : List Int32} (h0 : gd X w q m 0 (.inr (q1, cs))) (h1 : mSp X w 161 0 (10 * (7 - d) + 3 + 20) [.int (Int32.ofNat d), am_u] q (.inr (q1, cs))) (hlo : lo_ X q1 2 = true) {fp : Nat × Nat} (hf : 0 < fp.1 ∧ fp.1 < 100) (h2 : mSp X w 161 0 (10 * (7 - d) + 3 + 20) [.int (Int32.ofNat d), am_u] (x_E X q1) (.inl fp)) : mTB X w d j 8 [.int 0] q (.inl fp) := by
  intro g N sw L I k hs hG hk
  obtain ⟨I2, b1, b2, b3⟩ := mT_op (g := g) (N := N) (sw := sw) (L := L) hx hd h0 h1 hlo h2 hs hG hk
  have b3' : mF fp.1 fp.2 I2 := b3
  have hb := mF_ne b3' hf.1 hf.2
  refine ⟨I2, ?_, b2, b3⟩
  rw [b1, y_Mo_readNot_88 _ _ _, d_f hb, y_Mo_readNot_93 _ _ _]
  exact mNb hj hb j 0 (by omega)
theorem mT_4 (hx : x_ok X) (hd : d ≤ 6) (hj : j ≤ 7) {q q1 q3 m m' : Nat} {cs c3 : List Int32} (h0 : gd X w q m 0 (.inr (q1, cs))) (h1 : mSp X w 161 0 (10 * (7 - d) + 3 + 20) [.int (Int32.ofNat d), am_u] q (.inr (q1, cs))) (hlo : lo_ X q1 2 = true) (h0' : gd X w (x_E X q1) m' 0 (.inr (q3, c3))) (h2 : mSp X w 161 0 (10 * (7 - d) + 3 + 20) [.int (Int32.ofNat d), am_u] (x_E X q1) (.inr (q3, c3))) : mTB X w d j 8 [.int 0] q (.inr (q3, cs ++ (c3 ++ (oh X q1 :: List.replicate j (-8))))) := by
  intro g N sw L I k hs hG hk
  have hn := hx.1
  obtain ⟨g1, g2, g3, -⟩ := id h0
  obtain ⟨g4, g5, g6, -⟩ := id h0'
  dsimp only at g1 g2 g3 g4 g5 g6
  have hE := x_E_lt g2 (lo_K (by decide) hlo).1
  obtain ⟨I2, b1, b2, b3⟩ := mT_op (g := g) (N := N) (sw := sw) (L := L) hx hd h0 h1 hlo h2 hs hG hk
  have b3' : mG X w q3 (kap (kap k cs) c3) I2 := b3
  have k1 := kap_1 cs k
  have k2 := kap_1 c3 (kap k cs)
  have e1 := M_layc (z := none) (x := mc (oh X q1)) (F := fun I => am_R 160 (10 * (7 - d) + 4 + 20) 93 [.ref 147, .int (Int32.ofNat d), .int (Int32.ofNat j), .int (mc (oh X q1))] [] (am_hp g N sw w I L)) b3'.2.2 b3'.2.1 (by omega)
  have e2 := mG_lay (c := oh X q1) b3'
  obtain ⟨I4, d1, d2, d3⟩ := mNl (g := g) (N := N) (sw := sw) (L := L) (d := d) (q := q3) hj j 0 _ _ (by omega) e2 (by show (kap (kap k cs) c3).1 + 1 + j ≤ 700; omega)
  refine ⟨I4, ?_, fDm_tr (fDm_tr b2 fDm_lay) d2, ?_⟩
  · rw [b1, y_Mo_readNot_88 _ _ _]
    refine e1.trans ?_
    show am_R 160 (10 * (7 - d) + 4 + 20) 93 [.ref 147, .int (Int32.ofNat d), .int (Int32.ofNat j), .int (mc (oh X q1))] [] (am_hp g N sw w _ L) = _
    rw [y_Mo_readNot_93 _ _ _]
    exact d1
  · show mG X w q3 (kap k (cs ++ (c3 ++ (oh X q1 :: List.replicate j (-8))))) I4
    rw [kap_ap, kap_ap]
    exact d3
theorem m_n1 (hx : x_ok X) (hj : j < 6) {q : Nat} (hq : q ≤ X.1) (hw : wd (st_l 40) X q = true) {r : p_R} (h : mTB X w d (j + 1) 2 [] (x_E X q) r) : mTB X w d j 2 [] q r := by
  intro g N sw L I k hs hG hk
  have hK : x_K X q ≠ 0 := by
    intro e
    rw [wd_K (by omega)] at hw
    cases hw
  have hE := x_E_lt hq hK
  obtain ⟨I1, a1, a2, a3, a4⟩ := M_stp (g := g) (N := N) (sw := sw) (L := L) (lv := w) hx hs hq hG
  obtain ⟨I2, b1, b2, b3⟩ := h g N sw L I1 k a4 a2 (by omega)
  refine ⟨I2, ?_, fDm_tr a3 b2, b3⟩
  rw [y_Mo_readNot_2 _ _, M_is hx hG.1 hG.2.1 hq hs ist_40, hw, am_bd_ok, am_tl, y_Mo_readNot_8 _ _ _, i_b0, Bool.not_true, cond_false, show decide (Int32.ofNat j = 6) = decide (j = 6) from nb_deq (b := 6) (by omega) (by decide), d_f (by omega), y_Mo_readNot_22 _ _, d_t hG.2.1, a1, am_bd_ok, am_tn, y_Mo_readNot_36 _ _, nb_s]
  exact b1
theorem m_n0 (hx : x_ok X) {q : Nat} (hq : q ≤ X.1) (hw : wd (st_l 40) X q = false) {r : p_R} (h : mTB X w d j 8 [.int 0] q r) : mTB X w d j 2 [] q r := by
  intro g N sw L I k hs hG hk
  obtain ⟨I2, b1, b2, b3⟩ := h g N sw L I k hs hG hk
  refine ⟨I2, ?_, b2, b3⟩
  rw [y_Mo_readNot_2 _ _, M_is hx hG.1 hG.2.1 hq hs ist_40, hw, am_bd_ok, am_tl]
  exact b1
/-- the reference, bad -/
theorem b163 (hd : d ≤ 6) {fp : Nat × Nat} (h0 : 0 < fp.1 ∧ fp.1 < 100) {g N : Nat} {sw : Bool} {L : Nat → Nat → Int64} {I : Nat → Nat → Int32} (h : mF fp.1 fp.2 I) : am_R 163 (10 * (7 - d) + 1 + 20) 0 [.ref 147, .int (Int32.ofNat d), am_u] [] (am_hp g N sw w I L) = some (.inl none, am_hp g N sw w I L) := by
  rw [y_Mo_readPart_0 _, d_f (mF_ne h h0.1 h0.2)]
theorem b162 (hd : d ≤ 6) {fp : Nat × Nat} (h0 : 0 < fp.1 ∧ fp.1 < 100) {g N : Nat} {sw : Bool} {L : Nat → Nat → Int64} {I : Nat → Nat → Int32} (h : mF fp.1 fp.2 I) : am_R 162 (10 * (7 - d) + 2 + 20) 0 [.ref 147, .int (Int32.ofNat d), am_u] [] (am_hp g N sw w I L) = some (.inl none, am_hp g N sw w I L) := by
  rw [y_Mo_readProduct_0 _, nb_tn (by omega : d < 100000), bu_, blt_t (by omega), cond_true, b163 hd h0 h, am_bd_ok, am_tn, mP_bad h0 h]
theorem b161 (hd : d ≤ 6) {fp : Nat × Nat} (h0 : 0 < fp.1 ∧ fp.1 < 100) {g N : Nat} {sw : Bool} {L : Nat → Nat → Int64} {I : Nat → Nat → Int32} (h : mF fp.1 fp.2 I) : am_R 161 (10 * (7 - d) + 3 + 20) 0 [.ref 147, .int (Int32.ofNat d), am_u] [] (am_hp g N sw w I L) = some (.inl none, am_hp g N sw w I L) := by
  rw [y_Mo_readSum_0 _, nb_tn (by omega : d < 100000), bu_, blt_t (by omega), cond_true, b162 hd h0 h, am_bd_ok, am_tn, mS_bad h0 h]
theorem b160' (hd : d ≤ 6) (hj : j ≤ 7) {fp : Nat × Nat} (h0 : 0 < fp.1 ∧ fp.1 < 100) {g N : Nat} {sw : Bool} {L : Nat → Nat → Int64} {I : Nat → Nat → Int32} (h : mF fp.1 fp.2 I) : am_R 160 (10 * (7 - d) + 4 + 20) 2 [.ref 147, .int (Int32.ofNat d), .int (Int32.ofNat j), am_u] [] (am_hp g N sw w I L) = some (.inl none, am_hp g N sw w I L) := by
  have hb := mF_ne h h0.1 h0.2
  rw [y_Mo_readNot_2 _ _, M_is' hb ist_40, am_bd_ok, am_tl, y_Mo_readNot_8 _ _ _, d_t rfl, nb_tn (by omega : d < 100000), bu_, blt_t (by omega), cond_true, b161 hd h0 h, am_bd_ok, am_tn, mTb hj hb]
theorem b160 (hd : d ≤ 6) {fp : Nat × Nat} (h0 : 0 < fp.1 ∧ fp.1 < 100) {g N : Nat} {sw : Bool} {L : Nat → Nat → Int64} {I : Nat → Nat → Int32} (h : mF fp.1 fp.2 I) : am_R 160 (10 * (7 - d) + 4 + 20) 0 [.ref 147, .int (Int32.ofNat d), am_u, am_u] [] (am_hp g N sw w I L) = some (.inl none, am_hp g N sw w I L) := by
  rw [y_Mo_readNot_0 _]
  exact b160' (j := 0) hd (by decide) h0 h
theorem b159 (hd : d ≤ 6) {fp : Nat × Nat} (h0 : 0 < fp.1 ∧ fp.1 < 100) {g N : Nat} {sw : Bool} {L : Nat → Nat → Int64} {I : Nat → Nat → Int32} (h : mF fp.1 fp.2 I) : am_R 159 (10 * (7 - d) + 5 + 20) 0 [.ref 147, .int (Int32.ofNat d)] [] (am_hp g N sw w I L) = some (.inl none, am_hp g N sw w I L) := by
  rw [y_Mo_readAnd_0 _, nb_tn (by omega : d < 100000), bu_, blt_t (by omega), cond_true, b160 hd h0 h, am_bd_ok, am_tn, mA_bad h0 h]
theorem b157 (hd : d ≤ 6) {fp : Nat × Nat} (h0 : 0 < fp.1 ∧ fp.1 < 100) {g N : Nat} {sw : Bool} {L : Nat → Nat → Int64} {I : Nat → Nat → Int32} (h : mF fp.1 fp.2 I) (x2 : Int32) : am_R 157 (10 * (7 - d) + 6 + 20) 62 [.ref 147, .int (Int32.ofNat d), .int x2] [] (am_hp g N sw w I L) = some (.inl none, am_hp g N sw w I L) := by
  rw [y_Mo_readExpression_62 _ _, nb_tn (by omega : d < 100000), bu_, blt_t (by omega), cond_true, b159 hd h0 h, am_bd_ok, am_tn, mX_bad h0 h]
theorem m_n7 (hx : x_ok X) (hd : d ≤ 6) {q : Nat} (hq : q ≤ X.1) (hw : wd (st_l 40) X q = true) : mTB X w d 6 2 [] q (.inl (2, x_S X q)) := by
  intro g N sw L I k hs hG hk
  obtain ⟨f1, f2⟩ := M_fail hG 2
  refine ⟨_, ?_, f2, f1⟩
  have hb := mF_ne f1 (by decide) (by decide)
  have e1 : am_R 160 (10 * (7 - d) + 4 + 20) 22 [.ref 147, .int (Int32.ofNat d), .int (Int32.ofNat 6), am_u] [] (am_hp g N sw w (am_up (am_up I 147 (upd (I 147) 23 (Int32.ofNat 2))) 147 (upd (upd (I 147) 23 (Int32.ofNat 2)) 24 ((upd (I 147) 23 (Int32.ofNat 2)) 21))) L) = some (.inl none, am_hp g N sw w (am_up (am_up I 147 (upd (I 147) 23 (Int32.ofNat 2))) 147 (upd (upd (I 147) 23 (Int32.ofNat 2)) 24 ((upd (I 147) 23 (Int32.ofNat 2)) 21))) L) := by
    rw [y_Mo_readNot_22 _ _, d_f hb, nb_s]
    exact b160' (g := g) (N := N) (sw := sw) (L := L) (fp := (2, x_S X q)) (j := 7) hd (by decide) (by show 0 < 2 ∧ 2 < 100; decide) f1
  rw [y_Mo_readNot_2 _ _, M_is hx hG.1 hG.2.1 hq hs ist_40, hw, am_bd_ok, am_tl, y_Mo_readNot_8 _ _ _, i_b0, Bool.not_true, cond_false, d_t (by decide), d_t hG.2.1]
  exact e1
/-- tests of both -/
theorem bl_nots (w : Bool) (m : Nat) : ∀ j, bl w m (List.replicate j (-8)) 1 = some 1
  | 0 => rfl
  | j + 1 => bl_nots w m j
theorem gd_mono {q q' m s : Nat} {r : p_R} (hq : q ≤ q') (h : gd X w q' m s r) : gd X w q m s r := by
  cases r with
  | inl fp => exact h
  | inr qc =>
    obtain ⟨a1, a2, a3, a4⟩ := h
    exact ⟨by omega, a2, by omega, a4⟩
theorem T_body (hx : x_ok X) (hr : am_isc rc) (hu : ru = rc + cond w 7 6) (hd : d ≤ 6) {m : Nat} (hA : ∀ q, q ≤ X.1 → ∃ r, gd X w q m 0 r ∧ cSp X rc ru w 75 0 (10 * (7 - d) + 3 + 20) [.int 3, .int (Int32.ofNat d), am_u, am_u] q r ∧ (mSp X w 161 0 (10 * (7 - d) + 3 + 20) [.int (Int32.ofNat d), am_u] q r) ∧ bt X q r) {q : Nat} (hj : j ≤ 6) (hjq : j ≤ q) (hq : q ≤ X.1) : ∃ r, gd X w (q - j) (m + 1) 0 r ∧ cTB X rc ru w d j 61 q r ∧ mTB X w d j 8 [.int 0] q r ∧ bt X q r := by
  obtain ⟨r1, a1, a2, a3, a4⟩ := hA q hq
  cases r1 with
  | inl fp => exact ⟨.inl fp, a1, cT_1 hx hr hu hd (by omega) ⟨a1.1, a1.2.1⟩ a2, mT_1 hd (by omega) ⟨a1.1, a1.2.1⟩ a3, a4⟩
  | inr qc =>
    obtain ⟨q1, cs⟩ := qc
    have a4' : ∀ r : p_R, bt X q r := fun r x y z => absurd (a4 x y z) (by intro h; cases h)
    obtain ⟨g1, g2, g3, g4⟩ := id a1
    dsimp only at g1 g2 g3 g4
    have u1 := bl_up w (m := m) (m' := m + 1) (j := 0) (Nat.le_succ _) cs 0 1 g4
    cases hlo : lo_ X q1 2 with
    | false =>
      refine ⟨.inr (q1, cs ++ List.replicate j (-8)), ⟨by show q - j ≤ q1; omega, g2, ?_, ?_⟩, cT_2 hx hr hu hd (by omega) a1 a2 hlo, mT_2 hx hd (by omega) a1 a3 hlo, a4' _⟩
      · show (cs ++ List.replicate j (-8)).length ≤ q1 - (q - j)
        rw [List.length_append, List.length_replicate]
        omega
      · show bl w (m + 1) (cs ++ List.replicate j (-8)) 0 = some 1
        rw [bl_ap, u1]
        exact bl_nots w (m + 1) j
    | true =>
      have hE := x_E_lt g2 (lo_K (by decide) hlo).1
      obtain ⟨r2, b1, b2, b3, -⟩ := hA _ (x_E_le (X := X) g2).2.1
      cases r2 with
      | inl fp => exact ⟨.inl fp, b1, cT_3 hx hr hu hd (by omega) a1 a2 hlo ⟨b1.1, b1.2.1⟩ b2, mT_3 hx hd (by omega) a1 a3 hlo ⟨b1.1, b1.2.1⟩ b3, a4' _⟩
      | inr qc =>
        obtain ⟨q3, c3⟩ := qc
        obtain ⟨e1, e2, e3, e4⟩ := id b1
        dsimp only at e1 e2 e3 e4
        have u2 := bl_up w (m := m) (m' := m + 1) (j := 1) (Nat.le_refl _) c3 0 1 e4
        refine ⟨.inr (q3, cs ++ (c3 ++ (oh X q1 :: List.replicate j (-8)))), ⟨by show q - j ≤ q3; omega, e2, ?_, ?_⟩, cT_4 hx hr hu hd (by omega) a1 a2 hlo b1 b2, mT_4 hx hd (by omega) a1 a3 hlo b1 b3, a4' _⟩
        · show (cs ++ (c3 ++ (oh X q1 :: List.replicate j (-8)))).length ≤ q3 - (q - j)
          rw [List.length_append, List.length_append, List.length_cons, List.length_replicate]
          omega
        · show bl w (m + 1) (cs ++ (c3 ++ (oh X q1 :: List.replicate j (-8)))) 0 = some 1
          rw [bl_ap, u1]
          show bl w (m + 1) (c3 ++ (oh X q1 :: List.replicate j (-8))) 1 = some 1
          rw [bl_ap, u2]
          show bl w (m + 1) (oh X q1 :: List.replicate j (-8)) 2 = some 1
          unfold bl
          rw [(oh_op X q1).1, (oh_op X q1).2]
          exact bl_nots w (m + 1) j
theorem T_nots (hx : x_ok X) (hr : am_isc rc) (hu : ru = rc + cond w 7 6) (hd : d ≤ 6) {m : Nat} (hA : ∀ q, q ≤ X.1 → ∃ r, gd X w q m 0 r ∧ cSp X rc ru w 75 0 (10 * (7 - d) + 3 + 20) [.int 3, .int (Int32.ofNat d), am_u, am_u] q r ∧ (mSp X w 161 0 (10 * (7 - d) + 3 + 20) [.int (Int32.ofNat d), am_u] q r) ∧ bt X q r) : ∀ c j q, j + c = 6 → j ≤ q → q ≤ X.1 → ∃ r, gd X w (q - j) (m + 1) 0 r ∧ cTB X rc ru w d j 3 q r ∧ mTB X w d j 2 [] q r ∧ bt X q r
  | c, j, q, hc, hjq, hq => by
    cases hw : wd (st_l 40) X q with
    | false =>
      obtain ⟨r, a1, a2, a3, a4⟩ := T_body hx hr hu hd hA (by omega : j ≤ 6) hjq hq
      exact ⟨r, a1, c_n0 hx hr hu (by omega) hq hw a2, m_n0 hx hq hw a3, a4⟩
    | true =>
      have hK : x_K X q = 1 := Decidable.byContradiction fun e => by
        rw [wd_K e] at hw
        cases hw
      have hE := x_E_lt hq (by omega)
      have hE2 := x_E_le hq
      match c, hc with
      | 0, hc =>
        have : j = 6 := by omega
        subst this
        refine ⟨.inl (2, x_S X q), ⟨by show 0 < 2; decide, by show 2 < 100; decide, ?_⟩, c_n7 hx hr hu hd hq hw, m_n7 hx hd hq hw, fun e => absurd hK e⟩
        show x_S X q ≤ X.1
        omega
      | c + 1, hc =>
        obtain ⟨r, a1, a2, a3, a4⟩ := T_nots hx hr hu hd hA c (j + 1) (x_E X q) (by omega) (by omega) hE2.2.1
        exact ⟨r, gd_mono (by omega) a1, c_n1 hx hr hu (by omega) hq hw a2, m_n1 hx (by omega) hq hw a3, fun e => absurd hK e⟩
theorem R_test (hx : x_ok X) (hr : am_isc rc) (hu : ru = rc + cond w 7 6) (hd : d ≤ 6) {m : Nat} (hA : ∀ q, q ≤ X.1 → ∃ r, gd X w q m 0 r ∧ cSp X rc ru w 75 0 (10 * (7 - d) + 3 + 20) [.int 3, .int (Int32.ofNat d), am_u, am_u] q r ∧ (mSp X w 161 0 (10 * (7 - d) + 3 + 20) [.int (Int32.ofNat d), am_u] q r) ∧ bt X q r) : ∀ q, q ≤ X.1 → ∃ r, gd X w q (m + 1) 0 r ∧ cSp X rc ru w 75 0 (10 * (7 - d) + 5 + 20) [.int 2, .int (Int32.ofNat d), am_u, am_u] q r ∧ (mSp X w 160 0 (10 * (7 - d) + 4 + 20) [.int (Int32.ofNat d), am_u, am_u] q r) ∧ bt X q r := by
  intro q hq
  have hu' := (ru_f hr hu).1
  obtain ⟨r, a1, a2, a3, a4⟩ := T_nots hx hr hu hd hA 6 0 q rfl (Nat.zero_le _) hq
  refine ⟨r, a1, ?_, ?_, a4⟩
  · intro g N sw lv L I k hs hG hk hv
    obtain ⟨I2, b1, b2, b3⟩ := a2 g N sw lv L I k hs hG hk hv
    refine ⟨I2, ?_, b2, b3⟩
    rw [y_Rd_readLevel_0 _ _ hr hu', d_t hG.2.1, d_t rfl, nb_tn (by omega : d < 100000), bu_, blt_t (by omega), cond_true, y_Rd_readTest_0 _ hr hu', show (.int 0 : Value) = .int (Int32.ofNat 0) from rfl, b1, am_bd_ok, am_tn, y_Rd_readLevel_21 _ _ hr hu']
  · intro g N sw L I k hs hG hk
    obtain ⟨I2, b1, b2, b3⟩ := a3 g N sw L I k hs hG hk
    refine ⟨I2, ?_, b2, b3⟩
    rw [y_Mo_readNot_0 _]
    exact b1
end TEST
