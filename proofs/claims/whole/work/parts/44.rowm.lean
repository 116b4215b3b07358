/-! PARSING: rows of the reference, both together -/
theorem lo0_e (X : x_X) (q : Nat) : lo_ X q 0 = wd (st_l 44) X q := by
  unfold lo_
  rcases oh_cases X q with h | h | h | h | h | h | h | h | h
  · rw [h, (oh_n h).2.2.2.2.2.2.1]; decide
  · rw [h.2.2, h.2.1]; decide
  · rw [h.2.2.2, h.2.1]; decide
  · rw [h.2, wd_K (by omega)]; decide
  · rw [h.2, wd_K (by omega)]; decide
  · rw [h.2, wd_K (by omega)]; decide
  · rw [h.2, wd_K (by omega)]; decide
  · rw [h.2, wd_K (by omega)]; decide
  · rw [h.2, wd_K (by omega)]; decide
theorem lo1_e (X : x_X) (q : Nat) : lo_ X q 1 = wd (st_l 42) X q := by
  unfold lo_
  rcases oh_cases X q with h | h | h | h | h | h | h | h | h
  · rw [h, (oh_n h).2.2.2.2.2.2.2]; decide
  · cases e : wd (st_l 42) X q with
    | true => exact absurd (wd_inj h.2.1 e) (by decide)
    | false => rw [h.2.2]; decide
  · rw [h.2.2.2, h.2.2.1]; decide
  · rw [h.2, wd_K (by omega)]; decide
  · rw [h.2, wd_K (by omega)]; decide
  · rw [h.2, wd_K (by omega)]; decide
  · rw [h.2, wd_K (by omega)]; decide
  · rw [h.2, wd_K (by omega)]; decide
  · rw [h.2, wd_K (by omega)]; decide
theorem oh_0 {X : x_X} {q : Nat} (h : lo_ X q 0 = true) : mc (oh X q) = -27 := by
  unfold lo_ at h
  rcases oh_cases X q with e | e | e | e | e | e | e | e | e
  · rw [e] at h; exact absurd h (by decide)
  · rw [e.2.2]; decide
  · rw [e.2.2.2] at h; exact absurd h (by decide)
  · rw [e.2] at h; exact absurd h (by decide)
  · rw [e.2] at h; exact absurd h (by decide)
  · rw [e.2] at h; exact absurd h (by decide)
  · rw [e.2] at h; exact absurd h (by decide)
  · rw [e.2] at h; exact absurd h (by decide)
  · rw [e.2] at h; exact absurd h (by decide)
theorem oh_1 {X : x_X} {q : Nat} (h : lo_ X q 1 = true) : mc (oh X q) = -26 := by
  unfold lo_ at h
  rcases oh_cases X q with e | e | e | e | e | e | e | e | e
  · rw [e] at h; exact absurd h (by decide)
  · rw [e.2.2] at h; exact absurd h (by decide)
  · rw [e.2.2.2]; decide
  · rw [e.2] at h; exact absurd h (by decide)
  · rw [e.2] at h; exact absurd h (by decide)
  · rw [e.2] at h; exact absurd h (by decide)
  · rw [e.2] at h; exact absurd h (by decide)
  · rw [e.2] at h; exact absurd h (by decide)
  · rw [e.2] at h; exact absurd h (by decide)
theorem oh_4 {X : x_X} {q : Nat} (h : lo_ X q 4 = true) : (x_K X q = 42 ∧ mc (oh X q) = -22) ∨ (x_K X q = 47 ∧ mc (oh X q) = -23) := by
  unfold lo_ at h
  rcases oh_cases X q with e | e | e | e | e | e | e | e | e
  · rw [e] at h; exact absurd h (by decide)
  · rw [e.2.2] at h; exact absurd h (by decide)
  · rw [e.2.2.2] at h; exact absurd h (by decide)
  · exact Or.inl ⟨e.1, by rw [e.2]; decide⟩
  · rw [e.2] at h; exact absurd h (by decide)
  · rw [e.2] at h; exact absurd h (by decide)
  · exact Or.inr ⟨e.1, by rw [e.2]; decide⟩
  · rw [e.2] at h; exact absurd h (by decide)
  · rw [e.2] at h; exact absurd h (by decide)
theorem lo4_f {X : x_X} {q : Nat} (h : lo_ X q 4 = false) : x_K X q ≠ 42 ∧ x_K X q ≠ 47 := by
  unfold lo_ oh at h
  refine ⟨fun e => ?_, fun e => ?_⟩
  · rw [e] at h
    exact absurd (show decide (v_Ru_levelOf (-15) = 4) = false from h) (by decide)
  · rw [e] at h
    exact absurd (show decide (v_Ru_levelOf (-16) = 4) = false from h) (by decide)
theorem oh_3 {X : x_X} {q : Nat} (h : lo_ X q 3 = true) : (x_K X q = 43 ∧ mc (oh X q) = -20) ∨ (x_K X q = 45 ∧ mc (oh X q) = -21) := by
  unfold lo_ at h
  rcases oh_cases X q with e | e | e | e | e | e | e | e | e
  · rw [e] at h; exact absurd h (by decide)
  · rw [e.2.2] at h; exact absurd h (by decide)
  · rw [e.2.2.2] at h; exact absurd h (by decide)
  · rw [e.2] at h; exact absurd h (by decide)
  · exact Or.inl ⟨e.1, by rw [e.2]; decide⟩
  · exact Or.inr ⟨e.1, by rw [e.2]; decide⟩
  · rw [e.2] at h; exact absurd h (by decide)
  · rw [e.2] at h; exact absurd h (by decide)
  · rw [e.2] at h; exact absurd h (by decide)
theorem lo3_f {X : x_X} {q : Nat} (h : lo_ X q 3 = false) : x_K X q ≠ 43 ∧ x_K X q ≠ 45 := by
  unfold lo_ oh at h
  refine ⟨fun e => ?_, fun e => ?_⟩
  · rw [e] at h
    exact absurd (show decide (v_Ru_levelOf (-13) = 3) = false from h) (by decide)
  · rw [e] at h
    exact absurd (show decide (v_Ru_levelOf (-14) = 3) = false from h) (by decide)
theorem oh_2 {X : x_X} {q : Nat} (h : lo_ X q 2 = true) : (x_K X q = 60 ∧ mc (oh X q) = -24) ∨ (x_K X q = 61 ∧ mc (oh X q) = -25) := by
  unfold lo_ at h
  rcases oh_cases X q with e | e | e | e | e | e | e | e | e
  · rw [e] at h; exact absurd h (by decide)
  · rw [e.2.2] at h; exact absurd h (by decide)
  · rw [e.2.2.2] at h; exact absurd h (by decide)
  · rw [e.2] at h; exact absurd h (by decide)
  · rw [e.2] at h; exact absurd h (by decide)
  · rw [e.2] at h; exact absurd h (by decide)
  · rw [e.2] at h; exact absurd h (by decide)
  · exact Or.inl ⟨e.1, by rw [e.2]; decide⟩
  · exact Or.inr ⟨e.1, by rw [e.2]; decide⟩
theorem lo2_f {X : x_X} {q : Nat} (h : lo_ X q 2 = false) : x_K X q ≠ 60 ∧ x_K X q ≠ 61 := by
  unfold lo_ oh at h
  refine ⟨fun e => ?_, fun e => ?_⟩
  · rw [e] at h
    exact absurd (show decide (v_Ru_levelOf (-11) = 2) = false from h) (by decide)
  · rw [e] at h
    exact absurd (show decide (v_Ru_levelOf (-12) = 2) = false from h) (by decide)
theorem mk_v {X : x_X} {q : Nat} {w : Bool} {k : s_K} {I : Nat → Nat → Int32} (hx : x_ok X) (hq : q ≤ X.1) (h : mG X w q k I) {c : Nat} (hc : x_mk c = true) (hc2 : c < 256) : g_Mo_isMarked I (Int32.ofNat c) = true ∧ (x_K X q = c → v_Mo_isMarked I (Int32.ofNat c) = 1) ∧ (x_K X q ≠ c → v_Mo_isMarked I (Int32.ofNat c) = 0) := by
  obtain ⟨m1, m2⟩ := M_mk hx hq h.1 h.2.1 hc hc2
  exact ⟨m1, fun e => by rw [m2, d_t e], fun e => by rw [m2, d_f e]⟩
theorem ist_42 : am_ist 42 := by
  unfold am_ist
  decide
theorem ist_44 : am_ist 44 := by
  unfold am_ist
  decide
theorem ist_40 : am_ist 40 := by
  unfold am_ist
  decide
section MROWS
variable {X : x_X} {w : Bool} {q d : Nat}
theorem mP_no (hx : x_ok X) (hq : q ≤ X.1) (hlo : lo_ X q 4 = false) (w2 : Value) : mSp X w 162 5 (10 * (7 - d) + 2 + 20) [.int (Int32.ofNat d), w2] q (.inr (q, [])) := by
  intro g N sw L I k hs hG hk
  obtain ⟨n1, n2⟩ := lo4_f hlo
  obtain ⟨a1, -, a2⟩ := mk_v hx hq hG (c := 42) (by decide) (by decide)
  obtain ⟨b1, -, b2⟩ := mk_v hx hq hG (c := 47) (by decide) (by decide)
  refine ⟨I, ?_, fDm_rfl, hG⟩
  rw [y_Mo_readProduct_5 _ _, show g_Mo_isMarked I 42 = true from a1, cond_true, show v_Mo_isMarked I 42 = 0 from a2 n1, d_t rfl, show g_Mo_isMarked I 47 = true from b1, cond_true, show v_Mo_isMarked I 47 = 0 from b2 n2, d_t rfl]
theorem mP_yes (hx : x_ok X) (hd : d ≤ 6) (hq : q ≤ X.1) (hlo : lo_ X q 4 = true) {r1 : p_R} (h1 : mSp X w 163 0 (10 * (7 - d) + 1 + 20) [.int (Int32.ofNat d), am_u] (x_E X q) r1) (w2 : Value) {g N : Nat} {sw : Bool} {L : Nat → Nat → Int64} {I : Nat → Nat → Int32} {k : s_K} (hs : sO I) (hG : mG X w q k I) (hk : k.1 ≤ q) : ∃ I', am_R 162 (10 * (7 - d) + 2 + 20) 5 [.ref 147, .int (Int32.ofNat d), w2] [] (am_hp g N sw w I L) = am_R 162 (10 * (7 - d) + 2 + 20) 49 [.ref 147, .int (Int32.ofNat d), .int (mc (oh X q))] [] (am_hp g N sw w I' L) ∧ fDm w I I' ∧ mE X w k r1 I' := by
  have hE := x_E_le hq
  obtain ⟨a1, a3, a2⟩ := mk_v hx hq hG (c := 42) (by decide) (by decide)
  obtain ⟨b1, b3, b2⟩ := mk_v hx hq hG (c := 47) (by decide) (by decide)
  obtain ⟨I1, s1, s2, s3, s4⟩ := M_stp (g := g) (N := N) (sw := sw) (lv := w) (L := L) hx hs hq hG
  obtain ⟨I2, t1, t2, t3⟩ := h1 g N sw L I1 k s4 s2 (by omega)
  refine ⟨I2, ?_, fDm_tr s3 t2, t3⟩
  rcases oh_4 hlo with e | e
  · rw [y_Mo_readProduct_5 _ _, show g_Mo_isMarked I 42 = true from a1, cond_true, show v_Mo_isMarked I 42 = 1 from a3 e.1, d_f (by decide), cond_true, d_f (by decide), s1, am_bd_ok, am_tn, y_Mo_readProduct_44 _ _, nb_tn (by omega : d < 100000), bu_, blt_t (by omega), cond_true, t1, am_bd_ok, am_tn, e.2]
  · rw [y_Mo_readProduct_5 _ _, show g_Mo_isMarked I 42 = true from a1, cond_true, show v_Mo_isMarked I 42 = 0 from a2 (by omega), d_t rfl, show g_Mo_isMarked I 47 = true from b1, cond_true, show v_Mo_isMarked I 47 = 1 from b3 e.1, d_f (by decide), cond_true, d_t rfl, s1, am_bd_ok, am_tn, y_Mo_readProduct_44 _ _, nb_tn (by omega : d < 100000), bu_, blt_t (by omega), cond_true, t1, am_bd_ok, am_tn, e.2]
theorem mP_bad {fp : Nat × Nat} (h0 : 0 < fp.1 ∧ fp.1 < 100) {g N : Nat} {sw : Bool} {L : Nat → Nat → Int64} {I : Nat → Nat → Int32} (h : mF fp.1 fp.2 I) (w2 : Value) : am_R 162 (10 * (7 - d) + 2 + 20) 5 [.ref 147, .int (Int32.ofNat d), w2] [] (am_hp g N sw w I L) = some (.inl none, am_hp g N sw w I L) := by
  have hb := mF_ne h h0.1 h0.2
  obtain ⟨a1, a2⟩ := M_mk' hb 42
  obtain ⟨b1, b2⟩ := M_mk' hb 47
  rw [y_Mo_readProduct_5 _ _, a1, cond_true, a2, d_t rfl, b1, cond_true, b2, d_t rfl]
theorem mP_fl (hx : x_ok X) (hd : d ≤ 6) (hq : q ≤ X.1) (hlo : lo_ X q 4 = true) {fp : Nat × Nat} (h0 : 0 < fp.1 ∧ fp.1 < 100) (h1 : mSp X w 163 0 (10 * (7 - d) + 1 + 20) [.int (Int32.ofNat d), am_u] (x_E X q) (.inl fp)) (w2 : Value) : mSp X w 162 5 (10 * (7 - d) + 2 + 20) [.int (Int32.ofNat d), w2] q (.inl fp) := by
  intro g N sw L I k hs hG hk
  obtain ⟨I2, b1, b2, b3⟩ := mP_yes (g := g) (N := N) (sw := sw) (L := L) hx hd hq hlo h1 w2 hs hG hk
  have b3' : mF fp.1 fp.2 I2 := b3
  refine ⟨I2, ?_, b2, b3⟩
  rw [b1, y_Mo_readProduct_49 _ _, d_f (mF_ne b3' h0.1 h0.2), mP_bad h0 b3']
theorem mP_ok (hx : x_ok X) (hd : d ≤ 6) (hq : q ≤ X.1) (hlo : lo_ X q 4 = true) {q1 : Nat} {cs : List Int32} {m : Nat} (h0 : gd X w (x_E X q) m 0 (.inr (q1, cs))) (h1 : mSp X w 163 0 (10 * (7 - d) + 1 + 20) [.int (Int32.ofNat d), am_u] (x_E X q) (.inr (q1, cs))) {r2 : p_R} (h2 : ∀ w2, mSp X w 162 5 (10 * (7 - d) + 2 + 20) [.int (Int32.ofNat d), w2] q1 r2) (w2 : Value) : mSp X w 162 5 (10 * (7 - d) + 2 + 20) [.int (Int32.ofNat d), w2] q (sq (cs ++ [oh X q]) r2) := by
  intro g N sw L I k hs hG hk
  have hn := hx.1
  have hE := x_E_lt hq (lo_K (by decide) hlo).1
  obtain ⟨g1, g2, g3, -⟩ := h0
  dsimp only at g1 g2 g3
  obtain ⟨I2, b1, b2, b3⟩ := mP_yes (g := g) (N := N) (sw := sw) (L := L) hx hd hq hlo h1 w2 hs hG hk
  have b3' : mG X w q1 (kap k cs) I2 := b3
  have k1 := kap_1 cs k
  have hk1 : (kap k cs).1 < q1 := by omega
  have c1 := M_layc (z := none) (x := mc (oh X q)) (F := fun I => am_R 162 (10 * (7 - d) + 2 + 20) 5 [.ref 147, .int (Int32.ofNat d), .int (mc (oh X q))] [] (am_hp g N sw w I L)) b3'.2.2 b3'.2.1 (by omega)
  have c2 := mG_lay (c := oh X q) b3'
  have c3 : fDm w I _ := fDm_tr b2 (fDm_lay (m := (kap k cs).1) (x := mc (oh X q)))
  obtain ⟨I3, d1, d2, d3⟩ := h2 (.int (mc (oh X q))) g N sw L _ _ (sO_fD c3 hs) c2 hk1
  refine ⟨I3, ?_, fDm_tr c3 d2, mE_sq ?_⟩
  · rw [b1, y_Mo_readProduct_49 _ _]
    exact c1.trans d1
  · rw [kap_ap]
    exact d3
theorem mP_d1 (hd : d ≤ 6) {fp : Nat × Nat} (h0 : 0 < fp.1 ∧ fp.1 < 100) (h1 : mSp X w 163 0 (10 * (7 - d) + 1 + 20) [.int (Int32.ofNat d), am_u] q (.inl fp)) : mSp X w 162 0 (10 * (7 - d) + 2 + 20) [.int (Int32.ofNat d), am_u] q (.inl fp) := by
  intro g N sw L I k hs hG hk
  obtain ⟨I2, b1, b2, b3⟩ := h1 g N sw L I k hs hG hk
  have b3' : mF fp.1 fp.2 I2 := b3
  refine ⟨I2, ?_, b2, b3⟩
  rw [y_Mo_readProduct_0 _, nb_tn (by omega : d < 100000), bu_, blt_t (by omega), cond_true, b1, am_bd_ok, am_tn, mP_bad h0 b3']
theorem mP_d2 (hd : d ≤ 6) {q1 : Nat} {cs : List Int32} {m : Nat} (h0 : gd X w q m 0 (.inr (q1, cs))) (h1 : mSp X w 163 0 (10 * (7 - d) + 1 + 20) [.int (Int32.ofNat d), am_u] q (.inr (q1, cs))) {r2 : p_R} (h2 : ∀ w2, mSp X w 162 5 (10 * (7 - d) + 2 + 20) [.int (Int32.ofNat d), w2] q1 r2) : mSp X w 162 0 (10 * (7 - d) + 2 + 20) [.int (Int32.ofNat d), am_u] q (sq cs r2) := by
  intro g N sw L I k hs hG hk
  obtain ⟨g1, g2, g3, -⟩ := h0
  dsimp only at g1 g2 g3
  obtain ⟨I2, b1, b2, b3⟩ := h1 g N sw L I k hs hG hk
  have b3' : mG X w q1 (kap k cs) I2 := b3
  have k1 := kap_1 cs k
  obtain ⟨I3, d1, d2, d3⟩ := h2 am_u g N sw L I2 _ (sO_fD b2 hs) b3' (by omega)
  refine ⟨I3, ?_, fDm_tr b2 d2, mE_sq d3⟩
  rw [y_Mo_readProduct_0 _, nb_tn (by omega : d < 100000), bu_, blt_t (by omega), cond_true, b1, am_bd_ok, am_tn]
  exact d1
theorem mS_no (hx : x_ok X) (hq : q ≤ X.1) (hlo : lo_ X q 3 = false) (w2 : Value) : mSp X w 161 5 (10 * (7 - d) + 3 + 20) [.int (Int32.ofNat d), w2] q (.inr (q, [])) := by
  intro g N sw L I k hs hG hk
  obtain ⟨n1, n2⟩ := lo3_f hlo
  obtain ⟨a1, -, a2⟩ := mk_v hx hq hG (c := 43) (by decide) (by decide)
  obtain ⟨b1, -, b2⟩ := mk_v hx hq hG (c := 45) (by decide) (by decide)
  refine ⟨I, ?_, fDm_rfl, hG⟩
  rw [y_Mo_readSum_5 _ _, show g_Mo_isMarked I 43 = true from a1, cond_true, show v_Mo_isMarked I 43 = 0 from a2 n1, d_t rfl, show g_Mo_isMarked I 45 = true from b1, cond_true, show v_Mo_isMarked I 45 = 0 from b2 n2, d_t rfl]
theorem mS_yes (hx : x_ok X) (hd : d ≤ 6) (hq : q ≤ X.1) (hlo : lo_ X q 3 = true) {r1 : p_R} (h1 : mSp X w 162 0 (10 * (7 - d) + 2 + 20) [.int (Int32.ofNat d), am_u] (x_E X q) r1) (w2 : Value) {g N : Nat} {sw : Bool} {L : Nat → Nat → Int64} {I : Nat → Nat → Int32} {k : s_K} (hs : sO I) (hG : mG X w q k I) (hk : k.1 ≤ q) : ∃ I', am_R 161 (10 * (7 - d) + 3 + 20) 5 [.ref 147, .int (Int32.ofNat d), w2] [] (am_hp g N sw w I L) = am_R 161 (10 * (7 - d) + 3 + 20) 49 [.ref 147, .int (Int32.ofNat d), .int (mc (oh X q))] [] (am_hp g N sw w I' L) ∧ fDm w I I' ∧ mE X w k r1 I' := by
  have hE := x_E_le hq
  obtain ⟨a1, a3, a2⟩ := mk_v hx hq hG (c := 43) (by decide) (by decide)
  obtain ⟨b1, b3, b2⟩ := mk_v hx hq hG (c := 45) (by decide) (by decide)
  obtain ⟨I1, s1, s2, s3, s4⟩ := M_stp (g := g) (N := N) (sw := sw) (lv := w) (L := L) hx hs hq hG
  obtain ⟨I2, t1, t2, t3⟩ := h1 g N sw L I1 k s4 s2 (by omega)
  refine ⟨I2, ?_, fDm_tr s3 t2, t3⟩
  rcases oh_3 hlo with e | e
  · rw [y_Mo_readSum_5 _ _, show g_Mo_isMarked I 43 = true from a1, cond_true, show v_Mo_isMarked I 43 = 1 from a3 e.1, d_f (by decide), cond_true, d_f (by decide), s1, am_bd_ok, am_tn, y_Mo_readSum_44 _ _, nb_tn (by omega : d < 100000), bu_, blt_t (by omega), cond_true, t1, am_bd_ok, am_tn, e.2]
  · rw [y_Mo_readSum_5 _ _, show g_Mo_isMarked I 43 = true from a1, cond_true, show v_Mo_isMarked I 43 = 0 from a2 (by omega), d_t rfl, show g_Mo_isMarked I 45 = true from b1, cond_true, show v_Mo_isMarked I 45 = 1 from b3 e.1, d_f (by decide), cond_true, d_t rfl, s1, am_bd_ok, am_tn, y_Mo_readSum_44 _ _, nb_tn (by omega : d < 100000), bu_, blt_t (by omega), cond_true, t1, am_bd_ok, am_tn, e.2]
theorem mS_bad {fp : Nat × Nat} (h0 : 0 < fp.1 ∧ fp.1 < 100) {g N : Nat} {sw : Bool} {L : Nat → Nat → Int64} {I : Nat → Nat → Int32} (h : mF fp.1 fp.2 I) (w2 : Value) : am_R 161 (10 * (7 - d) + 3 + 20) 5 [.ref 147, .int (Int32.ofNat d), w2] [] (am_hp g N sw w I L) = some (.inl none, am_hp g N sw w I L) := by
  have hb := mF_ne h h0.1 h0.2
  obtain ⟨a1, a2⟩ := M_mk' hb 43
  obtain ⟨b1, b2⟩ := M_mk' hb 45
  rw [y_Mo_readSum_5 _ _, a1, cond_true, a2, d_t rfl, b1, cond_true, b2, d_t rfl]
theorem mS_fl (hx : x_ok X) (hd : d ≤ 6) (hq : q ≤ X.1) (hlo : lo_ X q 3 = true) {fp : Nat × Nat} (h0 : 0 < fp.1 ∧ fp.1 < 100) (h1 : mSp X w 162 0 (10 * (7 - d) + 2 + 20) [.int (Int32.ofNat d), am_u] (x_E X q) (.inl fp)) (w2 : Value) : mSp X w 161 5 (10 * (7 - d) + 3 + 20) [.int (Int32.ofNat d), w2] q (.inl fp) := by
  intro g N sw L I k hs hG hk
  obtain ⟨I2, b1, b2, b3⟩ := mS_yes (g := g) (N := N) (sw := sw) (L := L) hx hd hq hlo h1 w2 hs hG hk
  have b3' : mF fp.1 fp.2 I2 := b3
  refine ⟨I2, ?_, b2, b3⟩
  rw [b1, y_Mo_readSum_49 _ _, d_f (mF_ne b3' h0.1 h0.2), mS_bad h0 b3']
theorem mS_ok (hx : x_ok X) (hd : d ≤ 6) (hq : q ≤ X.1) (hlo : lo_ X q 3 = true) {q1 : Nat} {cs : List Int32} {m : Nat} (h0 : gd X w (x_E X q) m 0 (.inr (q1, cs))) (h1 : mSp X w 162 0 (10 * (7 - d) + 2 + 20) [.int (Int32.ofNat d), am_u] (x_E X q) (.inr (q1, cs))) {r2 : p_R} (h2 : ∀ w2, mSp X w 161 5 (10 * (7 - d) + 3 + 20) [.int (Int32.ofNat d), w2] q1 r2) (w2 : Value) : mSp X w 161 5 (10 * (7 - d) + 3 + 20) [.int (Int32.ofNat d), w2] q (sq (cs ++ [oh X q]) r2) := by
  intro g N sw L I k hs hG hk
  have hn := hx.1
  have hE := x_E_lt hq (lo_K (by decide) hlo).1
  obtain ⟨g1, g2, g3, -⟩ := h0
  dsimp only at g1 g2 g3
  obtain ⟨I2, b1, b2, b3⟩ := mS_yes (g := g) (N := N) (sw := sw) (L := L) hx hd hq hlo h1 w2 hs hG hk
  have b3' : mG X w q1 (kap k cs) I2 := b3
  have k1 := kap_1 cs k
  have hk1 : (kap k cs).1 < q1 := by omega
  have c1 := M_layc (z := none) (x := mc (oh X q)) (F := fun I => am_R 161 (10 * (7 - d) + 3 + 20) 5 [.ref 147, .int (Int32.ofNat d), .int (mc (oh X q))] [] (am_hp g N sw w I L)) b3'.2.2 b3'.2.1 (by omega)
  have c2 := mG_lay (c := oh X q) b3'
  have c3 : fDm w I _ := fDm_tr b2 (fDm_lay (m := (kap k cs).1) (x := mc (oh X q)))
  obtain ⟨I3, d1, d2, d3⟩ := h2 (.int (mc (oh X q))) g N sw L _ _ (sO_fD c3 hs) c2 hk1
  refine ⟨I3, ?_, fDm_tr c3 d2, mE_sq ?_⟩
  · rw [b1, y_Mo_readSum_49 _ _]
    exact c1.trans d1
  · rw [kap_ap]
    exact d3
theorem mS_d1 (hd : d ≤ 6) {fp : Nat × Nat} (h0 : 0 < fp.1 ∧ fp.1 < 100) (h1 : mSp X w 162 0 (10 * (7 - d) + 2 + 20) [.int (Int32.ofNat d), am_u] q (.inl fp)) : mSp X w 161 0 (10 * (7 - d) + 3 + 20) [.int (Int32.ofNat d), am_u] q (.inl fp) := by
  intro g N sw L I k hs hG hk
  obtain ⟨I2, b1, b2, b3⟩ := h1 g N sw L I k hs hG hk
  have b3' : mF fp.1 fp.2 I2 := b3
  refine ⟨I2, ?_, b2, b3⟩
  rw [y_Mo_readSum_0 _, nb_tn (by omega : d < 100000), bu_, blt_t (by omega), cond_true, b1, am_bd_ok, am_tn, mS_bad h0 b3']
theorem mS_d2 (hd : d ≤ 6) {q1 : Nat} {cs : List Int32} {m : Nat} (h0 : gd X w q m 0 (.inr (q1, cs))) (h1 : mSp X w 162 0 (10 * (7 - d) + 2 + 20) [.int (Int32.ofNat d), am_u] q (.inr (q1, cs))) {r2 : p_R} (h2 : ∀ w2, mSp X w 161 5 (10 * (7 - d) + 3 + 20) [.int (Int32.ofNat d), w2] q1 r2) : mSp X w 161 0 (10 * (7 - d) + 3 + 20) [.int (Int32.ofNat d), am_u] q (sq cs r2) := by
  intro g N sw L I k hs hG hk
  obtain ⟨g1, g2, g3, -⟩ := h0
  dsimp only at g1 g2 g3
  obtain ⟨I2, b1, b2, b3⟩ := h1 g N sw L I k hs hG hk
  have b3' : mG X w q1 (kap k cs) I2 := b3
  have k1 := kap_1 cs k
  obtain ⟨I3, d1, d2, d3⟩ := h2 am_u g N sw L I2 _ (sO_fD b2 hs) b3' (by omega)
  refine ⟨I3, ?_, fDm_tr b2 d2, mE_sq d3⟩
  rw [y_Mo_readSum_0 _, nb_tn (by omega : d < 100000), bu_, blt_t (by omega), cond_true, b1, am_bd_ok, am_tn]
  exact d1
theorem mA_no (hx : x_ok X) (hq : q ≤ X.1) (hlo : lo_ X q 1 = false) : mSp X w 159 5 (10 * (7 - d) + 5 + 20) [.int (Int32.ofNat d)] q (.inr (q, [])) := by
  intro g N sw L I k hs hG hk
  rw [lo1_e] at hlo
  refine ⟨I, ?_, fDm_rfl, hG⟩
  rw [y_Mo_readAnd_5 _, M_is hx hG.1 hG.2.1 hq hs ist_42, am_bd_ok, am_tl, y_Mo_readAnd_12 _ _, hlo, i_b0]
  rfl
theorem mA_yes (hx : x_ok X) (hd : d ≤ 6) (hq : q ≤ X.1) (hlo : lo_ X q 1 = true) {r1 : p_R} (h1 : mSp X w 160 0 (10 * (7 - d) + 4 + 20) [.int (Int32.ofNat d), am_u, am_u] (x_E X q) r1) {g N : Nat} {sw : Bool} {L : Nat → Nat → Int64} {I : Nat → Nat → Int32} {k : s_K} (hs : sO I) (hG : mG X w q k I) (hk : k.1 ≤ q) : ∃ I', am_R 159 (10 * (7 - d) + 5 + 20) 5 [.ref 147, .int (Int32.ofNat d)] [] (am_hp g N sw w I L) = am_R 159 (10 * (7 - d) + 5 + 20) 24 [.ref 147, .int (Int32.ofNat d)] [] (am_hp g N sw w I' L) ∧ fDm w I I' ∧ mE X w k r1 I' := by
  have hE := x_E_le hq
  rw [lo1_e] at hlo
  obtain ⟨I1, s1, s2, s3, s4⟩ := M_stp (g := g) (N := N) (sw := sw) (lv := w) (L := L) hx hs hq hG
  obtain ⟨I2, t1, t2, t3⟩ := h1 g N sw L I1 k s4 s2 (by omega)
  refine ⟨I2, ?_, fDm_tr s3 t2, t3⟩
  rw [y_Mo_readAnd_5 _, M_is hx hG.1 hG.2.1 hq hs ist_42, am_bd_ok, am_tl, y_Mo_readAnd_12 _ _, hlo, i_b0, Bool.not_true, cond_false, s1, am_bd_ok, am_tn, y_Mo_readAnd_19 _, nb_tn (by omega : d < 100000), bu_, blt_t (by omega), cond_true, t1, am_bd_ok, am_tn]
theorem mA_bad {fp : Nat × Nat} (h0 : 0 < fp.1 ∧ fp.1 < 100) {g N : Nat} {sw : Bool} {L : Nat → Nat → Int64} {I : Nat → Nat → Int32} (h : mF fp.1 fp.2 I) : am_R 159 (10 * (7 - d) + 5 + 20) 5 [.ref 147, .int (Int32.ofNat d)] [] (am_hp g N sw w I L) = some (.inl none, am_hp g N sw w I L) := by
  rw [y_Mo_readAnd_5 _, M_is' (mF_ne h h0.1 h0.2) ist_42, am_bd_ok, am_tl, y_Mo_readAnd_12 _ _, d_t rfl]
theorem mA_fl (hx : x_ok X) (hd : d ≤ 6) (hq : q ≤ X.1) (hlo : lo_ X q 1 = true) {fp : Nat × Nat} (h0 : 0 < fp.1 ∧ fp.1 < 100) (h1 : mSp X w 160 0 (10 * (7 - d) + 4 + 20) [.int (Int32.ofNat d), am_u, am_u] (x_E X q) (.inl fp)) : mSp X w 159 5 (10 * (7 - d) + 5 + 20) [.int (Int32.ofNat d)] q (.inl fp) := by
  intro g N sw L I k hs hG hk
  obtain ⟨I2, b1, b2, b3⟩ := mA_yes (g := g) (N := N) (sw := sw) (L := L) hx hd hq hlo h1 hs hG hk
  have b3' : mF fp.1 fp.2 I2 := b3
  refine ⟨I2, ?_, b2, b3⟩
  rw [b1, y_Mo_readAnd_24 _, d_f (mF_ne b3' h0.1 h0.2), mA_bad h0 b3']
theorem mA_ok (hx : x_ok X) (hd : d ≤ 6) (hq : q ≤ X.1) (hlo : lo_ X q 1 = true) {q1 : Nat} {cs : List Int32} {m : Nat} (h0 : gd X w (x_E X q) m 0 (.inr (q1, cs))) (h1 : mSp X w 160 0 (10 * (7 - d) + 4 + 20) [.int (Int32.ofNat d), am_u, am_u] (x_E X q) (.inr (q1, cs))) {r2 : p_R} (h2 : mSp X w 159 5 (10 * (7 - d) + 5 + 20) [.int (Int32.ofNat d)] q1 r2) : mSp X w 159 5 (10 * (7 - d) + 5 + 20) [.int (Int32.ofNat d)] q (sq (cs ++ [oh X q]) r2) := by
  intro g N sw L I k hs hG hk
  have hn := hx.1
  have hE := x_E_lt hq (lo_K (by decide) hlo).1
  obtain ⟨g1, g2, g3, -⟩ := h0
  dsimp only at g1 g2 g3
  obtain ⟨I2, b1, b2, b3⟩ := mA_yes (g := g) (N := N) (sw := sw) (L := L) hx hd hq hlo h1 hs hG hk
  have b3' : mG X w q1 (kap k cs) I2 := b3
  have k1 := kap_1 cs k
  have hk1 : (kap k cs).1 < q1 := by omega
  have c1 := M_layc (z := none) (x := mc (oh X q)) (F := fun I => am_R 159 (10 * (7 - d) + 5 + 20) 5 [.ref 147, .int (Int32.ofNat d)] [] (am_hp g N sw w I L)) b3'.2.2 b3'.2.1 (by omega)
  have c2 := mG_lay (c := oh X q) b3'
  have c3 : fDm w I _ := fDm_tr b2 (fDm_lay (m := (kap k cs).1) (x := mc (oh X q)))
  obtain ⟨I3, d1, d2, d3⟩ := h2 g N sw L _ _ (sO_fD c3 hs) c2 hk1
  refine ⟨I3, ?_, fDm_tr c3 d2, mE_sq ?_⟩
  · rw [b1, y_Mo_readAnd_24 _, ← oh_1 hlo]
    exact c1.trans d1
  · rw [kap_ap]
    exact d3
theorem mA_d1 (hd : d ≤ 6) {fp : Nat × Nat} (h0 : 0 < fp.1 ∧ fp.1 < 100) (h1 : mSp X w 160 0 (10 * (7 - d) + 4 + 20) [.int (Int32.ofNat d), am_u, am_u] q (.inl fp)) : mSp X w 159 0 (10 * (7 - d) + 5 + 20) [.int (Int32.ofNat d)] q (.inl fp) := by
  intro g N sw L I k hs hG hk
  obtain ⟨I2, b1, b2, b3⟩ := h1 g N sw L I k hs hG hk
  have b3' : mF fp.1 fp.2 I2 := b3
  refine ⟨I2, ?_, b2, b3⟩
  rw [y_Mo_readAnd_0 _, nb_tn (by omega : d < 100000), bu_, blt_t (by omega), cond_true, b1, am_bd_ok, am_tn, mA_bad h0 b3']
theorem mA_d2 (hd : d ≤ 6) {q1 : Nat} {cs : List Int32} {m : Nat} (h0 : gd X w q m 0 (.inr (q1, cs))) (h1 : mSp X w 160 0 (10 * (7 - d) + 4 + 20) [.int (Int32.ofNat d), am_u, am_u] q (.inr (q1, cs))) {r2 : p_R} (h2 : mSp X w 159 5 (10 * (7 - d) + 5 + 20) [.int (Int32.ofNat d)] q1 r2) : mSp X w 159 0 (10 * (7 - d) + 5 + 20) [.int (Int32.ofNat d)] q (sq cs r2) := by
  intro g N sw L I k hs hG hk
  obtain ⟨g1, g2, g3, -⟩ := h0
  dsimp only at g1 g2 g3
  obtain ⟨I2, b1, b2, b3⟩ := h1 g N sw L I k hs hG hk
  have b3' : mG X w q1 (kap k cs) I2 := b3
  have k1 := kap_1 cs k
  obtain ⟨I3, d1, d2, d3⟩ := h2 g N sw L I2 _ (sO_fD b2 hs) b3' (by omega)
  refine ⟨I3, ?_, fDm_tr b2 d2, mE_sq d3⟩
  rw [y_Mo_readAnd_0 _, nb_tn (by omega : d < 100000), bu_, blt_t (by omega), cond_true, b1, am_bd_ok, am_tn]
  exact d1
theorem mX_no (hx : x_ok X) (hq : q ≤ X.1) (hlo : lo_ X q 0 = false) (x2 : Int32) : mSp X w 157 67 (10 * (7 - d) + 6 + 20) [.int (Int32.ofNat d), .int x2] q (.inr (q, [])) := by
  intro g N sw L I k hs hG hk
  rw [lo0_e] at hlo
  refine ⟨I, ?_, fDm_rfl, hG⟩
  rw [y_Mo_readExpression_67 _ _, M_is hx hG.1 hG.2.1 hq hs ist_44, am_bd_ok, am_tl, y_Mo_readExpression_74 _ _ _, hlo, i_b0]
  rfl
theorem mX_yes (hx : x_ok X) (hd : d ≤ 6) (hq : q ≤ X.1) (hlo : lo_ X q 0 = true) {r1 : p_R} (h1 : mSp X w 159 0 (10 * (7 - d) + 5 + 20) [.int (Int32.ofNat d)] (x_E X q) r1) (x2 : Int32) {g N : Nat} {sw : Bool} {L : Nat → Nat → Int64} {I : Nat → Nat → Int32} {k : s_K} (hs : sO I) (hG : mG X w q k I) (hk : k.1 ≤ q) : ∃ I', am_R 157 (10 * (7 - d) + 6 + 20) 67 [.ref 147, .int (Int32.ofNat d), .int x2] [] (am_hp g N sw w I L) = am_R 157 (10 * (7 - d) + 6 + 20) 86 [.ref 147, .int (Int32.ofNat d), .int x2] [] (am_hp g N sw w I' L) ∧ fDm w I I' ∧ mE X w k r1 I' := by
  have hE := x_E_le hq
  rw [lo0_e] at hlo
  obtain ⟨I1, s1, s2, s3, s4⟩ := M_stp (g := g) (N := N) (sw := sw) (lv := w) (L := L) hx hs hq hG
  obtain ⟨I2, t1, t2, t3⟩ := h1 g N sw L I1 k s4 s2 (by omega)
  refine ⟨I2, ?_, fDm_tr s3 t2, t3⟩
  rw [y_Mo_readExpression_67 _ _, M_is hx hG.1 hG.2.1 hq hs ist_44, am_bd_ok, am_tl, y_Mo_readExpression_74 _ _ _, hlo, i_b0, Bool.not_true, cond_false, s1, am_bd_ok, am_tn, y_Mo_readExpression_81 _ _, nb_tn (by omega : d < 100000), bu_, blt_t (by omega), cond_true, t1, am_bd_ok, am_tn]
theorem mX_bad {fp : Nat × Nat} (h0 : 0 < fp.1 ∧ fp.1 < 100) {g N : Nat} {sw : Bool} {L : Nat → Nat → Int64} {I : Nat → Nat → Int32} (h : mF fp.1 fp.2 I) (x2 : Int32) : am_R 157 (10 * (7 - d) + 6 + 20) 67 [.ref 147, .int (Int32.ofNat d), .int x2] [] (am_hp g N sw w I L) = some (.inl none, am_hp g N sw w I L) := by
  rw [y_Mo_readExpression_67 _ _, M_is' (mF_ne h h0.1 h0.2) ist_44, am_bd_ok, am_tl, y_Mo_readExpression_74 _ _ _, d_t rfl]
theorem mX_fl (hx : x_ok X) (hd : d ≤ 6) (hq : q ≤ X.1) (hlo : lo_ X q 0 = true) {fp : Nat × Nat} (h0 : 0 < fp.1 ∧ fp.1 < 100) (h1 : mSp X w 159 0 (10 * (7 - d) + 5 + 20) [.int (Int32.ofNat d)] (x_E X q) (.inl fp)) (x2 : Int32) : mSp X w 157 67 (10 * (7 - d) + 6 + 20) [.int (Int32.ofNat d), .int x2] q (.inl fp) := by
  intro g N sw L I k hs hG hk
  obtain ⟨I2, b1, b2, b3⟩ := mX_yes (g := g) (N := N) (sw := sw) (L := L) hx hd hq hlo h1 x2 hs hG hk
  have b3' : mF fp.1 fp.2 I2 := b3
  refine ⟨I2, ?_, b2, b3⟩
  rw [b1, y_Mo_readExpression_86 _ _, d_f (mF_ne b3' h0.1 h0.2), mX_bad h0 b3' x2]
theorem mX_ok (hx : x_ok X) (hd : d ≤ 6) (hq : q ≤ X.1) (hlo : lo_ X q 0 = true) {q1 : Nat} {cs : List Int32} {m : Nat} (h0 : gd X w (x_E X q) m 0 (.inr (q1, cs))) (h1 : mSp X w 159 0 (10 * (7 - d) + 5 + 20) [.int (Int32.ofNat d)] (x_E X q) (.inr (q1, cs))) {r2 : p_R} (x2 : Int32) (h2 : mSp X w 157 67 (10 * (7 - d) + 6 + 20) [.int (Int32.ofNat d), .int x2] q1 r2) : mSp X w 157 67 (10 * (7 - d) + 6 + 20) [.int (Int32.ofNat d), .int x2] q (sq (cs ++ [oh X q]) r2) := by
  intro g N sw L I k hs hG hk
  have hn := hx.1
  have hE := x_E_lt hq (lo_K (by decide) hlo).1
  obtain ⟨g1, g2, g3, -⟩ := h0
  dsimp only at g1 g2 g3
  obtain ⟨I2, b1, b2, b3⟩ := mX_yes (g := g) (N := N) (sw := sw) (L := L) hx hd hq hlo h1 x2 hs hG hk
  have b3' : mG X w q1 (kap k cs) I2 := b3
  have k1 := kap_1 cs k
  have hk1 : (kap k cs).1 < q1 := by omega
  have c1 := M_layc (z := none) (x := mc (oh X q)) (F := fun I => am_R 157 (10 * (7 - d) + 6 + 20) 67 [.ref 147, .int (Int32.ofNat d), .int x2] [] (am_hp g N sw w I L)) b3'.2.2 b3'.2.1 (by omega)
  have c2 := mG_lay (c := oh X q) b3'
  have c3 : fDm w I _ := fDm_tr b2 (fDm_lay (m := (kap k cs).1) (x := mc (oh X q)))
  obtain ⟨I3, d1, d2, d3⟩ := h2 g N sw L _ _ (sO_fD c3 hs) c2 hk1
  refine ⟨I3, ?_, fDm_tr c3 d2, mE_sq ?_⟩
  · rw [b1, y_Mo_readExpression_86 _ _, ← oh_0 hlo]
    exact c1.trans d1
  · rw [kap_ap]
    exact d3
theorem mX_d1 (hd : d ≤ 6) {fp : Nat × Nat} (h0 : 0 < fp.1 ∧ fp.1 < 100) (h1 : mSp X w 159 0 (10 * (7 - d) + 5 + 20) [.int (Int32.ofNat d)] q (.inl fp)) (x2 : Int32) : mSp X w 157 62 (10 * (7 - d) + 6 + 20) [.int (Int32.ofNat d), .int x2] q (.inl fp) := by
  intro g N sw L I k hs hG hk
  obtain ⟨I2, b1, b2, b3⟩ := h1 g N sw L I k hs hG hk
  have b3' : mF fp.1 fp.2 I2 := b3
  refine ⟨I2, ?_, b2, b3⟩
  rw [y_Mo_readExpression_62 _ _, nb_tn (by omega : d < 100000), bu_, blt_t (by omega), cond_true, b1, am_bd_ok, am_tn, mX_bad h0 b3' x2]
theorem mX_d2 (hd : d ≤ 6) {q1 : Nat} {cs : List Int32} {m : Nat} (h0 : gd X w q m 0 (.inr (q1, cs))) (h1 : mSp X w 159 0 (10 * (7 - d) + 5 + 20) [.int (Int32.ofNat d)] q (.inr (q1, cs))) {r2 : p_R} (x2 : Int32) (h2 : mSp X w 157 67 (10 * (7 - d) + 6 + 20) [.int (Int32.ofNat d), .int x2] q1 r2) : mSp X w 157 62 (10 * (7 - d) + 6 + 20) [.int (Int32.ofNat d), .int x2] q (sq cs r2) := by
  intro g N sw L I k hs hG hk
  obtain ⟨g1, g2, g3, -⟩ := h0
  dsimp only at g1 g2 g3
  obtain ⟨I2, b1, b2, b3⟩ := h1 g N sw L I k hs hG hk
  have b3' : mG X w q1 (kap k cs) I2 := b3
  have k1 := kap_1 cs k
  obtain ⟨I3, d1, d2, d3⟩ := h2 g N sw L I2 _ (sO_fD b2 hs) b3' (by omega)
  refine ⟨I3, ?_, fDm_tr b2 d2, mE_sq d3⟩
  rw [y_Mo_readExpression_62 _ _, nb_tn (by omega : d < 100000), bu_, blt_t (by omega), cond_true, b1, am_bd_ok, am_tn]
  exact d1
end MROWS
/-- a wrong beginning -/
def bt (X : x_X) (q : Nat) (r : p_R) : Prop := x_K X q ≠ 1 → x_K X q ≠ 2 → x_K X q ≠ 40 → r = .inl (1, x_S X q)
section BROWS
variable {X : x_X} {rc ru : Nat} {w : Bool} {d m : Nat}
theorem R_prod (hx : x_ok X) (hr : am_isc rc) (hu : ru = rc + cond w 7 6) (hd : d ≤ 6) (hA : ∀ q, q ≤ X.1 → ∃ r, gd X w q m 0 r ∧ cSp X rc ru w 75 0 (10 * (7 - d) + 1 + 20) [.int 5, .int (Int32.ofNat d), am_u, am_u] q r ∧ (mSp X w 163 0 (10 * (7 - d) + 1 + 20) [.int (Int32.ofNat d), am_u] q r) ∧ bt X q r) : ∀ q, q ≤ X.1 → ∃ r, gd X w q (m + 1) 0 r ∧ cSp X rc ru w 75 0 (10 * (7 - d) + 2 + 20) [.int 4, .int (Int32.ofNat d), am_u, am_u] q r ∧ (mSp X w 162 0 (10 * (7 - d) + 2 + 20) [.int (Int32.ofNat d), am_u] q r) ∧ bt X q r :=
  row_ (lo := fun q => lo_ X q 4) (cd := oh X) (B := fun q r => (∀ j w6, j ≤ q → cSp X rc ru w 75 50 (10 * (7 - d) + 2 + 20) [.int 4, .int (Int32.ofNat d), .int (Int32.ofNat j), w6] q r) ∧ ∀ w2, mSp X w 162 5 (10 * (7 - d) + 2 + 20) [.int (Int32.ofNat d), w2] q r) (oh_op X) (fun q hq h => x_E_lt hq (lo_K (by decide) h).1) hA
    (fun q hq h => ⟨fun j w6 _ => cL_no hx hr hu hq h j w6, fun w2 => mP_no hx hq h w2⟩)
    (fun q fp hq h g1 ha => ⟨fun j w6 hj => cL_fl (p1 := 1) (x1 := 5) hx hr hu hd (by decide) (by decide) (by decide) (by decide) hq h ⟨g1.1, g1.2.1⟩ ha.1 hj w6, fun w2 => mP_fl hx hd hq h ⟨g1.1, g1.2.1⟩ ha.2.1 w2⟩)
    (fun q q1 cs r hq h g1 ha hb => ⟨fun j w6 hj => cL_ok (p1 := 1) (x1 := 5) hx hr hu hd (by decide) (by decide) (by decide) (by decide) hq h g1 ha.1 hb.1 hj w6, fun w2 => mP_ok hx hd hq h g1 ha.2.1 hb.2 w2⟩)
    (fun q fp hq g1 ha => ⟨cL_d1 (p1 := 1) (x1 := 5) hr hu hd (by decide) (by decide) (by decide) (by decide) (by decide) ⟨g1.1, g1.2.1⟩ ha.1, mP_d1 hd ⟨g1.1, g1.2.1⟩ ha.2.1, ha.2.2⟩)
    (fun q q1 cs r hq g1 ha hb => ⟨cL_d2 (p1 := 1) (x1 := 5) hr hu hd (by decide) (by decide) (by decide) (by decide) (by decide) g1 ha.1 hb.1, mP_d2 hd g1 ha.2.1 hb.2, fun a b c => absurd (ha.2.2 a b c) (by intro h; cases h)⟩)
theorem R_sum (hx : x_ok X) (hr : am_isc rc) (hu : ru = rc + cond w 7 6) (hd : d ≤ 6) (hA : ∀ q, q ≤ X.1 → ∃ r, gd X w q m 0 r ∧ cSp X rc ru w 75 0 (10 * (7 - d) + 2 + 20) [.int 4, .int (Int32.ofNat d), am_u, am_u] q r ∧ (mSp X w 162 0 (10 * (7 - d) + 2 + 20) [.int (Int32.ofNat d), am_u] q r) ∧ bt X q r) : ∀ q, q ≤ X.1 → ∃ r, gd X w q (m + 1) 0 r ∧ cSp X rc ru w 75 0 (10 * (7 - d) + 3 + 20) [.int 3, .int (Int32.ofNat d), am_u, am_u] q r ∧ (mSp X w 161 0 (10 * (7 - d) + 3 + 20) [.int (Int32.ofNat d), am_u] q r) ∧ bt X q r :=
  row_ (lo := fun q => lo_ X q 3) (cd := oh X) (B := fun q r => (∀ j w6, j ≤ q → cSp X rc ru w 75 50 (10 * (7 - d) + 3 + 20) [.int 3, .int (Int32.ofNat d), .int (Int32.ofNat j), w6] q r) ∧ ∀ w2, mSp X w 161 5 (10 * (7 - d) + 3 + 20) [.int (Int32.ofNat d), w2] q r) (oh_op X) (fun q hq h => x_E_lt hq (lo_K (by decide) h).1) hA
    (fun q hq h => ⟨fun j w6 _ => cL_no hx hr hu hq h j w6, fun w2 => mS_no hx hq h w2⟩)
    (fun q fp hq h g1 ha => ⟨fun j w6 hj => cL_fl (p1 := 2) (x1 := 4) hx hr hu hd (by decide) (by decide) (by decide) (by decide) hq h ⟨g1.1, g1.2.1⟩ ha.1 hj w6, fun w2 => mS_fl hx hd hq h ⟨g1.1, g1.2.1⟩ ha.2.1 w2⟩)
    (fun q q1 cs r hq h g1 ha hb => ⟨fun j w6 hj => cL_ok (p1 := 2) (x1 := 4) hx hr hu hd (by decide) (by decide) (by decide) (by decide) hq h g1 ha.1 hb.1 hj w6, fun w2 => mS_ok hx hd hq h g1 ha.2.1 hb.2 w2⟩)
    (fun q fp hq g1 ha => ⟨cL_d1 (p1 := 2) (x1 := 4) hr hu hd (by decide) (by decide) (by decide) (by decide) (by decide) ⟨g1.1, g1.2.1⟩ ha.1, mS_d1 hd ⟨g1.1, g1.2.1⟩ ha.2.1, ha.2.2⟩)
    (fun q q1 cs r hq g1 ha hb => ⟨cL_d2 (p1 := 2) (x1 := 4) hr hu hd (by decide) (by decide) (by decide) (by decide) (by decide) g1 ha.1 hb.1, mS_d2 hd g1 ha.2.1 hb.2, fun a b c => absurd (ha.2.2 a b c) (by intro h; cases h)⟩)
theorem R_and (hx : x_ok X) (hr : am_isc rc) (hu : ru = rc + cond w 7 6) (hd : d ≤ 6) (hA : ∀ q, q ≤ X.1 → ∃ r, gd X w q m 0 r ∧ cSp X rc ru w 75 0 (10 * (7 - d) + 5 + 20) [.int 2, .int (Int32.ofNat d), am_u, am_u] q r ∧ (mSp X w 160 0 (10 * (7 - d) + 4 + 20) [.int (Int32.ofNat d), am_u, am_u] q r) ∧ bt X q r) : ∀ q, q ≤ X.1 → ∃ r, gd X w q (m + 1) 0 r ∧ cSp X rc ru w 75 0 (10 * (7 - d) + 6 + 20) [.int 1, .int (Int32.ofNat d), am_u, am_u] q r ∧ (mSp X w 159 0 (10 * (7 - d) + 5 + 20) [.int (Int32.ofNat d)] q r) ∧ bt X q r :=
  row_ (lo := fun q => lo_ X q 1) (cd := oh X) (B := fun q r => (∀ j w6, j ≤ q → cSp X rc ru w 75 50 (10 * (7 - d) + 6 + 20) [.int 1, .int (Int32.ofNat d), .int (Int32.ofNat j), w6] q r) ∧ mSp X w 159 5 (10 * (7 - d) + 5 + 20) [.int (Int32.ofNat d)] q r) (oh_op X) (fun q hq h => x_E_lt hq (lo_K (by decide) h).1) hA
    (fun q hq h => ⟨fun j w6 _ => cL_no hx hr hu hq h j w6, mA_no hx hq h⟩)
    (fun q fp hq h g1 ha => ⟨fun j w6 hj => cL_fl (p1 := 5) (x1 := 2) hx hr hu hd (by decide) (by decide) (by decide) (by decide) hq h ⟨g1.1, g1.2.1⟩ ha.1 hj w6, mA_fl hx hd hq h ⟨g1.1, g1.2.1⟩ ha.2.1⟩)
    (fun q q1 cs r hq h g1 ha hb => ⟨fun j w6 hj => cL_ok (p1 := 5) (x1 := 2) hx hr hu hd (by decide) (by decide) (by decide) (by decide) hq h g1 ha.1 hb.1 hj w6, mA_ok hx hd hq h g1 ha.2.1 hb.2⟩)
    (fun q fp hq g1 ha => ⟨cL_d1 (p1 := 5) (x1 := 2) hr hu hd (by decide) (by decide) (by decide) (by decide) (by decide) ⟨g1.1, g1.2.1⟩ ha.1, mA_d1 hd ⟨g1.1, g1.2.1⟩ ha.2.1, ha.2.2⟩)
    (fun q q1 cs r hq g1 ha hb => ⟨cL_d2 (p1 := 5) (x1 := 2) hr hu hd (by decide) (by decide) (by decide) (by decide) (by decide) g1 ha.1 hb.1, mA_d2 hd g1 ha.2.1 hb.2, fun a b c => absurd (ha.2.2 a b c) (by intro h; cases h)⟩)
theorem R_or (hx : x_ok X) (hr : am_isc rc) (hu : ru = rc + cond w 7 6) (hd : d ≤ 6) (hA : ∀ q, q ≤ X.1 → ∃ r, gd X w q m 0 r ∧ cSp X rc ru w 75 0 (10 * (7 - d) + 6 + 20) [.int 1, .int (Int32.ofNat d), am_u, am_u] q r ∧ (mSp X w 159 0 (10 * (7 - d) + 5 + 20) [.int (Int32.ofNat d)] q r) ∧ bt X q r) : ∀ q, q ≤ X.1 → ∃ r, gd X w q (m + 1) 0 r ∧ cSp X rc ru w 75 0 (10 * (7 - d) + 7 + 20) [.int 0, .int (Int32.ofNat d), am_u, am_u] q r ∧ (∀ x2, mSp X w 157 62 (10 * (7 - d) + 6 + 20) [.int (Int32.ofNat d), .int x2] q r) ∧ bt X q r :=
  row_ (lo := fun q => lo_ X q 0) (cd := oh X) (B := fun q r => (∀ j w6, j ≤ q → cSp X rc ru w 75 50 (10 * (7 - d) + 7 + 20) [.int 0, .int (Int32.ofNat d), .int (Int32.ofNat j), w6] q r) ∧ ∀ x2, mSp X w 157 67 (10 * (7 - d) + 6 + 20) [.int (Int32.ofNat d), .int x2] q r) (oh_op X) (fun q hq h => x_E_lt hq (lo_K (by decide) h).1) hA
    (fun q hq h => ⟨fun j w6 _ => cL_no hx hr hu hq h j w6, fun x2 => mX_no hx hq h x2⟩)
    (fun q fp hq h g1 ha => ⟨fun j w6 hj => cL_fl (p1 := 6) (x1 := 1) hx hr hu hd (by decide) (by decide) (by decide) (by decide) hq h ⟨g1.1, g1.2.1⟩ ha.1 hj w6, fun x2 => mX_fl hx hd hq h ⟨g1.1, g1.2.1⟩ ha.2.1 x2⟩)
    (fun q q1 cs r hq h g1 ha hb => ⟨fun j w6 hj => cL_ok (p1 := 6) (x1 := 1) hx hr hu hd (by decide) (by decide) (by decide) (by decide) hq h g1 ha.1 hb.1 hj w6, fun x2 => mX_ok hx hd hq h g1 ha.2.1 x2 (hb.2 x2)⟩)
    (fun q fp hq g1 ha => ⟨cL_d1 (p1 := 6) (x1 := 1) hr hu hd (by decide) (by decide) (by decide) (by decide) (by decide) ⟨g1.1, g1.2.1⟩ ha.1, fun x2 => mX_d1 hd ⟨g1.1, g1.2.1⟩ ha.2.1 x2, ha.2.2⟩)
    (fun q q1 cs r hq g1 ha hb => ⟨cL_d2 (p1 := 6) (x1 := 1) hr hu hd (by decide) (by decide) (by decide) (by decide) (by decide) g1 ha.1 hb.1, fun x2 => mX_d2 hd g1 ha.2.1 x2 (hb.2 x2), fun a b c => absurd (ha.2.2 a b c) (by intro h; cases h)⟩)
end BROWS
