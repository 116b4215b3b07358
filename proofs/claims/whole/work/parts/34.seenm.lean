/-! WHAT IS SEEN: leant, in the reference -/
/-- all of it that lies ahead of day n is as seen -/
def w_b (E : e_E) (W : s_W) (T : tr_T) (n : Nat) : Bool := al W.1 (fun k => decide (n ≤ W.2.2.1 k) || w_k E W T k)
def w_q (E : e_E) (W : s_W) (T : tr_T) (n k : Nat) : Bool := !decide (W.2.2.1 k = n) || w_k E W T k
theorem w_b0 (E : e_E) (W : s_W) (T : tr_T) : w_b E W T 0 = true := al_iff.mpr fun k _ => by rw [decide_eq_true (Nat.zero_le _)]; rfl
theorem w_bl (E : e_E) (W : s_W) (T : tr_T) : w_b E W T (w_l W + 1) = w_s E W T := al_congr fun k hk => by
  have := w_l_ge hk
  rw [decide_eq_false (by omega)]
  rfl
theorem w_bf {E : e_E} {W : s_W} {T : tr_T} {n : Nat} (h : w_b E W T n = false) : w_s E W T = false := by
  cases q : w_s E W T with
  | false => rfl
  | true =>
    have : w_b E W T n = true := al_iff.mpr fun k hk => by rw [al_iff.mp q k hk, Bool.or_true]
    rw [h] at this
    cases this
theorem w_bs {E : e_E} {W : s_W} {T : tr_T} {n : Nat} (h : w_b E W T n = true) : al W.1 (w_q E W T n) = w_b E W T (n + 1) := by
  have e : (w_b E W T n && al W.1 (w_q E W T n)) = w_b E W T (n + 1) := by
    unfold w_b
    rw [al_and]
    refine al_congr fun k _ => ?_
    unfold w_q
    cases w_k E W T k with
    | true => rw [Bool.or_true, Bool.or_true, Bool.or_true]; rfl
    | false =>
      rw [Bool.or_false, Bool.or_false, Bool.or_false]
      by_cases h1 : n + 1 ≤ W.2.2.1 k
      · rw [decide_eq_true h1, decide_eq_true (by omega), decide_eq_false (by omega)]
        rfl
      · rw [decide_eq_false h1]
        by_cases h2 : W.2.2.1 k = n
        · rw [decide_eq_true h2, Bool.not_true, Bool.and_false]
        · rw [decide_eq_false (by omega : ¬ n ≤ W.2.2.1 k), Bool.false_and]
  rw [h, Bool.true_and] at e
  exact e
/-- what a look at what is seen leaves as it was -/
def fQ (I I' : Nat → Nat → Int32) : Prop := (∀ a, a ≠ 147 → (a < 162 ∨ a = 167 ∨ 170 < a) → a ≠ 174 → I' a = I a) ∧ ∀ j, j ≠ 33 → j ≠ 34 → I' 147 j = I 147 j
theorem fQ_rfl {I : Nat → Nat → Int32} : fQ I I := ⟨fun _ _ _ _ => rfl, fun _ _ _ => rfl⟩
theorem fQ_tr {I I' I'' : Nat → Nat → Int32} (h1 : fQ I I') (h2 : fQ I' I'') : fQ I I'' := ⟨fun a p q r => (h2.1 a p q r).trans (h1.1 a p q r), fun j p q => (h2.2 j p q).trans (h1.2 j p q)⟩
section SEENM
variable {g N : Nat} {sw lv : Bool} {I : Nat → Nat → Int32} {L : Nat → Nat → Int64} {T : tr_T} {E : e_E} {mb : Nat} {W : s_W}
theorem wMs_fQ {I' : Nat → Nat → Int32} (h : wMs 36 172 173 175 W I) (f : fQ I I') : wMs 36 172 173 175 W I' := wMs_fr h (f.2 36 (by decide) (by decide)) (f.1 172 (by decide) (by decide) (by decide)) (f.1 173 (by decide) (by decide) (by decide)) (f.1 175 (by decide) (by decide) (by decide))
theorem qM_fQ {I' : Nat → Nat → Int32} (h : qM E I) (f : fQ I I') : qM E I' := qM_fr h (fun a p q => f.1 a (by omega) (by omega) (by omega))
theorem M_asA (hw : wMs 36 172 173 175 W I) (hg : gW W) : ∀ c k, k + c = W.1 → am_R 251 7 13 [.ref 147, .int (Int32.ofNat (fd k (fun i a => max a (W.2.2.1 i)) 0)), .int (Int32.ofNat k), am_u, am_u] [] (am_hp g N sw lv I L) = am_R 251 7 42 [.ref 147, .int (Int32.ofNat (w_l W)), .int 1, .int 0, am_u] [] (am_hp g N sw lv I L)
  | 0, k, hc => by
    have hn := hg.1
    rw [y_Mo_isAsSeen_13 _ _, hw.1, nb_dle (by omega) (by omega), d_t (by omega : W.1 ≤ k), show k = W.1 by omega]
    rfl
  | c + 1, k, hc => by
    have hn := hg.1
    have ih := M_asA hw hg c (k + 1) (by omega)
    have h1 := (hg.2 k (by omega)).2
    have h2 := fd_max_le W.2.2.1 20 k (fun i hi => (hg.2 i (by omega)).2)
    rw [y_Mo_isAsSeen_13 _ _, hw.1, nb_dle (by omega) (by omega), d_f (by omega : ¬ W.1 ≤ k), nb_inb (show k < 8 by omega) (by omega), nb_tn (by omega), (hw.2 k (by omega)).2.1, nb_max (by omega) (by omega), nb_s]
    exact ih
theorem M_asI {T' : tr_T} {n : Nat} (hr : rM (t_dn E n T') I) (ht : t_ok (t_dn E n T')) (hw : wMs 36 172 173 175 W I) (hg : gW W) (hn : n ≤ 20) (x1 : Int32) : ∀ c j, j + c = W.1 → am_R 251 7 54 [.ref 147, .int x1, .int (cond (al j (w_q E W T' n)) 1 0), .int (Int32.ofNat n), .int (Int32.ofNat j)] [] (am_hp g N sw lv I L) = am_R 251 7 54 [.ref 147, .int x1, .int (cond (al W.1 (w_q E W T' n)) 1 0), .int (Int32.ofNat n), .int (Int32.ofNat W.1)] [] (am_hp g N sw lv I L)
  | 0, j, hc => by rw [show j = W.1 by omega]
  | c + 1, j, hc => by
    have h8 := hg.1
    have hj : j < W.1 := by omega
    obtain ⟨g1, g2⟩ := hg.2 j hj
    obtain ⟨u1, u2, u3⟩ := hw.2 j hj
    have ih := M_asI hr ht hw hg hn x1 c (j + 1) (by omega)
    have ea : al (j + 1) (w_q E W T' n) = (al j (w_q E W T' n) && w_q E W T' n j) := rfl
    rw [ea] at ih
    rw [y_Mo_isAsSeen_54 _ _ _ _, hw.1, nb_dle (by omega) (by omega), d_f (by omega : ¬ W.1 ≤ j), i_b0, nb_inb (show j < 8 by omega) (by omega), nb_tn (show j < 100000 by omega), u1, u2, nb_deq (by omega) (by omega), rM_pass hr ht (show W.2.1 j < 8 by omega), am_bd_ok, am_tl, y_Mo_isAsSeen_89 _ _ _ _ _, nb_inb (show j < 8 by omega) (by omega), nb_tn (show j < 100000 by omega), u3, i_b2, nb_s]
    cases hA : al j (w_q E W T' n) with
    | false =>
      rw [hA] at ih
      exact ih
    | true =>
      rw [hA, Bool.true_and] at ih
      simp only [cond_true, cond_false, Bool.not_true]
      unfold w_q at ih
      by_cases hd : W.2.2.1 j = n
      · rw [decide_eq_true hd, Bool.not_true, Bool.false_or] at ih
        rw [d_t hd]
        unfold w_k at ih
        rw [hd] at ih
        cases hq : (t_ps (t_dn E n T') (W.2.1 j) == W.2.2.2 j) with
        | true =>
          rw [hq] at ih
          exact ih
        | false =>
          rw [hq] at ih
          exact ih
      · rw [decide_eq_false hd, Bool.not_false, Bool.true_or] at ih
        rw [d_f hd]
        exact ih
theorem M_un4 {T' : tr_T} (ht : t_ok T') (h0 : I 151 0 = Int32.ofNat (t_n T')) (hp : pM 174 0 T' I) : ∃ I', am_R 214 1 0 [.ref 147, .ref 174, .int 0, am_u, am_u] [] (am_hp g N sw lv I L) = some (.inl none, am_hp g N sw lv I' L) ∧ rM T' I' ∧ fQ I I' := by
  obtain ⟨I', a1, a2, a3, a4⟩ := rM_unpack (g := g) (N := N) (sw := sw) (lv := lv) (L := L) (aa := 174) (by unfold am_isk; omega) ht h0 (o := 0) (show 0 + 42 ≤ 42 by decide) (show 42 ≤ 2000 by decide) hp
  exact ⟨I', a1, a2, fun a p q r => a3 a p (by omega) (by omega) (by omega) (by omega) (by omega), fun j p q => a4 j p q⟩
theorem M_asL {T' : tr_T} (ht : t_ok T') (hd : t_d T' ≤ 1000) (hq : qM E I) (h37 : I 147 37 = -1) (h0 : I 151 0 = Int32.ofNat (t_n T')) (hw : wMs 36 172 173 175 W I) (hg : gW W) : ∀ c n (I1 : Nat → Nat → Int32) (w4 : Value), n + c = w_l W + 1 → rM (t_dn E n T') I1 → pM 174 0 T' I1 → fQ I I1 → ∃ I2, am_R 251 7 42 [.ref 147, .int (Int32.ofNat (w_l W)), .int (cond (w_b E W T' n) 1 0), .int (Int32.ofNat n), w4] [] (am_hp g N sw lv I1 L) = some (.inl (some (.int (cond (w_s E W T') 1 0))), am_hp g N sw lv I2 L) ∧ rM T' I2 ∧ fQ I I2
  | 0, n, I1, w4, hc, hr, hp, f => by
    have hl := w_l_le hg
    obtain ⟨I2, a1, a2, a3⟩ := M_un4 (g := g) (N := N) (sw := sw) (lv := lv) (L := L) ht (by rw [f.1 151 (by decide) (by decide) (by decide)]; exact h0) hp
    refine ⟨I2, ?_, a2, fQ_tr f a3⟩
    rw [y_Mo_isAsSeen_42 _ _ _ _, nb_dlt (by omega) (by omega), d_t (by omega : w_l W < n), a1, am_bd_ok, am_tn, y_Mo_isAsSeen_130 _ _ _ _, narrowZ, show n = w_l W + 1 by omega, w_bl]
    rfl
  | c + 1, n, I1, w4, hc, hr, hp, f => by
    have hl := w_l_le hg
    have hd1 : t_d T' ≤ 1100 := Int32.le_trans hd (by decide)
    obtain ⟨m1, m2, m3⟩ := t_dn_ok (E := E) ht hd1 n (by omega)
    cases hb : w_b E W T' n with
    | false =>
      obtain ⟨I2, a1, a2, a3⟩ := M_un4 (g := g) (N := N) (sw := sw) (lv := lv) (L := L) ht (by rw [f.1 151 (by decide) (by decide) (by decide)]; exact h0) hp
      refine ⟨I2, ?_, a2, fQ_tr f a3⟩
      rw [y_Mo_isAsSeen_42 _ _ _ _, nb_dlt (by omega) (by omega), d_f (by omega : ¬ w_l W < n), i_b0, Bool.not_false, cond_true, a1, am_bd_ok, am_tn, y_Mo_isAsSeen_130 _ _ _ _, narrowZ, w_bf hb]
      rfl
    | true =>
      have hw1 := wMs_fQ hw f
      obtain ⟨I2, b1, b2, b3⟩ := rM_day (g := g) (N := N) (sw := sw) (lv := lv) (L := L) hr m1 (qM_fQ hq f) (qM_heat (qM_fQ hq f) hr m1 (by rw [f.2 37 (by decide) (by decide)]; exact h37))
      have f2 : fQ I1 I2 := ⟨fun a p q r => b3.1 a p (by omega) (by omega) (by omega) (by omega) (by omega), fun j p q => b3.2 j p q⟩
      obtain ⟨I3, c1, c2, c3⟩ := M_asL ht hd hq h37 h0 hw hg c (n + 1) I2 (.int (Int32.ofNat W.1)) (by omega) b2 (pM_fr hp (b3.1 174 (by decide) (by decide) (by decide) (by decide) (by decide) (by decide))) (fQ_tr f f2)
      refine ⟨I3, ?_, c2, c3⟩
      have hi := M_asI (g := g) (N := N) (sw := sw) (lv := lv) (L := L) hr m1 hw1 hg (by omega) (Int32.ofNat (w_l W)) W.1 0 (by omega)
      have h8 := hg.1
      rw [y_Mo_isAsSeen_42 _ _ _ _, nb_dlt (by omega) (by omega), d_f (by omega : ¬ w_l W < n), i_b0, Bool.not_true, cond_false]
      refine hi.trans ?_
      rw [y_Mo_isAsSeen_54 _ _ _ _, hw1.1, nb_dle (by omega) (by omega), d_t (Nat.le_refl _), b1, am_bd_ok, am_tn, y_Mo_isAsSeen_115 _ _ _ _, nb_s, w_bs hb]
      exact c1
theorem M_as {T' : tr_T} (ht : t_ok T') (hd : t_d T' ≤ 1000) (hr : rM T' I) (hq : qM E I) (h37 : I 147 37 = -1) (hw : wMs 36 172 173 175 W I) (hg : gW W) : ∃ I2, am_R 251 7 0 [.ref 147, am_u, am_u, am_u, am_u] [] (am_hp g N sw lv I L) = some (.inl (some (.int (cond (w_s E W T') 1 0))), am_hp g N sw lv I2 L) ∧ rM T' I2 ∧ fQ I I2 := by
  obtain ⟨I1, a1, a2, a3, -⟩ := rM_pack (g := g) (N := N) (sw := sw) (lv := lv) (L := L) (aa := 174) (by unfold am_isk; omega) hr ht (o := 0) (show 0 + 42 ≤ 42 by decide) (show 42 ≤ 2000 by decide)
  have f1 : fQ I I1 := ⟨fun a _ _ r => a2 a r, fun j _ _ => by rw [a2 147 (by decide)]⟩
  have r1 : rM T' I1 := rM_fr hr (fun a q => a2 a (by omega)) (by rw [a2 147 (by decide)]) (by rw [a2 147 (by decide)])
  obtain ⟨I2, b1, b2, b3⟩ := M_asL (g := g) (N := N) (sw := sw) (lv := lv) (L := L) ht hd hq h37 hr.1 hw hg (w_l W + 1) 0 I1 am_u (by omega) r1 a3 f1
  refine ⟨I2, ?_, b2, b3⟩
  have hA := M_asA (g := g) (N := N) (sw := sw) (lv := lv) (L := L) (wMs_fQ hw f1) hg W.1 0 (by omega)
  rw [w_b0] at b1
  rw [y_Mo_isAsSeen_0, show (.int 0 : Value) = .int (Int32.ofNat 0) from rfl, a1, am_bd_ok, am_tn, y_Mo_isAsSeen_9]
  exact hA.trans b1
/-- a row with another lean -/
def w_y (T : tr_T) (h : Nat) (y : Int32) : tr_T := t_put T (t_s T) (t_su T) (upd (t_le T) h y)
theorem w_yy (T : tr_T) (h : Nat) (y z : Int32) : w_y (w_y T h y) h z = w_y T h z := by
  have e : upd (upd (t_le T) h y) h z = upd (t_le T) h z := by
    funext j
    by_cases q : j = h
    · rw [q, upd_same, upd_same]
    · rw [upd_ne q, upd_ne q, upd_ne q]
  show t_put T (t_s T) (t_su T) (upd (upd (t_le T) h y) h z) = _
  rw [e]
  rfl
theorem w_y0 (T : tr_T) (h : Nat) : w_y T h (t_le T h) = T := by
  have e : upd (t_le T) h (t_le T h) = t_le T := by
    funext j
    by_cases q : j = h
    · rw [q, upd_same]
    · rw [upd_ne q]
  unfold w_y t_put
  rw [e]
theorem w_yT (T : tr_T) (h v : Nat) (hv : v < 17) : w_y T h (Int32.ofNat v - 8) = w_T T (17 * h + v) := by
  unfold w_y w_T
  rw [show (17 * h + v) / 17 = h by omega, show (17 * h + v) % 17 = v by omega]
/-- the guesses that hold are told up to here -/
def w_I (o : Nat × (Nat → Nat)) (I I1 : Nat → Nat → Int32) : Prop := I1 147 48 = Int32.ofNat o.1 ∧ (∀ i, i < o.1 → I1 176 i = w_c (o.2 i)) ∧ (∀ a, a ≠ 147 → (a < 162 ∨ a = 167 ∨ 170 < a) → a ≠ 174 → a ≠ 176 → I1 a = I a) ∧ ∀ j, j ≠ 33 → j ≠ 34 → j ≠ 48 → I1 147 j = I 147 j
theorem w_I_fQ {o : Nat × (Nat → Nat)} {I1 I2 : Nat → Nat → Int32} (h : w_I o I I1) (f : fQ I1 I2) : w_I o I I2 := by
  obtain ⟨h1, h2, h3, h4⟩ := h
  refine ⟨(f.2 48 (by decide) (by decide)).trans h1, fun i hi => ?_, fun a p q r s => (f.1 a p q r).trans (h3 a p q r s), fun j p q r => (f.2 j p q).trans (h4 j p q r)⟩
  rw [f.1 176 (by decide) (by decide) (by decide)]
  exact h2 i hi
theorem w_I_163 {o : Nat × (Nat → Nat)} {I1 : Nat → Nat → Int32} (h : w_I o I I1) (x : Nat → Int32) : w_I o I (am_up I1 163 x) := w_I_fQ h ⟨fun a p q r => up_ne (by omega), fun j p q => by rw [up_ne (by decide)]⟩
theorem M_tfI (ht : t_ok T) (hd : t_d T ≤ 1000) (hq : qM E I) (h37 : I 147 37 = -1) (hw : wMs 36 172 173 175 W I) (hg : gW W) {h : Nat} (hh : h < t_n T) : ∀ c v (y : Int32) (I1 : Nat → Nat → Int32), v + c = 17 → w_I (w_o E W T (17 * h + v)) I I1 → rM (w_y T h y) I1 → ∃ I2 w, am_R 252 8 26 [.ref 147, .int (Int32.ofNat h), .int (t_le T h), .int (Int32.ofNat v)] [] (am_hp g N sw lv I1 L) = am_R 252 8 7 [.ref 147, .int (Int32.ofNat (h + 1)), .int (t_le T h), w] [] (am_hp g N sw lv I2 L) ∧ w_I (w_o E W T (17 * (h + 1))) I I2 ∧ rM T I2
  | 0, v, y, I1, hc, hI, hr => by
    have hn := ht.1
    refine ⟨am_up I1 163 (upd (I1 163) h (t_le T h)), .int (Int32.ofNat v), ?_, ?_, ?_⟩
    · rw [y_Mo_tellFits_26 _ _ _, show decide ((17 : Int32) ≤ Int32.ofNat v) = decide (17 ≤ v) from nb_dle (a := 17) (by decide) (by omega), d_t (by omega : 17 ≤ v), nb_inb (show h < 8 by omega) (by omega), nb_tn (by omega), nb_s]
      rfl
    · rw [show 17 * (h + 1) = 17 * h + v by omega]
      exact w_I_163 hI _
    · have := rM_w2 hr h (t_le T h)
      have e : t_put (w_y T h y) (t_s (w_y T h y)) (t_su (w_y T h y)) (upd (t_le (w_y T h y)) h (t_le T h)) = T := (w_yy T h y (t_le T h)).trans (w_y0 T h)
      rw [e] at this
      exact this
  | c + 1, v, y, I1, hc, hI, hr => by
    have hn := ht.1
    have hst : v_Mo_stands I1 (Int32.ofNat h) = cond (t_up T h) 1 0 := by
      obtain ⟨-, -, r2, -⟩ := hr
      have r2' : I1 147 34 = Int32.ofNat (b_no (t_n T) (t_s T)) := r2
      unfold v_Mo_stands
      rw [r2', m_isof _ (b_no_lt _ (by omega) _ ht.2.1) h (by omega), b_no_at _ (by omega) _ ht.2.1 h hh, i_b0, Bool.not_not]
    cases hu : t_up T h with
    | false =>
      refine ⟨am_up I1 163 (upd (I1 163) h (t_le T h)), .int (Int32.ofNat v), ?_, ?_, ?_⟩
      · rw [y_Mo_tellFits_26 _ _ _, show decide ((17 : Int32) ≤ Int32.ofNat v) = decide (17 ≤ v) from nb_dle (a := 17) (by decide) (by omega), d_f (by omega : ¬ 17 ≤ v), hst, hu, nb_inb (show h < 8 by omega) (by omega), nb_tn (by omega), nb_s]
        rfl
      · have e : w_o E W T (17 * (h + 1)) = w_o E W T (17 * h + v) := by
          rw [show 17 * (h + 1) = 17 * h + v + (c + 1) by omega]
          refine w_o_skip (c + 1) (fun m q1 q2 => ?_)
          unfold w_f
          rw [show m / 17 = h by omega, hu, Bool.false_and, Bool.and_false]
        rw [e]
        exact w_I_163 hI _
      · have := rM_w2 hr h (t_le T h)
        have e : t_put (w_y T h y) (t_s (w_y T h y)) (t_su (w_y T h y)) (upd (t_le (w_y T h y)) h (t_le T h)) = T := (w_yy T h y (t_le T h)).trans (w_y0 T h)
        rw [e] at this
        exact this
    | true =>
      have r1 : rM (w_y T h (Int32.ofNat v - 8)) (am_up I1 163 (upd (I1 163) h (Int32.ofNat v - 8))) := by
        have := rM_w2 hr h (Int32.ofNat v - 8)
        have e : t_put (w_y T h y) (t_s (w_y T h y)) (t_su (w_y T h y)) (upd (t_le (w_y T h y)) h (Int32.ofNat v - 8)) = w_y T h (Int32.ofNat v - 8) := w_yy T h y _
        rw [e] at this
        exact this
      have hI1 := w_I_163 hI (upd (I1 163) h (Int32.ofNat v - 8))
      have hf : w_f E W T (17 * h + v) = (!decide (t_le T h = Int32.ofNat v - 8) && w_s E W (w_T T (17 * h + v))) := by
        unfold w_f
        rw [show (17 * h + v) / 17 = h by omega, show (17 * h + v) % 17 = v by omega, decide_eq_true hh, hu, Bool.true_and, Bool.true_and]
      by_cases he : t_le T h = Int32.ofNat v - 8
      · rw [decide_eq_true he, Bool.not_true, Bool.false_and] at hf
        obtain ⟨I2, w, b1, b2, b3⟩ := M_tfI ht hd hq h37 hw hg hh c (v + 1) _ _ (by omega) (by
          rw [show 17 * h + (v + 1) = 17 * h + v + 1 by omega, w_o_f hf]
          exact hI1) r1
        refine ⟨I2, w, ?_, b2, b3⟩
        rw [y_Mo_tellFits_26 _ _ _, show decide ((17 : Int32) ≤ Int32.ofNat v) = decide (17 ≤ v) from nb_dle (a := 17) (by decide) (by omega), d_f (by omega : ¬ 17 ≤ v), hst, hu, i_b0, nb_inb (show h < 8 by omega) (by omega), nb_tn (by omega), nb_s, nb_s, upd_same, d_t he.symm]
        exact b1
      · rw [decide_eq_false he, Bool.not_false, Bool.true_and] at hf
        have hT := w_yT T h v (by omega)
        rw [hT] at r1
        obtain ⟨I2, s1, s2, s3⟩ := M_as (g := g) (N := N) (sw := sw) (lv := lv) (L := L) (w_T_ok ht (17 * h + v)) hd r1 (qM_fr hq (fun a p q => hI1.2.2.1 a (by omega) (by omega) (by omega) (by omega))) ((hI1.2.2.2 37 (by decide) (by decide) (by decide)).trans h37) (wMs_fr hw (hI1.2.2.2 36 (by decide) (by decide) (by decide)) (hI1.2.2.1 172 (by decide) (by decide) (by decide) (by decide)) (hI1.2.2.1 173 (by decide) (by decide) (by decide) (by decide)) (hI1.2.2.1 175 (by decide) (by decide) (by decide) (by decide))) hg
        have hI2 := w_I_fQ hI1 s3
        have hl := w_o_le E W T (17 * h + v)
        have e26 : am_R 252 8 26 [.ref 147, .int (Int32.ofNat h), .int (t_le T h), .int (Int32.ofNat v)] [] (am_hp g N sw lv I1 L) = cond (w_f E W T (17 * h + v)) (am_R 252 8 26 [.ref 147, .int (Int32.ofNat h), .int (t_le T h), .int (Int32.ofNat (v + 1))] [] (am_hp g N sw lv (am_up (am_up I2 176 (upd (I2 176) (w_o E W T (17 * h + v)).1 (w_c (17 * h + v)))) 147 (upd (I2 147) 48 (Int32.ofNat ((w_o E W T (17 * h + v)).1 + 1)))) L)) (am_R 252 8 26 [.ref 147, .int (Int32.ofNat h), .int (t_le T h), .int (Int32.ofNat (v + 1))] [] (am_hp g N sw lv I2 L)) := by
          have ec : (100 * Int32.ofNat h) + Int32.ofNat v = w_c (17 * h + v) := by
            unfold w_c
            rw [show (17 * h + v) / 17 = h by omega, show (17 * h + v) % 17 = v by omega, show 100 * Int32.ofNat h = Int32.ofNat (100 * h) from nb_mul 100 h, nb_add]
          rw [y_Mo_tellFits_26 _ _ _, show decide ((17 : Int32) ≤ Int32.ofNat v) = decide (17 ≤ v) from nb_dle (a := 17) (by decide) (by omega), d_f (by omega : ¬ 17 ≤ v), hst, hu, i_b0, nb_inb (show h < 8 by omega) (by omega), nb_tn (show h < 100000 by omega), nb_s, nb_s, upd_same, d_f (show ¬ Int32.ofNat v - 8 = t_le T h from fun q => he q.symm), s1, am_bd_ok, am_tl, y_Mo_tellFits_64 _ _ _ _, i_b0, hI2.1, nb_inb (show (w_o E W T (17 * h + v)).1 < 136 by omega) (by omega), nb_tn (show (w_o E W T (17 * h + v)).1 < 100000 by omega), nb_s, nb_s, ec, hf]
          cases w_s E W (w_T T (17 * h + v)) <;> rfl
        cases hff : w_f E W T (17 * h + v) with
        | false =>
          obtain ⟨I3, w, b1, b2, b3⟩ := M_tfI ht hd hq h37 hw hg hh c (v + 1) (Int32.ofNat v - 8) I2 (by omega) (by
            rw [show 17 * h + (v + 1) = 17 * h + v + 1 by omega, w_o_f hff]
            exact hI2) (by rw [hT]; exact s2)
          refine ⟨I3, w, ?_, b2, b3⟩
          rw [e26, hff]
          exact b1
        | true =>
          obtain ⟨I3, w, b1, b2, b3⟩ := M_tfI ht hd hq h37 hw hg hh c (v + 1) (Int32.ofNat v - 8) (am_up (am_up I2 176 (upd (I2 176) (w_o E W T (17 * h + v)).1 (w_c (17 * h + v)))) 147 (upd (I2 147) 48 (Int32.ofNat ((w_o E W T (17 * h + v)).1 + 1)))) (by omega) (by
            rw [show 17 * h + (v + 1) = 17 * h + v + 1 by omega, w_o_t hff]
            refine ⟨by rw [up_same, upd_same], fun i hi => ?_, fun a p q r s => by rw [up_ne p, up_ne s]; exact hI2.2.2.1 a p q r s, fun j p q r => by rw [up_same, upd_ne r]; exact hI2.2.2.2 j p q r⟩
            have hi2 : i < (w_o E W T (17 * h + v)).1 + 1 := hi
            rw [up_ne (by decide), up_same]
            show _ = w_c (if i = (w_o E W T (17 * h + v)).1 then 17 * h + v else (w_o E W T (17 * h + v)).2 i)
            by_cases q : i = (w_o E W T (17 * h + v)).1
            · rw [if_pos q, q, upd_same]
            · rw [if_neg q, upd_ne q]
              exact hI2.2.1 i (by omega)) (by
            rw [hT]
            exact rM_fr s2 (fun a q => by rw [up_ne (by omega), up_ne (by omega)]) (by rw [up_same, upd_ne (by decide)]) (by rw [up_same, upd_ne (by decide)]))
          refine ⟨I3, w, ?_, b2, b3⟩
          rw [e26, hff]
          exact b1
theorem M_tfO (ht : t_ok T) (hd : t_d T ≤ 1000) (hq : qM E I) (h37 : I 147 37 = -1) (hw : wMs 36 172 173 175 W I) (hg : gW W) : ∀ c h (I1 : Nat → Nat → Int32) (w2 w3 : Value), h + c = t_n T → w_I (w_o E W T (17 * h)) I I1 → rM T I1 → ∃ I2, am_R 252 8 7 [.ref 147, .int (Int32.ofNat h), w2, w3] [] (am_hp g N sw lv I1 L) = some (.inl none, am_hp g N sw lv I2 L) ∧ w_I (w_o E W T 136) I I2 ∧ rM T I2
  | 0, h, I1, w2, w3, hc, hI, hr => by
    have hn := ht.1
    refine ⟨I1, ?_, ?_, hr⟩
    · rw [y_Mo_tellFits_7 _ _ _, hr.1, nb_dle (by omega) (by omega), d_t (by omega : t_n T ≤ h)]
    · have e : w_o E W T 136 = w_o E W T (17 * h) := by
        rw [show 136 = 17 * h + (136 - 17 * h) by omega]
        refine w_o_skip _ (fun m q1 q2 => ?_)
        unfold w_f
        rw [decide_eq_false (by omega : ¬ m / 17 < t_n T), Bool.false_and]
      rw [e]
      exact hI
  | c + 1, h, I1, w2, w3, hc, hI, hr => by
    have hn := ht.1
    have hh : h < t_n T := by omega
    obtain ⟨I2, w, a1, a2, a3⟩ := M_tfI (g := g) (N := N) (sw := sw) (lv := lv) (L := L) ht hd hq h37 hw hg hh 17 0 (t_le T h) I1 (by omega) hI (by rw [w_y0]; exact hr)
    obtain ⟨I3, b1, b2, b3⟩ := M_tfO ht hd hq h37 hw hg c (h + 1) I2 (.int (t_le T h)) w (by omega) a2 a3
    refine ⟨I3, ?_, b2, b3⟩
    rw [y_Mo_tellFits_7 _ _ _, hr.1, nb_dle (by omega) (by omega), d_f (by omega : ¬ t_n T ≤ h), nb_inb (show h < 8 by omega) (by omega), nb_tn (by omega), (hr.2.2.2.1 h hh).2.1]
    exact a1.trans b1
theorem M_tf (ht : t_ok T) (hd : t_d T ≤ 1000) (hr : rM T I) (hq : qM E I) (h37 : I 147 37 = -1) (hw : wMs 36 172 173 175 W I) (hg : gW W) : ∃ I2, am_R 252 8 0 [.ref 147, am_u, am_u, am_u] [] (am_hp g N sw lv I L) = some (.inl none, am_hp g N sw lv I2 L) ∧ w_I (w_o E W T 136) I I2 ∧ rM T I2 := by
  have r1 : rM T (am_up I 147 (upd (I 147) 48 0)) := rM_fr hr (fun a q => up_ne (by omega)) (by rw [up_same, upd_ne (by decide)]) (by rw [up_same, upd_ne (by decide)])
  have i1 : w_I (w_o E W T (17 * 0)) I (am_up I 147 (upd (I 147) 48 0)) := ⟨by rw [up_same, upd_same]; rfl, fun i hi => absurd hi (Nat.not_lt_zero i), fun a p _ _ _ => up_ne p, fun j _ _ r => by rw [up_same, upd_ne r]⟩
  obtain ⟨I2, a1, a2, a3⟩ := M_tfO (g := g) (N := N) (sw := sw) (lv := lv) (L := L) ht hd hq h37 hw hg (t_n T) 0 _ am_u am_u (by omega) i1 r1
  refine ⟨I2, ?_, a2, a3⟩
  rw [y_Mo_tellFits_0]
  exact a1
theorem zM_fQ {I' : Nat → Nat → Int32} (f : fQ I I') : zM I I' := ⟨fun a p q => f.1 a p (by omega) (by omega), fun j _ p q _ _ _ => f.2 j p q⟩
theorem zM_w_I {o : Nat × (Nat → Nat)} {I' : Nat → Nat → Int32} (f : w_I o I I') : zM I I' := ⟨fun a p q => f.2.2.1 a p (by omega) (by omega) (by omega), fun j _ p q _ r _ => f.2.2.2 j p q r⟩
theorem wMs_4 (hw : wMs 36 172 173 175 W I) : wMs 36 172 173 175 W (am_up I 147 (upd (I 147) 4 0)) := wMs_fr hw (by rw [up_same, upd_ne (by decide)]) (up_ne (by decide)) (up_ne (by decide)) (up_ne (by decide))
theorem M_leant (h : cM E mb T I) (ht : t_ok T) (hd : t_d T ≤ 1000) (hw : wMs 36 172 173 175 W I) (hg : gW W) (x1 : Int32) : oM g N sw lv L T I k1 (am_R 250 9 0 [.ref 147, .int x1] [] (am_hp g N sw lv I L)) (sp_leant E W T x1) := by
  have h4 := cM_4 h 0
  rw [y_Mo_leant_0 _, m_inL (a := 0) (b := 2) (by decide) (by decide)]
  unfold sp_leant
  cases h1 : gI 0 2 x1 with
  | false => exact oM_t (c := 0) h rfl
  | true =>
    have r0 := mR_0 h
    simp only [cond_true]
    rw [d_f (by decide : ¬ (1 : Int32) = 0)]
    cases h2 : decide (x1 = 2) with
    | true =>
      obtain ⟨I2, a1, a2, a3⟩ := M_as (g := g) (N := N) (sw := sw) (lv := lv) (L := L) ht hd h4.2.1 h4.1 h4.2.2.1 (wMs_4 hw) hg
      rw [cond_true, a1, am_bd_ok, am_tl, y_Mo_leant_32 _ _, i_b0]
      have r2 : mR T I I2 := ⟨a2, zM_tr r0.2.1 (zM_fQ a3), (a3.2 37 (by decide) (by decide)).trans r0.2.2.1, (a3.2 4 (by decide) (by decide)).trans r0.2.2.2⟩
      cases w_s E W T with
      | true => exact oM_r r2 rfl
      | false => exact oM_r r2 rfl
    | false =>
      obtain ⟨I2, a1, a2, a3⟩ := M_tf (g := g) (N := N) (sw := sw) (lv := lv) (L := L) ht hd h4.2.1 h4.1 h4.2.2.1 (wMs_4 hw) hg
      have r2 : mR T I I2 := ⟨a3, zM_tr r0.2.1 (zM_w_I a2), (a2.2.2.2 37 (by decide) (by decide) (by decide)).trans r0.2.2.1, (a2.2.2.2 4 (by decide) (by decide) (by decide)).trans r0.2.2.2⟩
      have hl := w_o_le E W T 136
      rw [cond_false, a1, am_bd_ok, am_tn, y_Mo_leant_45 _, a2.1, show decide (Int32.ofNat (w_o E W T 136).1 = 0) = decide ((w_o E W T 136).1 = 0) from nb_deq (b := 0) (by omega) (by decide)]
      cases decide (x1 = 0) with
      | true => exact oM_r r2 rfl
      | false =>
        unfold w_e
        by_cases h0 : (w_o E W T 136).1 = 0
        · rw [d_t h0, d_t h0]
          exact oM_r r2 rfl
        · rw [d_f h0, d_f h0, a2.2.1 0 (by omega)]
          exact oM_r r2 rfl
end SEENM
