/-! WHAT IS SEEN: leant -/
def al : Nat → (Nat → Bool) → Bool
  | 0, _ => true
  | n + 1, P => al n P && P n
theorem al_iff {P : Nat → Bool} : ∀ {n : Nat}, al n P = true ↔ ∀ k, k < n → P k = true
  | 0 => ⟨fun _ k hk => by omega, fun _ => rfl⟩
  | n + 1 => by
    unfold al
    rw [Bool.and_eq_true, al_iff]
    refine ⟨fun h k hk => ?_, fun h => ⟨fun k hk => h k (by omega), h n (by omega)⟩⟩
    by_cases q : k = n
    · rw [q]
      exact h.2
    · exact h.1 k (by omega)
theorem al_f {P : Nat → Bool} {n k : Nat} (hk : k < n) (h : P k = false) : al n P = false := by
  cases q : al n P with
  | false => rfl
  | true =>
    rw [al_iff.mp q k hk] at h
    cases h
theorem al_congr {P Q : Nat → Bool} : ∀ {n : Nat}, (∀ k, k < n → P k = Q k) → al n P = al n Q
  | 0, _ => rfl
  | n + 1, h => by
    unfold al
    rw [al_congr (fun k hk => h k (by omega)), h n (by omega)]
theorem al_and {P Q : Nat → Bool} : ∀ n, (al n P && al n Q) = al n (fun k => P k && Q k)
  | 0 => rfl
  | n + 1 => by
    show ((al n P && P n) && (al n Q && Q n)) = (al n (fun k => P k && Q k) && (P n && Q n))
    rw [← al_and n]
    cases al n P <;> cases al n Q <;> cases P n <;> cases Q n <;> rfl
/-- the latest day of what is seen -/
def w_l (W : s_W) : Nat := fd W.1 (fun i a => max a (W.2.2.1 i)) 0
theorem fd_max_ge (f : Nat → Nat) : ∀ n i, i < n → f i ≤ fd n (fun i a => max a (f i)) 0
  | 0, _, h => by omega
  | n + 1, i, h => by
    show f i ≤ max (fd n (fun i a => max a (f i)) 0) (f n)
    by_cases q : i = n
    · rw [q]
      exact Nat.le_max_right _ _
    · exact Nat.le_trans (fd_max_ge f n i (by omega)) (Nat.le_max_left _ _)
theorem fd_max_le (f : Nat → Nat) (b : Nat) : ∀ n, (∀ i, i < n → f i ≤ b) → fd n (fun i a => max a (f i)) 0 ≤ b
  | 0, _ => Nat.zero_le _
  | n + 1, h => by
    show max (fd n (fun i a => max a (f i)) 0) (f n) ≤ b
    exact Nat.max_le.mpr ⟨fd_max_le f b n (fun i hi => h i (by omega)), h n (by omega)⟩
theorem w_l_le {W : s_W} (h : gW W) : w_l W ≤ 20 := fd_max_le _ 20 _ (fun i hi => (h.2 i hi).2)
theorem w_l_ge {W : s_W} {i : Nat} (hi : i < W.1) : W.2.2.1 i ≤ w_l W := fd_max_ge W.2.2.1 W.1 i hi
/-- it would be as seen -/
def w_k (E : e_E) (W : s_W) (T : tr_T) (k : Nat) : Bool := t_ps (t_dn E (W.2.2.1 k) T) (W.2.1 k) == W.2.2.2 k
def w_s (E : e_E) (W : s_W) (T : tr_T) : Bool := al W.1 (w_k E W T)
/-- a guess: whose lean, which -/
def w_T (T : tr_T) (m : Nat) : tr_T := t_put T (t_s T) (t_su T) (upd (t_le T) (m / 17) (Int32.ofNat (m % 17) - 8))
def w_f (E : e_E) (W : s_W) (T : tr_T) (m : Nat) : Bool := decide (m / 17 < t_n T) && (t_up T (m / 17) && (!decide (t_le T (m / 17) = Int32.ofNat (m % 17) - 8) && w_s E W (w_T T m)))
/-- the guesses that hold: how many, which -/
def w_o (E : e_E) (W : s_W) (T : tr_T) : Nat → Nat × (Nat → Nat)
  | 0 => (0, fun _ => 0)
  | m + 1 => cond (w_f E W T m) ((w_o E W T m).1 + 1, fun i => if i = (w_o E W T m).1 then m else (w_o E W T m).2 i) (w_o E W T m)
def w_c (m : Nat) : Int32 := Int32.ofNat (100 * (m / 17) + m % 17)
def w_e (o : Nat × (Nat → Nat)) : Int32 := cond (decide (o.1 = 0)) (-1) (w_c (o.2 0))
theorem w_8 : ∀ m, m < 17 → (-9) ≤ Int32.ofNat m - 8 ∧ Int32.ofNat m - 8 ≤ 9 := by decide
theorem w_T_ok {T : tr_T} (ht : t_ok T) (m : Nat) : t_ok (w_T T m) := t_ok_put ht ht.2.1 (fun j hj => (ht.2.2.2.1 j hj).1) (fun j hj => by
  by_cases q : j = m / 17
  · rw [q, upd_same]
    exact w_8 _ (Nat.mod_lt _ (by decide))
  · rw [upd_ne q]
    exact (ht.2.2.2.1 j hj).2.1)
theorem w_o_t {E : e_E} {W : s_W} {T : tr_T} {m : Nat} (h : w_f E W T m = true) : w_o E W T (m + 1) = ((w_o E W T m).1 + 1, fun i => if i = (w_o E W T m).1 then m else (w_o E W T m).2 i) := by
  show cond (w_f E W T m) _ _ = _
  rw [h]
  rfl
theorem w_o_f {E : e_E} {W : s_W} {T : tr_T} {m : Nat} (h : w_f E W T m = false) : w_o E W T (m + 1) = w_o E W T m := by
  show cond (w_f E W T m) _ _ = _
  rw [h]
  rfl
theorem w_o_le (E : e_E) (W : s_W) (T : tr_T) : ∀ m, (w_o E W T m).1 ≤ m
  | 0 => Nat.le_refl _
  | m + 1 => by
    have ih := w_o_le E W T m
    cases h : w_f E W T m with
    | true =>
      rw [w_o_t h]
      exact Nat.succ_le_succ ih
    | false =>
      rw [w_o_f h]
      omega
theorem w_o_at (E : e_E) (W : s_W) (T : tr_T) : ∀ m i, i < (w_o E W T m).1 → (w_o E W T m).2 i < m ∧ w_f E W T ((w_o E W T m).2 i) = true
  | 0, i, h => by
    have : i < 0 := h
    omega
  | m + 1, i, h => by
    have ih := w_o_at E W T m
    cases hf : w_f E W T m with
    | true =>
      rw [w_o_t hf] at h ⊢
      dsimp only at h ⊢
      by_cases q : i = (w_o E W T m).1
      · rw [if_pos q]
        exact ⟨Nat.lt_succ_self m, hf⟩
      · rw [if_neg q]
        have := ih i (by omega)
        exact ⟨by omega, this.2⟩
    | false =>
      rw [w_o_f hf] at h ⊢
      have := ih i h
      exact ⟨by omega, this.2⟩
theorem w_o_skip {E : e_E} {W : s_W} {T : tr_T} {a : Nat} : ∀ c, (∀ m, a ≤ m → m < a + c → w_f E W T m = false) → w_o E W T (a + c) = w_o E W T a
  | 0, _ => rfl
  | c + 1, h => by
    rw [show a + (c + 1) = a + c + 1 from rfl, w_o_f (h (a + c) (by omega) (by omega)), w_o_skip c (fun m h1 h2 => h m h1 (by omega))]
theorem w_e_n (o : Nat × (Nat → Nat)) (h : 0 < o.1 → o.2 0 < 136) : decide (w_e o = -1) = decide (o.1 = 0) := by
  unfold w_e
  by_cases q : o.1 = 0
  · rw [d_t q, decide_eq_true q]
    rfl
  · rw [d_f q, decide_eq_false q]
    have := h (by omega)
    exact decide_eq_false (nb_n1 (by omega))
def sp_leant (E : e_E) (W : s_W) (T : tr_T) (x : Int32) : a_O := cond (gI 0 2 x) (.inl (cond (decide (x = 2)) (cond (w_s E W T) 1 0) (cond (decide (x = 0)) (Int32.ofNat (w_o E W T 136).1) (w_e (w_o E W T 136))))) (.inr 0)
section SEEN
variable {g N : Nat} {sw lv : Bool} {I : Nat → Nat → Int32} {L : Nat → Nat → Int64} {T : tr_T} {E : e_E} {mb : Nat} {W : s_W}
theorem C_latL (hw : wCs 121 W I) (hg : gW W) : ∀ c k, k + c = W.1 → am_R 128 2 4 [.ref 121, .int (Int32.ofNat (fd k (fun i a => max a (W.2.2.1 i)) 0)), .int (Int32.ofNat k)] [] (am_hp g N sw lv I L) = some (.inl (some (.int (Int32.ofNat (w_l W)))), am_hp g N sw lv I L)
  | 0, k, hc => by
    have hn := hg.1
    rw [y_Se_latestDay_4 _ _ (Or.inl rfl), hw.1, nb_dle (by omega) (by omega), d_t (by omega : W.1 ≤ k), show k = W.1 by omega]
    rfl
  | c + 1, k, hc => by
    have hn := hg.1
    have ih := C_latL hw hg c (k + 1) (by omega)
    have h1 := (hg.2 k (by omega)).2
    have h2 := fd_max_le W.2.2.1 20 k (fun i hi => (hg.2 i (by omega)).2)
    rw [y_Se_latestDay_4 _ _ (Or.inl rfl), hw.1, nb_dle (by omega) (by omega), d_f (by omega : ¬ W.1 ≤ k), nb_inb (show k < 8 by omega) (by omega), nb_tn (by omega), (hw.2 k (by omega)).2.1, nb_max (by omega) (by omega), nb_s]
    exact ih
theorem C_lat (hw : wCs 121 W I) (hg : gW W) : am_R 128 2 0 [.ref 121, am_u, am_u] [] (am_hp g N sw lv I L) = some (.inl (some (.int (Int32.ofNat (w_l W)))), am_hp g N sw lv I L) := by
  rw [y_Se_latestDay_0 (Or.inl rfl)]
  exact C_latL hw hg W.1 0 (by omega)
/-- looking ahead: days d to m -/
theorem C_foL (h : cC E mb T sw I) {T' : tr_T} (ht : t_ok T') (hd : t_d T' ≤ 1000) (x1 : Int32) {m : Nat} (hm : m ≤ 20) : ∀ c d (I1 : Nat → Nat → Int32), d + c = m + 1 → zf I I1 → rC 109 (t_dn E (d - 1) T') I1 → (∀ j, j < d → I1 145 j = Int32.ofNat (t_pg (t_dn E j T'))) → ∃ I2, am_R 129 6 6 [.ref 75, .int x1, .int (Int32.ofNat m), .int (Int32.ofNat d)] [] (am_hp g N sw lv I1 L) = some (.inl none, am_hp g N sw lv I2 L) ∧ zf I I2 ∧ rC 109 (t_dn E m T') I2 ∧ ∀ j, j < m + 1 → I2 145 j = Int32.ofNat (t_pg (t_dn E j T'))
  | 0, d, I1, hc, z, hr, hp => by
    refine ⟨I1, ?_, z, by rw [show m = d - 1 by omega]; exact hr, fun j hj => hp j (by omega)⟩
    rw [y_Ca_foresee_6 _ _ _, nb_dlt (by omega) (by omega), d_t (by omega : m < d)]
  | c + 1, d, I1, hc, z, hr, hp => by
    have hd1 : t_d T' ≤ 1100 := Int32.le_trans hd (by decide)
    have hc1 := cC_zf h z
    obtain ⟨k1, k2, k3⟩ := t_dn_ok (E := E) ht hd1 (d - 1) (by omega)
    obtain ⟨m1, m2, m3⟩ := t_dn_ok (E := E) ht hd1 d (by omega)
    obtain ⟨w1, w2⟩ := qC_heat hc1.1 k1.2.2.1.1 k1.2.2.1.2
    have step : ∃ J, (cond (decide (Int32.ofNat d ≤ 0)) (am_R 129 6 49 [.ref 75, .int x1, .int (Int32.ofNat m), .int (Int32.ofNat d)] [] (am_hp g N sw lv I1 L)) (am_bd (am_R 18 5 0 [.ref 109, .ref (cond sw 89 79), .int (e_on E (t_d (t_dn E (d - 1) T'))), am_u, am_u] [] (am_hp g N sw lv I1 L)) (fun v h => am_R 129 6 49 [.ref 75, .int x1, .int (Int32.ofNat m), .int (Int32.ofNat d)] (v.toList ++ []) h) (fun _ _ => none)) : Option am_Res) = am_R 129 6 49 [.ref 75, .int x1, .int (Int32.ofNat m), .int (Int32.ofNat d)] [] (am_hp g N sw lv J L) ∧ zf I J ∧ rC 109 (t_dn E d T') J ∧ J 145 = I1 145 := by
      rw [show decide (Int32.ofNat d ≤ 0) = decide (d ≤ 0) from nb_dle (b := 0) (by omega) (by decide)]
      by_cases h0 : d ≤ 0
      · rw [d_t h0]
        have e : d = 0 := by omega
        subst e
        exact ⟨I1, rfl, z, hr, rfl⟩
      · rw [d_f h0]
        obtain ⟨J, a1, a2, a3⟩ := rC_day (g := g) (N := N) (sw := sw) (lv := lv) (L := L) (w := e_on E (t_d (t_dn E (d - 1) T'))) a_109 (a_isc sw) hr k1 hc1.1
        refine ⟨J, ?_, zf_tr z (fun a q => a3 a (by omega) (by omega) (by omega) (by omega) (by omega) (by cases sw <;> simp only [cond_true, cond_false] <;> omega)), ?_, a3 145 (by decide) (by decide) (by decide) (by decide) (by decide) (by cases sw <;> decide)⟩
        · rw [a1, am_bd_ok, am_tn]
        · have e : t_dn E d T' = t_day E (e_on E (t_d (t_dn E (d - 1) T'))) (t_dn E (d - 1) T') := by
            have : d = d - 1 + 1 := by omega
            rw [this]
            rfl
          rw [e]
          exact a2
    obtain ⟨J, s1, s2, s3, s4⟩ := step
    obtain ⟨J2, b1, b2, b3⟩ := C_pg (g := g) (N := N) (sw := sw) (lv := lv) (L := L) s3 m1
    have b4 : J2 145 = I1 145 := by
      obtain ⟨J3, c1, c2⟩ := rC_pg (g := g) (N := N) (sw := sw) (lv := lv) (L := L) a_109 s3 m1
      rw [b1] at c1
      have e : J2 = J3 := by
        injection c1 with c1
        injection c1 with _ c1
        unfold am_hp at c1
        injection c1 with _ c1
        injection c1 with _ c1
        injection c1
      rw [e, c2 145 (by decide)]
      exact s4
    obtain ⟨J4, d1, d2, d3, d4⟩ := C_foL h ht hd x1 hm c (d + 1) (am_up J2 145 (upd (J2 145) d (Int32.ofNat (t_pg (t_dn E d T'))))) (by omega) (zf_tr s2 (zf_tr b2 (fun a q => up_ne (by omega)))) (rC_fr b3 (fun a p q => up_ne (by omega))) (fun j hj => by
      rw [up_same]
      by_cases q : j = d
      · rw [q, upd_same]
      · rw [upd_ne q, b4]
        exact hp j (by omega))
    refine ⟨J4, ?_, d2, d3, d4⟩
    rw [y_Ca_foresee_6 _ _ _, nb_dlt (by omega) (by omega), d_f (by omega : ¬ m < d), nb_dle (by decide) (by omega), d_f (by omega : ¬ 21 ≤ d), hr.2.1, w1, w2]
    simp only [cond_true]
    rw [s1, y_Ca_foresee_49 _ _ _, b1, am_bd_ok, am_tl, y_Ca_foresee_61 _ _ _ _ _, nb_inb (show d < 21 by omega) (by omega), nb_tn (by omega), nb_s]
    exact d1
theorem C_soL (hw : wCs 121 W I) (hg : gW W) {T' : tr_T} (hp : ∀ k, k < W.1 → I 145 (W.2.2.1 k) = Int32.ofNat (t_pg (t_dn E (W.2.2.1 k) T'))) : ∀ c k, k + c = W.1 → al k (w_k E W T') = true → am_R 130 1 2 [.ref 121, .ref 145, .int (Int32.ofNat k)] [] (am_hp g N sw lv I L) = some (.inl (some (.int (cond (w_s E W T') 1 0))), am_hp g N sw lv I L)
  | 0, k, hc, ha => by
    have hn := hg.1
    have e : w_s E W T' = true := by
      unfold w_s
      rw [show W.1 = k by omega]
      exact ha
    rw [y_Se_isSo_2 _ (Or.inl rfl), hw.1, nb_dle (by omega) (by omega), d_t (by omega : W.1 ≤ k), e]
    rfl
  | c + 1, k, hc, ha => by
    have hn := hg.1
    have hk : k < W.1 := by omega
    obtain ⟨g1, g2⟩ := hg.2 k hk
    have ih := C_soL hw hg hp c (k + 1) (by omega)
    obtain ⟨u1, u2, u3⟩ := hw.2 k hk
    have e : (t_pg (t_dn E (W.2.2.1 k) T')).testBit (W.2.1 k) = t_ps (t_dn E (W.2.2.1 k) T') (W.2.1 k) := by
      unfold t_pg
      rw [bs_at, decide_eq_true g1, Bool.true_and]
    rw [y_Se_isSo_2 _ (Or.inl rfl), hw.1, nb_dle (by omega) (by omega), d_f (by omega : ¬ W.1 ≤ k), nb_inb (show k < 8 by omega) (by omega), nb_tn (show k < 100000 by omega), u1, u2, u3, nb_dle (by decide) (by omega), d_f (by omega : ¬ 21 ≤ W.2.2.1 k), nb_inb (show W.2.2.1 k < 21 by omega) (by omega), nb_tn (show W.2.2.1 k < 100000 by omega), hp k hk, bt_v _ (t_pg_lt _) _ (by omega), e, i_b2, nb_s]
    simp only [cond_true]
    cases hq : (t_ps (t_dn E (W.2.2.1 k) T') (W.2.1 k) == W.2.2.2 k) with
    | true =>
      exact ih (by
        show (al k (w_k E W T') && w_k E W T' k) = true
        rw [ha]
        exact hq)
    | false =>
      have : w_s E W T' = false := al_f hk hq
      rw [this]
      rfl
theorem C_so (hw : wCs 121 W I) (hg : gW W) {T' : tr_T} (hp : ∀ k, k < W.1 → I 145 (W.2.2.1 k) = Int32.ofNat (t_pg (t_dn E (W.2.2.1 k) T'))) : am_R 130 1 0 [.ref 121, .ref 145, am_u] [] (am_hp g N sw lv I L) = some (.inl (some (.int (cond (w_s E W T') 1 0))), am_hp g N sw lv I L) := by
  rw [y_Se_isSo_0 (Or.inl rfl)]
  exact C_soL hw hg hp W.1 0 (by omega) rfl
theorem C_guess (h : cC E mb T sw I) (ht : t_ok T) (hd : t_d T ≤ 1000) (hw : wCs 121 W I) (hg : gW W) {m : Nat} (hm : m < 136) {I1 : Nat → Nat → Int32} (z : zf I I1) : ∃ I2, am_R 131 8 0 [.ref 75, .int (Int32.ofNat m), .int (Int32.ofNat (w_l W)), am_u, am_u] [] (am_hp g N sw lv I1 L) = some (.inl (some (.int (cond (w_f E W T m) 1 0))), am_hp g N sw lv I2 L) ∧ zf I I2 ∧ (w_f E W T m = true → rC 109 (t_dn E (w_l W) (w_T T m)) I2 ∧ ∀ j, j < w_l W + 1 → I2 145 j = Int32.ofNat (t_pg (t_dn E j (w_T T m)))) := by
  have hn := ht.1
  have h1 := cC_zf h z
  have hl := w_l_le hg
  have e1 : Int32.ofNat m / 17 = Int32.ofNat (m / 17) := nb_div (n := 17) (by omega) (by decide)
  have e2 : Int32.ofNat m - Int32.ofNat (m / 17) * 17 = Int32.ofNat (m % 17) := by
    have := nb_mod (v := m) (n := 17) (by omega) (by decide)
    rw [nb_div (by omega) (by decide)] at this
    exact this
  obtain ⟨I2, a1, a2, a3, -, a4, -⟩ := C_cp h1 ht
  rw [y_Ca_tryGuess_0 _ _, a1, ← a4, e1, e2, h1.2.1.1, nb_dle (by omega) (by omega)]
  unfold w_f
  by_cases hk : m / 17 < t_n T
  · rw [d_f (by omega : ¬ t_n T ≤ m / 17), decide_eq_true hk, rC_stands h1.2.1 ht hk, i_b0, nb_inb (show m / 17 < 8 by omega) (by omega), nb_tn (by omega), show I1 101 (m / 17) = t_le T (m / 17) from (h1.2.1.2.2.2.1 _ hk).2.1]
    cases hu : t_up T (m / 17) with
    | false => exact ⟨I1, rfl, z, fun q => by cases q⟩
    | true =>
      cases hv : decide (t_le T (m / 17) = Int32.ofNat (m % 17) - 8) with
      | true => exact ⟨I1, rfl, z, fun q => by cases q⟩
      | false =>
        have w1 : rC 109 (w_T T m) (am_up I2 111 (upd (I2 111) (m / 17) (Int32.ofNat (m % 17) - 8))) := rC_w2 (r := 109) a2 _ _
        have z2 : zf I (am_up I2 111 (upd (I2 111) (m / 17) (Int32.ofNat (m % 17) - 8))) := zf_tr (zf_tr z a3) (fun a q => up_ne (by omega))
        obtain ⟨I3, b1, b2, b3, b4⟩ := C_foL (g := g) (N := N) (lv := lv) (L := L) h (w_T_ok ht m) hd 0 hl (w_l W + 1) 0 _ (by omega) z2 w1 (fun j hj => by omega)
        have hs := C_so (g := g) (N := N) (sw := sw) (lv := lv) (L := L) (E := E) (T' := w_T T m) (wCs_fr hw (fun a p q => b2 a (by omega))) hg (fun k hk => b4 _ (by have := w_l_ge hk; omega))
        refine ⟨I3, ?_, b2, fun _ => ⟨b3, b4⟩⟩
        simp only [Bool.true_and, Bool.not_true, Bool.not_false, cond_true, cond_false]
        rw [y_Ca_foresee_0 _ _, show v_Ma_max 0 0 = Int32.ofNat 0 from rfl, show (Int32.ofNat 0 : Int32) = 0 from rfl]
        rw [show (.int 0 : Value) = .int (Int32.ofNat 0) from rfl] at b1 ⊢
        rw [b1, am_bd_ok, am_tn, y_Ca_tryGuess_80 _ _ _ _, hs, am_bd_ok, am_tl, y_Ca_tryGuess_91 _ _ _ _ _, narrowZ]
        rfl
  · rw [d_t (by omega : t_n T ≤ m / 17), decide_eq_false hk]
    exact ⟨I1, rfl, z, fun q => by cases q⟩
theorem C_leL (h : cC E mb T sw I) (ht : t_ok T) (hd : t_d T ≤ 1000) (hw : wCs 121 W I) (hg : gW W) (x1 : Int32) : ∀ c m (I1 : Nat → Nat → Int32), m + c = 136 → zf I I1 → ∃ I2, am_R 127 9 63 [.ref 75, .int x1, .int (Int32.ofNat (w_l W)), .int (Int32.ofNat (w_o E W T m).1), .int (w_e (w_o E W T m)), .int (Int32.ofNat m)] [] (am_hp g N sw lv I1 L) = some (.inl (some (.int (cond (decide (x1 = 0)) (Int32.ofNat (w_o E W T 136).1) (w_e (w_o E W T 136))))), am_hp g N sw lv I2 L) ∧ zf I I2
  | 0, m, I1, hc, z => by
    refine ⟨I1, ?_, z⟩
    rw [y_Ca_leant_63 _ _ _ _ _, show decide ((136 : Int32) ≤ Int32.ofNat m) = decide (136 ≤ m) from nb_dle (a := 136) (by decide) (by omega), d_t (by omega : 136 ≤ m), show m = 136 by omega]
    cases decide (x1 = 0) <;> rfl
  | c + 1, m, I1, hc, z => by
    obtain ⟨I2, a1, a2, -⟩ := C_guess (g := g) (N := N) (lv := lv) (L := L) h ht hd hw hg (show m < 136 by omega) z
    obtain ⟨I3, b1, b2⟩ := C_leL h ht hd hw hg x1 c (m + 1) I2 (by omega) a2
    refine ⟨I3, ?_, b2⟩
    have hl := w_o_le E W T m
    have ha := w_o_at E W T m
    have e1 : (100 * (Int32.ofNat m / 17)) + (Int32.ofNat m - Int32.ofNat m / 17 * 17) = w_c m := by
      rw [show Int32.ofNat m - Int32.ofNat m / 17 * 17 = Int32.ofNat (m % 17) from nb_mod (n := 17) (by omega) (by decide), show Int32.ofNat m / 17 = Int32.ofNat (m / 17) from nb_div (n := 17) (by omega) (by decide), show 100 * Int32.ofNat (m / 17) = Int32.ofNat (100 * (m / 17)) from nb_mul 100 _, nb_add]
      rfl
    rw [y_Ca_leant_63 _ _ _ _ _, show decide ((136 : Int32) ≤ Int32.ofNat m) = decide (136 ≤ m) from nb_dle (a := 136) (by decide) (by omega), d_f (by omega : ¬ 136 ≤ m), a1, am_bd_ok, am_tl, y_Ca_leant_78 _ _ _ _ _ _, i_b0, e1, nb_s, nb_s, w_e_n _ (fun q => Nat.lt_trans (ha 0 q).1 (by omega))]
    cases hf : w_f E W T m with
    | false =>
      rw [w_o_f hf] at b1
      exact b1
    | true =>
      rw [w_o_t hf] at b1
      by_cases h0 : (w_o E W T m).1 = 0
      · rw [show w_e ((w_o E W T m).1 + 1, fun i => if i = (w_o E W T m).1 then m else (w_o E W T m).2 i) = w_c m from by
          unfold w_e
          rw [d_f (by show ¬ (w_o E W T m).1 + 1 = 0; omega)]
          show w_c (if 0 = (w_o E W T m).1 then m else (w_o E W T m).2 0) = _
          rw [if_pos h0.symm]] at b1
        rw [d_t h0]
        exact b1
      · rw [show w_e ((w_o E W T m).1 + 1, fun i => if i = (w_o E W T m).1 then m else (w_o E W T m).2 i) = w_e (w_o E W T m) from by
          unfold w_e
          rw [d_f (by show ¬ (w_o E W T m).1 + 1 = 0; omega), d_f h0]
          show w_c (if 0 = (w_o E W T m).1 then m else (w_o E W T m).2 0) = _
          rw [if_neg (fun q => h0 q.symm)]] at b1
        rw [d_f h0]
        exact b1
theorem C_leant (h : cC E mb T sw I) (ht : t_ok T) (hd : t_d T ≤ 1000) (hw : wCs 121 W I) (hg : gW W) (x1 : Int32) : oC g N sw lv L I (am_R 127 9 0 [.ref 75, .int x1, am_u, am_u, am_u, am_u] [] (am_hp g N sw lv I L)) (sp_leant E W T x1) := by
  have hl := w_l_le hg
  rw [y_Ca_leant_0 _, g_I]
  unfold sp_leant
  cases h1 : gI 0 2 x1 with
  | false => exact oC_t rfl
  | true =>
    simp only [cond_true]
    rw [C_lat hw hg, am_bd_ok, am_tl, y_Ca_leant_12 _ _]
    cases h2 : decide (x1 = 2) with
    | true =>
      obtain ⟨I2, a1, a2, a3, -⟩ := C_cp h ht
      obtain ⟨I3, b1, b2, b3, b4⟩ := C_foL (g := g) (N := N) (lv := lv) (L := L) h ht hd 0 hl (w_l W + 1) 0 I2 (by omega) a3 a2 (fun j hj => by omega)
      have hs := C_so (g := g) (N := N) (sw := sw) (lv := lv) (L := L) (E := E) (T' := T) (wCs_fr hw (fun a p q => b2 a (by omega))) hg (fun k hk => b4 _ (by have := w_l_ge hk; omega))
      rw [cond_true, a1, y_Ca_foresee_0 _ _, show v_Ma_max 0 0 = Int32.ofNat 0 from rfl, b1, am_bd_ok, am_tn, y_Ca_leant_35 _ _, hs, am_bd_ok, am_tl, y_Ca_leant_46 _ _ _, i_b0]
      cases w_s E W T with
      | true => exact oC_v b2 rfl
      | false => exact oC_v b2 rfl
    | false =>
      obtain ⟨I2, a1, a2⟩ := C_leL (g := g) (N := N) (lv := lv) (L := L) h ht hd hw hg x1 136 0 I (by omega) zf_rfl
      rw [cond_false]
      exact oC_v a2 a1
end SEEN
