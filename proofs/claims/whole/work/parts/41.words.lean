/-! WORDS -/
/-- the token is the word l -/
def wd (l : List Nat) (X : x_X) (q : Nat) : Bool := decide (x_K X q = 1) && (decide (x_E X q - x_S X q = l.length) && al l.length (fun k => decide (X.2 (x_S X q + k) = l.getD k 0)))
theorem wd_inj {l m : List Nat} {X : x_X} {q : Nat} (h1 : wd l X q = true) (h2 : wd m X q = true) : l = m := by
  unfold wd at h1 h2
  rw [Bool.and_eq_true, Bool.and_eq_true, decide_eq_true_iff, decide_eq_true_iff, al_iff] at h1 h2
  have hl : l.length = m.length := h1.2.1.symm.trans h2.2.1
  refine List.ext_getElem hl fun i p1 p2 => ?_
  have e1 := of_decide_eq_true (h1.2.2 i p1)
  have e2 := of_decide_eq_true (h2.2.2 i p2)
  rw [List.getD_eq_getElem?_getD, List.getElem?_eq_getElem p1] at e1
  rw [List.getD_eq_getElem?_getD, List.getElem?_eq_getElem p2] at e2
  exact e1.symm.trans e2
theorem x_word {X : x_X} {q : Nat} (hk : x_K X q = 1) : x_S X q < X.1 ∧ ∀ j, x_S X q ≤ j → j < x_E X q → x_lt X j = true := by
  have h0 : ¬ X.1 ≤ x_S X q := fun w => by
    unfold x_K x_Ks at hk
    rw [d_t w] at hk
    cases hk
  unfold x_K x_Ks at hk
  rw [d_f h0] at hk
  refine ⟨by omega, fun j h1 h2 => ?_⟩
  cases hl : x_lt X (x_S X q) with
  | true =>
    unfold x_E x_Es at h2
    rw [d_f h0, hl] at h2
    exact sc_all _ _ _ j h1 h2
  | false =>
    rw [hl, cond_false] at hk
    cases hd : x_dg X (x_S X q) with
    | true =>
      rw [hd] at hk
      cases hk
    | false =>
      rw [hd, cond_false] at hk
      cases hm : x_mk (X.2 (x_S X q)) with
      | true =>
        rw [hm, cond_true] at hk
        rw [hk, show x_mk 1 = false by decide] at hm
        cases hm
      | false =>
        rw [hm] at hk
        cases hk
section WORDS
variable {g N : Nat} {sw lv : Bool} {I : Nat → Nat → Int32} {L : Nat → Nat → Int64} {X : x_X} {q : Nat}
theorem ch_1 : ∀ c, c < 128 → UInt32.toInt32 (Int32.toUInt32 (Int32.ofNat c &&& 255) % 65536) = Int32.ofNat c ∧ decide (narrow (am_ty 5) (.int (Int32.ofNat c)) = .int (Int32.ofNat c)) = true := by decide +kernel
theorem C_char (hs : sO I) {sa : Nat} (ha : am_ist sa) {k : Nat} (hk : k < (st_l sa).length) : am_R 334 5 0 [.ref sa, .int (Int32.ofNat k)] [] (am_hp g N sw lv I L) = some (.inl (some (.int (Int32.ofNat ((st_l sa).getD k 0)))), am_hp g N sw lv I L) := by
  obtain ⟨h0, h1⟩ := hs.1 sa ha
  obtain ⟨s1, s2⟩ := st_128 ha
  obtain ⟨c1, c2⟩ := ch_1 _ (s2 k (by omega))
  have l1 : v_St_isLatin1 I sa = 1 := by unfold v_St_isLatin1; rw [h0]; rfl
  have l2 : v_Sl_charAt I N sa (Int32.ofNat k) = Int32.ofNat ((st_l sa).getD k 0) := by
    unfold v_Sl_charAt
    rw [nb_tn (by omega), h1 k hk, c1]
  have l3 : g_Sl_charAt I N sa (Int32.ofNat k) = true := by
    unfold g_Sl_charAt g_Pr_checkIndex
    rw [nb_tn (by omega), h1 k hk, c1, c2, st_ln ha, d_f (nb_nn (by omega)), nb_dlt (by omega) (by omega), d_t hk, nb_inb hk (by omega)]
    rfl
  rw [y_St_charAt_0 _ ha, l1, d_f (by decide), l3, l2, c2]
  rfl
theorem st_lg (hs : sO I) {sa : Nat} (ha : am_ist sa) : g_St_length I N sa = true ∧ v_St_length I N sa = Int32.ofNat (st_l sa).length := by
  obtain ⟨h0, h1⟩ := hs.1 sa ha
  have hl := (st_128 ha).1
  refine ⟨?_, ?_⟩
  · unfold g_St_length g_St_coder
    rw [h0]
    rfl
  · unfold v_St_length v_St_coder
    rw [h0, st_ln ha]
    have : ∀ m, m < 10 → Int32.ofNat m >>> ((0 : Int32) &&& 31) = Int32.ofNat m := by decide
    exact this _ hl
theorem C_spL (hx : x_ok X) (hb : cB X I) (hs : sO I) {wo : Nat} (hw : am_isw wo) (hk : x_K X q = 1) (hq : q ≤ X.1) (hl : x_E X q - x_S X q = (st_l (am_tx wo)).length) : ∀ c k, k + c = (st_l (am_tx wo)).length → al k (fun k => decide (X.2 (x_S X q + k) = (st_l (am_tx wo)).getD k 0)) = true → am_R 65 6 28 [.ref wo, .ref 78, .int (Int32.ofNat (x_S X q)), .int (Int32.ofNat (x_E X q)), .int (Int32.ofNat (x_S X q + k))] [] (am_hp g N sw lv I L) = some (.inl (some (.int (cond (wd (st_l (am_tx wo)) X q) 1 0))), am_hp g N sw lv I L)
  | 0, k, hc, ha => by
    have hn := hx.1
    obtain ⟨e1, e2, e3⟩ := x_E_le (X := X) hq
    have ew : wd (st_l (am_tx wo)) X q = true := by
      unfold wd
      rw [decide_eq_true hk, decide_eq_true hl, ← show k = (st_l (am_tx wo)).length by omega, ha]
      rfl
    rw [y_Wo_isSpelt_28 _ _ _ hw, nb_dle (by omega) (by omega), d_t (by omega : x_E X q ≤ x_S X q + k), ew]
    rfl
  | c + 1, k, hc, ha => by
    have hn := hx.1
    obtain ⟨e1, e2, e3⟩ := x_E_le (X := X) hq
    have hist : am_ist (am_tx wo) := by
      have := am_istx hw
      rw [this]
      trivial
    have hkl : k < (st_l (am_tx wo)).length := by omega
    have hlt := (x_word hk).2 (x_S X q + k) (by omega) (by omega)
    unfold x_lt at hlt
    rw [Bool.and_eq_true, decide_eq_true_iff, decide_eq_true_iff] at hlt
    have hp : x_S X q + k < X.1 := by omega
    obtain ⟨-, -, -, -, s3⟩ := sb_1 _ (hx.2 _ hp)
    have ih := C_spL hx hb hs hw hk hq hl c (k + 1) (by omega)
    have ek : Int32.ofNat (x_S X q + k) - Int32.ofNat (x_S X q) = Int32.ofNat k := by
      rw [← Int32.ofNat_sub _ _ (by omega)]
      congr 1
      omega
    have h128 := (st_128 hist).2 k (by have := (st_128 hist).1; omega)
    rw [y_Wo_isSpelt_28 _ _ _ hw, nb_dle (by omega) (by omega), d_f (by omega : ¬ x_E X q ≤ x_S X q + k), nb_inb (show x_S X q + k < 700 by omega) (by omega), nb_tn (show x_S X q + k < 100000 by omega), hb.2 _ hp, s3 (by omega), ek, C_char hs hist hkl, cond_true, am_bd_ok, am_tl, y_Wo_isSpelt_49 _ _ _ _ _ hw, nb_deq (by omega) (by omega), nb_s]
    cases hd : decide (X.2 (x_S X q + k) = (st_l (am_tx wo)).getD k 0) with
    | true =>
      exact ih (by
        show (al k _ && decide _) = true
        rw [ha, hd]
        rfl)
    | false =>
      have ew : wd (st_l (am_tx wo)) X q = false := by
        unfold wd
        rw [al_f hkl hd, Bool.and_false, Bool.and_false]
      rw [ew]
      rfl
theorem C_isW (hx : x_ok X) (ht : cT X q I) (hq : q ≤ X.1) (hs : sO I) {wo : Nat} (hw : am_isw wo) : am_R 64 7 0 [.ref 77, .ref wo] [] (am_hp g N sw lv I L) = some (.inl (some (.int (cond (wd (st_l (am_tx wo)) X q) 1 0))), am_hp g N sw lv I L) := by
  have hn := hx.1
  obtain ⟨e1, e2, e3⟩ := x_E_le (X := X) hq
  obtain ⟨hb, t3, t4, t5, -⟩ := ht
  have hK : x_K X q < 256 := by
    unfold x_K x_Ks
    by_cases w : X.1 ≤ x_S X q
    · rw [d_t w]
      decide
    · rw [d_f w]
      have hb2 := hx.2 (x_S X q) (by omega)
      cases x_lt X (x_S X q) with
      | true => exact (by decide : 1 < 256)
      | false =>
        cases x_dg X (x_S X q) with
        | true => exact (by decide : 2 < 256)
        | false =>
          cases x_mk (X.2 (x_S X q)) with
          | true => exact hb2
          | false => exact (by decide : 3 < 256)
  have hist : am_ist (am_tx wo) := by
    have := am_istx hw
    rw [this]
    trivial
  obtain ⟨g1, g2⟩ := st_lg (N := N) hs hist
  rw [y_Ta_isWord_0 hw, t4, show decide (Int32.ofNat (x_K X q) = 1) = decide (x_K X q = 1) from nb_deq (b := 1) (by omega) (by decide)]
  by_cases hk : x_K X q = 1
  · rw [d_t hk, t3, t5, y_Wo_isSpelt_0 _ _ hw, d_f (nb_nn (by omega)), nb_dlt (by decide) (by omega), d_f (by omega : ¬ 700 < x_E X q), g1, g2, ← Int32.ofNat_sub _ _ e3, nb_deq (by omega) (by have := (st_128 hist).1; omega), cond_true]
    by_cases hl : x_E X q - x_S X q = (st_l (am_tx wo)).length
    · have hL := C_spL (g := g) (N := N) (sw := sw) (lv := lv) (L := L) hx hb hs hw hk hq hl (st_l (am_tx wo)).length 0 (by omega) rfl
      rw [Nat.add_zero] at hL
      rw [d_t hl, hL, am_bd_ok, am_tl, y_Ta_isWord_24 _ hw, i_b0]
      cases wd (st_l (am_tx wo)) X q <;> rfl
    · have ew : wd (st_l (am_tx wo)) X q = false := by
        unfold wd
        rw [decide_eq_false hl, Bool.false_and, Bool.and_false]
      rw [d_f hl, am_bd_ok, am_tl, y_Ta_isWord_24 _ hw, ew]
      rfl
  · have ew : wd (st_l (am_tx wo)) X q = false := by
      unfold wd
      rw [decide_eq_false hk, Bool.false_and]
    rw [d_f hk, ew]
    rfl
/-! the reference -/
theorem M_isL (hx : x_ok X) (ht : mT X q I) (hs : sO I) {sa : Nat} (ha : am_ist sa) (hq : q ≤ X.1) (hl : x_E X q - x_S X q = (st_l sa).length) : ∀ c k (b : Bool), k + c = (st_l sa).length → b = al k (fun k => decide (X.2 (x_S X q + k) = (st_l sa).getD k 0)) → am_R 152 6 39 [.ref 147, .ref sa, .int (cond b 1 0), .int (Int32.ofNat k)] [] (am_hp g N sw lv I L) = some (.inl (some (.int (cond (al (st_l sa).length (fun k => decide (X.2 (x_S X q + k) = (st_l sa).getD k 0))) 1 0))), am_hp g N sw lv I L)
  | c, k, false, hc, hb => by
    have e : al (st_l sa).length (fun k => decide (X.2 (x_S X q + k) = (st_l sa).getD k 0)) = false := by
      cases w : al (st_l sa).length (fun k => decide (X.2 (x_S X q + k) = (st_l sa).getD k 0)) with
      | false => rfl
      | true =>
        rw [al_iff.mpr (fun j hj => al_iff.mp w j (by omega))] at hb
        cases hb
    rw [y_Mo_is_39 _ _ ha, e]
    rfl
  | 0, k, true, hc, hb => by
    obtain ⟨g1, g2⟩ := st_lg (N := N) hs ha
    have h9 := (st_128 ha).1
    rw [y_Mo_is_39 _ _ ha, g1, g2, nb_dle (by omega) (by omega), d_t (by omega : (st_l sa).length ≤ k), ← show k = (st_l sa).length by omega, ← hb]
    rfl
  | c + 1, k, true, hc, hb => by
    obtain ⟨g1, g2⟩ := st_lg (N := N) hs ha
    have h9 := (st_128 ha).1
    have hn := hx.1
    obtain ⟨e1, e2, e3⟩ := x_E_le (X := X) hq
    have hkl : k < (st_l sa).length := by omega
    have hp : x_S X q + k < X.1 := by omega
    have h128 := (st_128 ha).2 k (by omega)
    have hby := hx.2 _ hp
    have ih := fun b => M_isL hx ht hs ha hq hl c (k + 1) b (by omega)
    obtain ⟨hB, -, -, -, t21, -⟩ := ht
    rw [y_Mo_is_39 _ _ ha, g1, g2, nb_dle (by omega) (by omega), d_f (by omega : ¬ (st_l sa).length ≤ k), C_char hs ha hkl, am_bd_ok, am_tl, y_Mo_is_56 _ _ _ ha, t21, nb_add, nb_inb (show x_S X q + k < 700 by omega) (by omega), nb_tn (by omega), hB.2 _ hp, nb_deq (by omega) (by omega), nb_s]
    have e : decide ((st_l sa).getD k 0 = X.2 (x_S X q + k)) = decide (X.2 (x_S X q + k) = (st_l sa).getD k 0) := decide_eq_decide.mpr ⟨fun w => w.symm, fun w => w.symm⟩
    rw [e]
    have ih2 := ih (decide (X.2 (x_S X q + k) = (st_l sa).getD k 0)) (by
      show _ = (al k _ && decide _)
      rw [← hb, Bool.true_and])
    cases hd : decide (X.2 (x_S X q + k) = (st_l sa).getD k 0) with
    | true =>
      rw [hd] at ih2
      exact ih2
    | false =>
      rw [hd] at ih2
      exact ih2
theorem mk_1 (k : Nat) : decide (mk_ k = 1) = decide (k = 1) ∧ decide (mk_ k = 2) = decide (k = 2) := by
  unfold mk_
  by_cases h : k ≤ 2
  · rw [d_t h]
    match k, h with
    | 0, _ => decide
    | 1, _ => decide
    | 2, _ => decide
  · rw [d_f h, decide_eq_false (by omega : ¬ k = 1), decide_eq_false (by omega : ¬ k = 2)]
    cases decide (k = 3) <;> decide
theorem M_is (hx : x_ok X) (ht : mT X q I) (h23 : I 147 23 = 0) (hq : q ≤ X.1) (hs : sO I) {sa : Nat} (ha : am_ist sa) : am_R 152 6 0 [.ref 147, .ref sa, am_u, am_u] [] (am_hp g N sw lv I L) = some (.inl (some (.int (cond (wd (st_l sa) X q) 1 0))), am_hp g N sw lv I L) := by
  have hn := hx.1
  obtain ⟨g1, g2⟩ := st_lg (N := N) hs ha
  have h9 := (st_128 ha).1
  obtain ⟨e1, e2, e3⟩ := x_E_le (X := X) hq
  have ht' := ht
  obtain ⟨hB, t17, t22, t19, t21, -⟩ := ht
  have e0 : am_R 152 6 39 [.ref 147, .ref sa, .int 0, .int 0] [] (am_hp g N sw lv I L) = some (.inl (some (.int 0)), am_hp g N sw lv I L) := by
    rw [y_Mo_is_39 _ _ ha]
    rfl
  have el : decide (Int32.ofNat (st_l sa).length = Int32.ofNat (x_E X q) - Int32.ofNat (x_S X q)) = decide (x_E X q - x_S X q = (st_l sa).length) := by
    rw [← Int32.ofNat_sub _ _ e3, nb_deq (by omega) (by omega)]
    exact decide_eq_decide.mpr ⟨fun w => w.symm, fun w => w.symm⟩
  rw [y_Mo_is_0 ha, h23, d_t rfl, t19, (mk_1 _).1, g1, g2, t22, t21, el, e0]
  unfold wd
  cases hk : decide (x_K X q = 1) with
  | false => rfl
  | true =>
    by_cases hl : x_E X q - x_S X q = (st_l sa).length
    · rw [decide_eq_true hl]
      exact M_isL hx ht' hs ha hq hl (st_l sa).length 0 true (by omega) rfl
    · rw [decide_eq_false hl]
      rfl
theorem M_is' (h23 : I 147 23 ≠ 0) {sa : Nat} (ha : am_ist sa) : am_R 152 6 0 [.ref 147, .ref sa, am_u, am_u] [] (am_hp g N sw lv I L) = some (.inl (some (.int 0)), am_hp g N sw lv I L) := by
  rw [y_Mo_is_0 ha, d_f h23, y_Mo_is_39 _ _ ha]
  rfl
/-- the value that the token names -/
def vi (X : x_X) (q n : Nat) : Option Nat := fs (fun k => wd (st_l (22 + 2 * k)) X q) n 0
theorem w_is : am_isw 1 ∧ am_isw 2 ∧ am_isw 3 ∧ am_isw 4 ∧ am_isw 5 ∧ am_isw 6 ∧ am_isw 7 ∧ am_isw 8 ∧ am_isw 9 ∧ am_isw 10 ∧ am_isw 11 ∧ am_isw 12 ∧ am_isw 13 ∧ am_isw 14 := by
  unfold am_isw
  omega
theorem C_valA (hx : x_ok X) (ht : cT X q I) (hq : q ≤ X.1) (hs : sO I) : am_R 81 8 0 [.ref 77, am_u] [] (am_hp g N sw lv I L) = some (.inl (some (.int (cond (wd (st_l (am_tx 1)) X q) (st_w 1) (cond (wd (st_l (am_tx 2)) X q) (st_w 2) (cond (wd (st_l (am_tx 3)) X q) (st_w 3) (cond (wd (st_l (am_tx 4)) X q) (st_w 4) (cond (wd (st_l (am_tx 5)) X q) (st_w 5) (cond (wd (st_l (am_tx 6)) X q) (st_w 6) (cond (wd (st_l (am_tx 7)) X q) (st_w 7) (cond (wd (st_l (am_tx 8)) X q) (st_w 8) (cond (wd (st_l (am_tx 9)) X q) (st_w 9) (cond (wd (st_l (am_tx 10)) X q) (st_w 10) (cond (wd (st_l (am_tx 11)) X q) (st_w 11) (cond (wd (st_l (am_tx 12)) X q) (st_w 12) (cond (wd (st_l (am_tx 13)) X q) (st_w 13) (cond (wd (st_l (am_tx 14)) X q) (st_w 14) (-1))))))))))))))))), am_hp g N sw lv I L) := by
  obtain ⟨w1, w2, w3, w4, w5, w6, w7, w8, w9, w10, w11, w12, w13, w14⟩ := w_is
  rw [z_Ta_valueHere_0, z_Ta_valueHerek0_2, C_isW hx ht hq hs w1, am_bd_ok, am_tl, z_Ta_valueHerek0_19 _, i_b0, hs.2 1 w1, show (0 : Int32) + 1 = 1 from rfl, z_Ta_valueHerek1_2, C_isW hx ht hq hs w2, am_bd_ok, am_tl, z_Ta_valueHerek1_19 _, i_b0, hs.2 2 w2, show (1 : Int32) + 1 = 2 from rfl, z_Ta_valueHerek2_2, C_isW hx ht hq hs w3, am_bd_ok, am_tl, z_Ta_valueHerek2_19 _, i_b0, hs.2 3 w3, show (2 : Int32) + 1 = 3 from rfl, z_Ta_valueHerek3_2, C_isW hx ht hq hs w4, am_bd_ok, am_tl, z_Ta_valueHerek3_19 _, i_b0, hs.2 4 w4, show (3 : Int32) + 1 = 4 from rfl, z_Ta_valueHerek4_2, C_isW hx ht hq hs w5, am_bd_ok, am_tl, z_Ta_valueHerek4_19 _, i_b0, hs.2 5 w5, show (4 : Int32) + 1 = 5 from rfl, z_Ta_valueHerek5_2, C_isW hx ht hq hs w6, am_bd_ok, am_tl, z_Ta_valueHerek5_19 _, i_b0, hs.2 6 w6, show (5 : Int32) + 1 = 6 from rfl, z_Ta_valueHerek6_2, C_isW hx ht hq hs w7, am_bd_ok, am_tl, z_Ta_valueHerek6_19 _, i_b0, hs.2 7 w7, show (6 : Int32) + 1 = 7 from rfl, z_Ta_valueHerek7_2, C_isW hx ht hq hs w8, am_bd_ok, am_tl, z_Ta_valueHerek7_19 _, i_b0, hs.2 8 w8, show (7 : Int32) + 1 = 8 from rfl, z_Ta_valueHerek8_2, C_isW hx ht hq hs w9, am_bd_ok, am_tl, z_Ta_valueHerek8_19 _, i_b0, hs.2 9 w9, show (8 : Int32) + 1 = 9 from rfl, z_Ta_valueHerek9_2, C_isW hx ht hq hs w10, am_bd_ok, am_tl, z_Ta_valueHerek9_19 _, i_b0, hs.2 10 w10, show (9 : Int32) + 1 = 10 from rfl, z_Ta_valueHerek10_2, C_isW hx ht hq hs w11, am_bd_ok, am_tl, z_Ta_valueHerek10_19 _, i_b0, hs.2 11 w11, show (10 : Int32) + 1 = 11 from rfl, z_Ta_valueHerek11_2, C_isW hx ht hq hs w12, am_bd_ok, am_tl, z_Ta_valueHerek11_19 _, i_b0, hs.2 12 w12, show (11 : Int32) + 1 = 12 from rfl, z_Ta_valueHerek12_2, C_isW hx ht hq hs w13, am_bd_ok, am_tl, z_Ta_valueHerek12_19 _, i_b0, hs.2 13 w13, show (12 : Int32) + 1 = 13 from rfl, z_Ta_valueHerek13_2, C_isW hx ht hq hs w14, am_bd_ok, am_tl, z_Ta_valueHerek13_19 _, i_b0, hs.2 14 w14, show (13 : Int32) + 1 = 14 from rfl, z_Ta_valueHerek14_2]
  cases wd (st_l (am_tx 1)) X q with
  | true => rfl
  | false =>
    cases wd (st_l (am_tx 2)) X q with
    | true => rfl
    | false =>
      cases wd (st_l (am_tx 3)) X q with
      | true => rfl
      | false =>
        cases wd (st_l (am_tx 4)) X q with
        | true => rfl
        | false =>
          cases wd (st_l (am_tx 5)) X q with
          | true => rfl
          | false =>
            cases wd (st_l (am_tx 6)) X q with
            | true => rfl
            | false =>
              cases wd (st_l (am_tx 7)) X q with
              | true => rfl
              | false =>
                cases wd (st_l (am_tx 8)) X q with
                | true => rfl
                | false =>
                  cases wd (st_l (am_tx 9)) X q with
                  | true => rfl
                  | false =>
                    cases wd (st_l (am_tx 10)) X q with
                    | true => rfl
                    | false =>
                      cases wd (st_l (am_tx 11)) X q with
                      | true => rfl
                      | false =>
                        cases wd (st_l (am_tx 12)) X q with
                        | true => rfl
                        | false =>
                          cases wd (st_l (am_tx 13)) X q with
                          | true => rfl
                          | false =>
                            cases wd (st_l (am_tx 14)) X q with
                            | true => rfl
                            | false =>
                              rfl
theorem vi_n {w : Nat} (h : wd (st_l w) X q = true) (hne : ∀ k, k < 7 → st_l w ≠ st_l (22 + 2 * k)) : vi X q 7 = none := fs_none fun k _ hk => by
  cases e : wd (st_l (22 + 2 * k)) X q with
  | false => rfl
  | true => exact absurd (wd_inj h e) (hne k (by omega))
theorem C_val (hx : x_ok X) (ht : cT X q I) (hq : q ≤ X.1) (hs : sO I) : am_R 81 8 0 [.ref 77, am_u] [] (am_hp g N sw lv I L) = some (.inl (some (.int (oi (vi X q 7)))), am_hp g N sw lv I L) := by
  rw [C_valA hx ht hq hs]
  have e : cond (wd (st_l (am_tx 1)) X q) (st_w 1) (cond (wd (st_l (am_tx 2)) X q) (st_w 2) (cond (wd (st_l (am_tx 3)) X q) (st_w 3) (cond (wd (st_l (am_tx 4)) X q) (st_w 4) (cond (wd (st_l (am_tx 5)) X q) (st_w 5) (cond (wd (st_l (am_tx 6)) X q) (st_w 6) (cond (wd (st_l (am_tx 7)) X q) (st_w 7) (cond (wd (st_l (am_tx 8)) X q) (st_w 8) (cond (wd (st_l (am_tx 9)) X q) (st_w 9) (cond (wd (st_l (am_tx 10)) X q) (st_w 10) (cond (wd (st_l (am_tx 11)) X q) (st_w 11) (cond (wd (st_l (am_tx 12)) X q) (st_w 12) (cond (wd (st_l (am_tx 13)) X q) (st_w 13) (cond (wd (st_l (am_tx 14)) X q) (st_w 14) (-1)))))))))))))) = oi (vi X q 7) := by
    cases h1 : wd (st_l (am_tx 1)) X q with
    | true =>
      rw [vi_n (w := am_tx 1) h1 (by decide)]
      rfl
    | false =>
      cases h2 : wd (st_l (am_tx 2)) X q with
      | true =>
        rw [vi_n (w := am_tx 2) h2 (by decide)]
        rfl
      | false =>
        cases h3 : wd (st_l (am_tx 3)) X q with
        | true =>
          rw [vi_n (w := am_tx 3) h3 (by decide)]
          rfl
        | false =>
          cases h4 : wd (st_l (am_tx 4)) X q with
          | true =>
            rw [vi_n (w := am_tx 4) h4 (by decide)]
            rfl
          | false =>
            cases h5 : wd (st_l (am_tx 5)) X q with
            | true =>
              rw [vi_n (w := am_tx 5) h5 (by decide)]
              rfl
            | false =>
              cases h6 : wd (st_l (am_tx 6)) X q with
              | true =>
                rw [vi_n (w := am_tx 6) h6 (by decide)]
                rfl
              | false =>
                cases h7 : wd (st_l (am_tx 7)) X q with
                | true =>
                  rw [vi_n (w := am_tx 7) h7 (by decide)]
                  rfl
                | false =>
                  unfold vi fs fs fs fs fs fs fs fs
                  rw [show st_l (am_tx 8) = st_l 22 from rfl]
                  rw [show st_l (am_tx 9) = st_l 24 from rfl]
                  rw [show st_l (am_tx 10) = st_l 26 from rfl]
                  rw [show st_l (am_tx 11) = st_l 28 from rfl]
                  rw [show st_l (am_tx 12) = st_l 30 from rfl]
                  rw [show st_l (am_tx 13) = st_l 32 from rfl]
                  rw [show st_l (am_tx 14) = st_l 34 from rfl]
                  show cond (wd (st_l 22) X q) (st_w 8) (cond (wd (st_l 24) X q) (st_w 9) (cond (wd (st_l 26) X q) (st_w 10) (cond (wd (st_l 28) X q) (st_w 11) (cond (wd (st_l 30) X q) (st_w 12) (cond (wd (st_l 32) X q) (st_w 13) (cond (wd (st_l 34) X q) (st_w 14) (-1))))))) = oi (cond (wd (st_l 22) X q) (some 0) (cond (wd (st_l 24) X q) (some 1) (cond (wd (st_l 26) X q) (some 2) (cond (wd (st_l 28) X q) (some 3) (cond (wd (st_l 30) X q) (some 4) (cond (wd (st_l 32) X q) (some 5) (cond (wd (st_l 34) X q) (some 6) (none))))))))
                  cases wd (st_l 22) X q with
                  | true => rfl
                  | false =>
                    cases wd (st_l 24) X q with
                    | true => rfl
                    | false =>
                      cases wd (st_l 26) X q with
                      | true => rfl
                      | false =>
                        cases wd (st_l 28) X q with
                        | true => rfl
                        | false =>
                          cases wd (st_l 30) X q with
                          | true => rfl
                          | false =>
                            cases wd (st_l 32) X q with
                            | true => rfl
                            | false =>
                              cases wd (st_l 34) X q with
                              | true => rfl
                              | false =>
                                rfl
  rw [e]
theorem M_wha (hx : x_ok X) (ht : mT X q I) (h23 : I 147 23 = 0) (hq : q ≤ X.1) (hs : sO I) : am_R 151 7 0 [.ref 147, .ref 148, am_u] [] (am_hp g N sw lv I L) = some (.inl (some (.int (oi (fs (fun k => wd (st_l (18 + 2 * k)) X q) 2 0)))), am_hp g N sw lv I L) := by
  have hi : ∀ k, k < 2 → am_ist (18 + 2 * k) := by unfold am_ist; omega
  rw [z_Mo_whicha0_0, z_Mo_whicha0_2, M_is hx ht h23 hq hs (sa := 18) (hi 0 (by decide)), am_bd_ok, am_tl, z_Mo_whicha0_15 _, i_b0, show (0 : Int32) + 1 = 1 from rfl, z_Mo_whicha1_2, M_is hx ht h23 hq hs (sa := 20) (hi 1 (by decide)), am_bd_ok, am_tl, z_Mo_whicha1_15 _, i_b0, show (1 : Int32) + 1 = 2 from rfl, z_Mo_whicha2_2]
  have e : fs (fun k => wd (st_l (18 + 2 * k)) X q) 2 0 = cond (wd (st_l 18) X q) (some 0) (cond (wd (st_l 20) X q) (some 1) (none)) := rfl
  rw [e]
  cases wd (st_l 18) X q with
  | true => rfl
  | false =>
    cases wd (st_l 20) X q with
    | true => rfl
    | false =>
      rfl
theorem M_whb (hx : x_ok X) (ht : mT X q I) (h23 : I 147 23 = 0) (hq : q ≤ X.1) (hs : sO I) : am_R 151 7 0 [.ref 147, .ref 149, am_u] [] (am_hp g N sw lv I L) = some (.inl (some (.int (oi (fs (fun k => wd (st_l (22 + 2 * k)) X q) 5 0)))), am_hp g N sw lv I L) := by
  have hi : ∀ k, k < 5 → am_ist (22 + 2 * k) := by unfold am_ist; omega
  rw [z_Mo_whichb0_0, z_Mo_whichb0_2, M_is hx ht h23 hq hs (sa := 22) (hi 0 (by decide)), am_bd_ok, am_tl, z_Mo_whichb0_15 _, i_b0, show (0 : Int32) + 1 = 1 from rfl, z_Mo_whichb1_2, M_is hx ht h23 hq hs (sa := 24) (hi 1 (by decide)), am_bd_ok, am_tl, z_Mo_whichb1_15 _, i_b0, show (1 : Int32) + 1 = 2 from rfl, z_Mo_whichb2_2, M_is hx ht h23 hq hs (sa := 26) (hi 2 (by decide)), am_bd_ok, am_tl, z_Mo_whichb2_15 _, i_b0, show (2 : Int32) + 1 = 3 from rfl, z_Mo_whichb3_2, M_is hx ht h23 hq hs (sa := 28) (hi 3 (by decide)), am_bd_ok, am_tl, z_Mo_whichb3_15 _, i_b0, show (3 : Int32) + 1 = 4 from rfl, z_Mo_whichb4_2, M_is hx ht h23 hq hs (sa := 30) (hi 4 (by decide)), am_bd_ok, am_tl, z_Mo_whichb4_15 _, i_b0, show (4 : Int32) + 1 = 5 from rfl, z_Mo_whichb5_2]
  have e : fs (fun k => wd (st_l (22 + 2 * k)) X q) 5 0 = cond (wd (st_l 22) X q) (some 0) (cond (wd (st_l 24) X q) (some 1) (cond (wd (st_l 26) X q) (some 2) (cond (wd (st_l 28) X q) (some 3) (cond (wd (st_l 30) X q) (some 4) (none))))) := rfl
  rw [e]
  cases wd (st_l 22) X q with
  | true => rfl
  | false =>
    cases wd (st_l 24) X q with
    | true => rfl
    | false =>
      cases wd (st_l 26) X q with
      | true => rfl
      | false =>
        cases wd (st_l 28) X q with
        | true => rfl
        | false =>
          cases wd (st_l 30) X q with
          | true => rfl
          | false =>
            rfl
theorem M_whc (hx : x_ok X) (ht : mT X q I) (h23 : I 147 23 = 0) (hq : q ≤ X.1) (hs : sO I) : am_R 151 7 0 [.ref 147, .ref 150, am_u] [] (am_hp g N sw lv I L) = some (.inl (some (.int (oi (fs (fun k => wd (st_l (22 + 2 * k)) X q) 7 0)))), am_hp g N sw lv I L) := by
  have hi : ∀ k, k < 7 → am_ist (22 + 2 * k) := by unfold am_ist; omega
  rw [z_Mo_whichc0_0, z_Mo_whichc0_2, M_is hx ht h23 hq hs (sa := 22) (hi 0 (by decide)), am_bd_ok, am_tl, z_Mo_whichc0_15 _, i_b0, show (0 : Int32) + 1 = 1 from rfl, z_Mo_whichc1_2, M_is hx ht h23 hq hs (sa := 24) (hi 1 (by decide)), am_bd_ok, am_tl, z_Mo_whichc1_15 _, i_b0, show (1 : Int32) + 1 = 2 from rfl, z_Mo_whichc2_2, M_is hx ht h23 hq hs (sa := 26) (hi 2 (by decide)), am_bd_ok, am_tl, z_Mo_whichc2_15 _, i_b0, show (2 : Int32) + 1 = 3 from rfl, z_Mo_whichc3_2, M_is hx ht h23 hq hs (sa := 28) (hi 3 (by decide)), am_bd_ok, am_tl, z_Mo_whichc3_15 _, i_b0, show (3 : Int32) + 1 = 4 from rfl, z_Mo_whichc4_2, M_is hx ht h23 hq hs (sa := 30) (hi 4 (by decide)), am_bd_ok, am_tl, z_Mo_whichc4_15 _, i_b0, show (4 : Int32) + 1 = 5 from rfl, z_Mo_whichc5_2, M_is hx ht h23 hq hs (sa := 32) (hi 5 (by decide)), am_bd_ok, am_tl, z_Mo_whichc5_15 _, i_b0, show (5 : Int32) + 1 = 6 from rfl, z_Mo_whichc6_2, M_is hx ht h23 hq hs (sa := 34) (hi 6 (by decide)), am_bd_ok, am_tl, z_Mo_whichc6_15 _, i_b0, show (6 : Int32) + 1 = 7 from rfl, z_Mo_whichc7_2]
  have e : fs (fun k => wd (st_l (22 + 2 * k)) X q) 7 0 = cond (wd (st_l 22) X q) (some 0) (cond (wd (st_l 24) X q) (some 1) (cond (wd (st_l 26) X q) (some 2) (cond (wd (st_l 28) X q) (some 3) (cond (wd (st_l 30) X q) (some 4) (cond (wd (st_l 32) X q) (some 5) (cond (wd (st_l 34) X q) (some 6) (none))))))) := rfl
  rw [e]
  cases wd (st_l 22) X q with
  | true => rfl
  | false =>
    cases wd (st_l 24) X q with
    | true => rfl
    | false =>
      cases wd (st_l 26) X q with
      | true => rfl
      | false =>
        cases wd (st_l 28) X q with
        | true => rfl
        | false =>
          cases wd (st_l 30) X q with
          | true => rfl
          | false =>
            cases wd (st_l 32) X q with
            | true => rfl
            | false =>
              cases wd (st_l 34) X q with
              | true => rfl
              | false =>
                rfl
theorem M_wh (hx : x_ok X) (ht : mT X q I) (h23 : I 147 23 = 0) (hq : q ≤ X.1) (hs : sO I) : am_R 151 7 0 [.ref 147, .ref (cond lv 150 149), am_u] [] (am_hp g N sw lv I L) = some (.inl (some (.int (oi (vi X q (cond lv 7 5))))), am_hp g N sw lv I L) := by
  cases lv with
  | true => exact M_whc hx ht h23 hq hs
  | false => exact M_whb hx ht h23 hq hs
end WORDS
