/-! CALLS: see, forget, fault, image, restore, feed -/
def s_W' (S : s_S) (W' : s_W) : s_S := ((sE S, sB S, sT S), sA S, W', sF S, sP S, sX S, sI S)
def w_add (W : s_W) (q d : Nat) (b : Bool) : s_W := (W.1 + 1, fun i => if i = W.1 then q else W.2.1 i, fun i => if i = W.1 then d else W.2.2.1 i, fun i => if i = W.1 then b else W.2.2.2 i)
def sp_see (S : s_S) (x y : Int32) (b : Bool) : a_O × s_S := cond (gH 6 x) (cond (decide (8 ≤ (sW S).1)) (.inl (-1), s_ref S 2) (cond (gI 0 20 y) (.inl (Int32.ofNat ((sW S).1 + 1)), s_W' S (w_add (sW S) x.toNatClampNeg y.toNatClampNeg b)) (.inl (-1), s_ref S 2))) (.inr 0, S)
section REST
variable {g N : Nat} {sw lv : Bool} {I : Nat → Nat → Int32} {L : Nat → Nat → Int64} {S : s_S} {T : tr_T}
theorem w_nar : ∀ b : Bool, vp_nar .boolean (cond b 1 0) = cond b 1 0 := by decide
theorem C_see (h : sC S sw I) (hg : sG S) (x y : Int32) (b : Bool) : KC g N sw lv L I (am_R 125 2 0 [.ref 75, .int x, .int y, .int (cond b 1 0)] [] (am_hp g N sw lv I L)) (sp_see S x y b).1 (sp_see S x y b).2 := by
  have h8 := hg.2.2.1.1
  have hw := h.2.2.1
  rw [y_Ca_see_0 _ _ _, hw.1, show decide ((8 : Int32) ≤ Int32.ofNat (sW S).1) = decide (8 ≤ (sW S).1) from nb_dle (a := 8) (by decide) (by omega), g_6]
  unfold sp_see
  cases h1 : gH 6 x with
  | false => exact KC_t h rfl
  | true =>
    simp only [cond_true]
    by_cases hm : 8 ≤ (sW S).1
    · rw [d_t hm, d_t hm]
      exact KC_ref h 2 (by decide) rfl
    · rw [d_f hm, d_f hm, d_f hm, g_I]
      cases h2 : gI 0 20 y with
      | false => exact KC_ref h 2 (by decide) rfl
      | true =>
        obtain ⟨q, hq, rfl⟩ := gH_at (by decide) h1
        obtain ⟨d, hd, rfl⟩ := gI_at (b := 20) (by decide) h2
        simp only [cond_true]
        rw [nb_inb (show (sW S).1 < 8 by omega) (by omega), nb_tn (show (sW S).1 < 100000 by omega), nb_tn (show q < 100000 by omega), nb_tn (show d < 100000 by omega), upd_same, nb_s, i_b0]
        have key : KC g N sw lv L I (some (.inl (some (.int (Int32.ofNat ((sW S).1 + 1)))), am_hp g N sw lv (am_up (am_up (am_up (am_up I 122 (upd (I 122) (sW S).1 (Int32.ofNat q))) 123 (upd (I 123) (sW S).1 (Int32.ofNat d))) 124 (upd (I 124) (sW S).1 (cond b 1 0))) 121 (upd (I 121) 3 (Int32.ofNat ((sW S).1 + 1)))) L)) (.inl (Int32.ofNat ((sW S).1 + 1))) (s_W' S (w_add (sW S) q d b)) := by
          have u : ∀ a, a < 121 ∨ 124 < a → (am_up (am_up (am_up (am_up I 122 (upd (I 122) (sW S).1 (Int32.ofNat q))) 123 (upd (I 123) (sW S).1 (Int32.ofNat d))) 124 (upd (I 124) (sW S).1 (cond b 1 0))) 121 (upd (I 121) 3 (Int32.ofNat ((sW S).1 + 1)))) a = I a := fun a p => by
            rw [up_ne (by omega), up_ne (by omega), up_ne (by omega), up_ne (by omega)]
          obtain ⟨k1, k2, k3, k4, k5, k6, k7⟩ := h
          refine KC_v (sC_of (S := S) ⟨k1, k2, k3, k4, k5, k6, k7⟩ (rC_fr k1.2.1 (fun a p q => u a (by omega))) (aC_fr k2 (u 119 (by decide)) (u 120 (by decide))) ⟨rfl, fun i hi => ?_⟩ ?_ (tC_fr k5 (u 77 (by decide)) (u 78 (by decide))) ?_ (fun a q => u a (by omega))) (fun a p => u a (by omega)) rfl
          · have hi2 : i < (sW S).1 + 1 := hi
            show upd (I 122) (sW S).1 (Int32.ofNat q) i = Int32.ofNat (if i = (sW S).1 then q else (sW S).2.1 i) ∧ upd (I 123) (sW S).1 (Int32.ofNat d) i = Int32.ofNat (if i = (sW S).1 then d else (sW S).2.2.1 i) ∧ upd (I 124) (sW S).1 (cond b 1 0) i = cond (if i = (sW S).1 then b else (sW S).2.2.2 i) 1 0
            by_cases e : i = (sW S).1
            · rw [if_pos e, if_pos e, if_pos e, e, upd_same, upd_same, upd_same]
              exact ⟨rfl, rfl, rfl⟩
            · rw [if_neg e, if_neg e, if_neg e, upd_ne e, upd_ne e, upd_ne e]
              exact k3.2 i (by omega)
          · rw [u 125 (by decide)]
            exact k4
          · rw [u 75 (by decide)]
            exact k6
        cases b with
        | true => exact key
        | false => exact key
  
theorem M_see (h : sM S I) (hg : sG S) (x y : Int32) (b : Bool) : KM g N sw lv L I k1 (am_R 249 3 0 [.ref 147, .int x, .int y, .int (cond b 1 0)] [] (am_hp g N sw lv I L)) (sp_see S x y b).1 (sp_see S x y b).2 := by
  have h8 := hg.2.2.1.1
  have hw := h.2.2.1
  obtain ⟨q1, q2⟩ := m_q x
  have e36 : upd (I 147) 4 0 36 = Int32.ofNat (sW S).1 := (upd_ne (by decide)).trans hw.1
  rw [y_Mo_see_0 _ _ _, q1, q2, e36, show decide (Int32.ofNat (sW S).1 = 8) = decide ((sW S).1 = 8) from nb_deq (b := 8) (by omega) (by decide), m_inL (a := 0) (b := 20) (by decide) (by decide)]
  unfold sp_see
  cases h1 : gH 6 x with
  | false => exact KM_t (c := 0) h rfl
  | true =>
    simp only [cond_true]
    rw [d_f (by decide : ¬ (1 : Int32) = 0)]
    by_cases hm : (sW S).1 = 8
    · rw [d_t hm, d_t (by omega : 8 ≤ (sW S).1)]
      exact KM_ref h 2 (by decide) rfl
    · rw [d_f hm, d_f (by omega : ¬ 8 ≤ (sW S).1)]
      cases h2 : gI 0 20 y with
      | false => exact KM_ref h 2 (by decide) rfl
      | true =>
        obtain ⟨q, hq, rfl⟩ := gH_at (by decide) h1
        obtain ⟨d, hd, rfl⟩ := gI_at (b := 20) (by decide) h2
        simp only [cond_true]
        rw [d_f (by decide : ¬ (1 : Int32) = 0), nb_inb (show (sW S).1 < 8 by omega) (by omega), nb_tn (show (sW S).1 < 100000 by omega), nb_tn (show q < 100000 by omega), nb_tn (show d < 100000 by omega), upd_same, nb_s, w_nar]
        have u : ∀ a, a ≠ 147 → a ≠ 172 → a ≠ 173 → a ≠ 175 → (am_up (am_up (am_up (am_up (am_up I 147 (upd (I 147) 4 0)) 172 (upd (I 172) (sW S).1 (Int32.ofNat q))) 173 (upd (I 173) (sW S).1 (Int32.ofNat d))) 175 (upd (I 175) (sW S).1 (cond b 1 0))) 147 (upd (upd (I 147) 4 0) 36 (Int32.ofNat ((sW S).1 + 1)))) a = I a := fun a p1 p2 p3 p4 => by
          rw [up_ne p1, up_ne p4, up_ne p3, up_ne p2, up_ne p1]
        have v : ∀ j, j ≠ 4 → j ≠ 36 → (am_up (am_up (am_up (am_up (am_up I 147 (upd (I 147) 4 0)) 172 (upd (I 172) (sW S).1 (Int32.ofNat q))) 173 (upd (I 173) (sW S).1 (Int32.ofNat d))) 175 (upd (I 175) (sW S).1 (cond b 1 0))) 147 (upd (upd (I 147) 4 0) 36 (Int32.ofNat ((sW S).1 + 1)))) 147 j = I 147 j := fun j p1 p2 => by
          rw [up_same, upd_ne p2, upd_ne p1]
        obtain ⟨k1, k2, k3, k4, k5, k6, k7⟩ := h
        refine KM_v (sM_of (S := S) ⟨k1, k2, k3, k4, k5, k6, k7⟩ (rM_fr k1.2.1 (fun a q => u a (by omega) (by omega) (by omega) (by omega)) (v 33 (by decide) (by decide)) (v 34 (by decide) (by decide))) rfl ((v 37 (by decide) (by decide)).trans k1.2.2.1) (aM_fr k2 (v 35 (by decide) (by decide)) (u 167 (by decide) (by decide) (by decide) (by decide))) ⟨rfl, fun i hi => ?_⟩ ?_ (tM_fr k5 (v 16 (by decide) (by decide)) (u 161 (by decide) (by decide) (by decide) (by decide))) ((v 25 (by decide) (by decide)).trans k6) (fun a q => u a (by omega) (by omega) (by omega) (by omega)) (fun j p q => v j (by omega) (by omega))) (fun a p => u a (by omega) (by omega) (by omega) (by omega)) (by rw [up_same, upd_ne (by decide), upd_same]) rfl
        · have hi2 : i < (sW S).1 + 1 := hi
          show upd (I 172) (sW S).1 (Int32.ofNat q) i = Int32.ofNat (if i = (sW S).1 then q else (sW S).2.1 i) ∧ upd (I 173) (sW S).1 (Int32.ofNat d) i = Int32.ofNat (if i = (sW S).1 then d else (sW S).2.2.1 i) ∧ upd (I 175) (sW S).1 (cond b 1 0) i = cond (if i = (sW S).1 then b else (sW S).2.2.2 i) 1 0
          by_cases e : i = (sW S).1
          · rw [if_pos e, if_pos e, if_pos e, e, upd_same, upd_same, upd_same]
            exact ⟨rfl, rfl, rfl⟩
          · rw [if_neg e, if_neg e, if_neg e, upd_ne e, upd_ne e, upd_ne e]
            exact k3.2 i (by omega)
        · rw [u 160 (by decide) (by decide) (by decide) (by decide)]
          exact k4
theorem sG_W {W' : s_W} (hg : sG S) (h : gW W') : sG (s_W' S W') := ⟨hg.1, hg.2.1, h, hg.2.2.2⟩
theorem G_see (hg : sG S) (x y : Int32) (b : Bool) : sG (sp_see S x y b).2 := by
  unfold sp_see
  cases h1 : gH 6 x with
  | false => exact hg
  | true =>
    simp only [cond_true]
    by_cases hm : 8 ≤ (sW S).1
    · rw [d_t hm]
      exact sG_ref hg 2
    · rw [d_f hm]
      cases h2 : gI 0 20 y with
      | false => exact sG_ref hg 2
      | true =>
        obtain ⟨q, hq, rfl⟩ := gH_at (by decide) h1
        obtain ⟨d, hd, rfl⟩ := gI_at (b := 20) (by decide) h2
        simp only [cond_true]
        rw [nb_tn (show q < 100000 by omega), nb_tn (show d < 100000 by omega)]
        refine sG_W hg ⟨by show (sW S).1 + 1 ≤ 8; omega, fun i hi => ?_⟩
        have hi2 : i < (sW S).1 + 1 := hi
        show (if i = (sW S).1 then q else (sW S).2.1 i) < 6 ∧ (if i = (sW S).1 then d else (sW S).2.2.1 i) ≤ 20
        by_cases e : i = (sW S).1
        · rw [if_pos e, if_pos e]
          exact ⟨hq, hd⟩
        · rw [if_neg e, if_neg e]
          exact hg.2.2.1.2 i (by omega)
/-! forget -/
def s_for (S : s_S) : s_S := s_W' S (0, (sW S).2)
theorem C_forget (h : sC S sw I) : ∃ I', am_R 51 2 0 [.ref 75] [] (am_hp g N sw lv I L) = some (.inl none, am_hp g N sw lv I' L) ∧ sC (s_for S) sw I' ∧ ∀ a, 147 ≤ a → I' a = I a := by
  obtain ⟨k1, k2, k3, k4, k5, k6, k7⟩ := h
  refine ⟨am_up I 121 (upd (I 121) 3 0), y_Ca_forget_0, sC_of (S := S) ⟨k1, k2, k3, k4, k5, k6, k7⟩ (rC_fr k1.2.1 (fun a p q => up_ne (by omega))) (aC_fr k2 (up_ne (by decide)) (up_ne (by decide))) ⟨rfl, fun i hi => absurd hi (Nat.not_lt_zero i)⟩ k4 (tC_fr k5 (up_ne (by decide)) (up_ne (by decide))) k6 (fun a q => up_ne (by omega)), fun a p => up_ne (by omega)⟩
theorem M_forget (h : sM S I) : ∃ I', am_R 255 1 0 [.ref 147] [] (am_hp g N sw lv I L) = some (.inl none, am_hp g N sw lv I' L) ∧ sM (s_for S) I' ∧ ∀ a, a < 147 → I' a = I a := by
  have u : ∀ a, a ≠ 147 → (am_up (am_up I 147 (upd (I 147) 4 0)) 147 (upd (upd (I 147) 4 0) 36 0)) a = I a := fun a p => by rw [up_ne p, up_ne p]
  have v : ∀ j, j ≠ 4 → j ≠ 36 → (am_up (am_up I 147 (upd (I 147) 4 0)) 147 (upd (upd (I 147) 4 0) 36 0)) 147 j = I 147 j := fun j p q => by rw [up_same, upd_ne q, upd_ne p]
  obtain ⟨k1, k2, k3, k4, k5, k6, k7⟩ := h
  refine ⟨_, y_Mo_forget_0, sM_of (S := S) ⟨k1, k2, k3, k4, k5, k6, k7⟩ (rM_fr k1.2.1 (fun a q => u a (by omega)) (v 33 (by decide) (by decide)) (v 34 (by decide) (by decide))) rfl ((v 37 (by decide) (by decide)).trans k1.2.2.1) (aM_fr k2 (v 35 (by decide) (by decide)) (u 167 (by decide))) ⟨rfl, fun i hi => absurd hi (Nat.not_lt_zero i)⟩ k4 (tM_fr k5 (v 16 (by decide) (by decide)) (u 161 (by decide))) ((v 25 (by decide) (by decide)).trans k6) (fun a q => u a (by omega)) (fun j p q => v j (by omega) (by omega)), fun a p => u a (by omega)⟩
theorem G_forget (hg : sG S) : sG (s_for S) := sG_W hg ⟨Nat.zero_le _, fun i hi => absurd hi (Nat.not_lt_zero i)⟩
/-! fault -/
theorem C_fault (h : sC S sw I) : KC g N sw lv L I (am_R 12 1 0 [.ref 75] [] (am_hp g N sw lv I L)) (.inl (sX S)) S := by
  refine KC_v h (fun _ _ => rfl) ?_
  rw [e_Ca_fault, ← h.2.2.2.2.2.1]
  rfl
theorem M_fault (h : sM S I) : KM g N sw lv L I k1 (am_R 169 1 0 [.ref 147] [] (am_hp g N sw lv I L)) (.inl (sX S)) S := by
  refine KM_v (sM_4 h 0) (fun a p => up_ne (by omega)) (by rw [up_same, upd_same]) ?_
  rw [y_Mo_fault_0, upd_ne (by decide), h.2.2.2.2.2.1]
/-! image and restore -/
def s_im (S : s_S) : s_S := ((sE S, sB S, sT S), sA S, sW S, sF S, sP S, sX S, some (sT S, sA S, sW S, sF S))
def s_rs (S : s_S) (y : s_I) : s_S := ((sE S, sB S, y.1), y.2.1, y.2.2.1, y.2.2.2, sP S, sX S, sI S)
theorem cpyN {α : Type} {f h : Nat → α} {n k : Nat} (hk : k < n) : va_cpy f h 0 0 n k = f k := by
  unfold va_cpy
  rw [if_pos ⟨Nat.zero_le _, by omega⟩, Nat.zero_add, Nat.sub_zero]
theorem pC_cp {a b o : Nat} {I' : Nat → Nat → Int32} (h : pC a o T I) (hn : t_n T ≤ 8) (ho : o + 9 ≤ 360) (e : ∀ j, j < 360 → I' b j = I a j) : pC b o T I' :=
  ⟨(e o (by omega)).trans h.1, fun k hk => (e (o + 1 + k) (by omega)).trans (h.2 k hk)⟩
theorem aC_cp {ac bc n : Nat} {A : s_A} {I' : Nat → Nat → Int32} (h : aC ac A I) (hg : gA n A) (e1 : I' bc 1 = I ac 1) (e2 : I' bc 2 = I ac 2) (e : ∀ j, j < 360 → I' (bc + 1) j = I (ac + 1) j) : aC bc A I' := by
  obtain ⟨nx, h1, h2, h3, h4⟩ := h
  exact ⟨nx, h1, e1.trans h2, e2.trans h3, fun i hi => pC_cp (h4 i hi) (hg.2 i hi).1.1 (by omega) e⟩
theorem wCs_cp {ac bc : Nat} {W : s_W} {I' : Nat → Nat → Int32} (h : wCs ac W I) (hg : gW W) (e0 : I' bc 3 = I ac 3) (e1 : ∀ j, j < 8 → I' (bc + 1) j = I (ac + 1) j) (e2 : ∀ j, j < 8 → I' (bc + 2) j = I (ac + 2) j) (e3 : ∀ j, j < 8 → I' (bc + 3) j = I (ac + 3) j) : wCs bc W I' := by
  have h8 := hg.1
  refine ⟨e0.trans h.1, fun i hi => ?_⟩
  rw [e1 i (by omega), e2 i (by omega), e3 i (by omega)]
  exact h.2 i hi
theorem C_image (h : sC S sw I) (hg : sG S) : ∃ I', am_R 53 2 0 [.ref 75] [] (am_hp g N sw lv I L) = some (.inl none, am_hp g N sw lv I' L) ∧ sC (s_im S) sw I' ∧ ∀ a, 147 ≤ a → I' a = I a := by
  have e := y_Ca_image_0 (g := g) (N := N) (sw := sw) (lv := lv) (I := I) (L := L)
  obtain ⟨k1, k2, k3, k4, k5, k6, k7⟩ := h
  have hn := hg.1.1.1
  generalize hJ : (am_up (am_up (am_up (am_up (am_up (am_up (am_up (am_up (am_up (am_up (am_up (am_up (am_up (am_up (am_up (am_up (am_up (am_up I 126 (upd (I 126) 0 1)) 127 (upd (I 127) 0 (I 99 0))) 127 (upd ((upd (I 127) 0 (I 99 0))) 1 (I 99 1))) 127 (upd ((upd ((upd (I 127) 0 (I 99 0))) 1 (I 99 1))) 2 (I 99 2))) 128 (va_cpy (I 100) (I 128) 0 0 8)) 129 (va_cpy (I 101) (I 129) 0 0 8)) 130 (va_cpy (I 102) (I 130) 0 0 8)) 131 (va_cpy (I 103) (I 131) 0 0 8)) 132 (va_cpy (I 104) (I 132) 0 0 8)) 133 (va_cpy (I 105) (I 133) 0 0 8)) 138 (va_cpy (I 120) (I 138) 0 0 360)) 137 (upd (I 137) 1 (I 119 1))) 137 (upd ((upd (I 137) 1 (I 119 1))) 2 (I 119 2))) 140 (va_cpy (I 122) (I 140) 0 0 8)) 141 (va_cpy (I 123) (I 141) 0 0 8)) 142 (va_cpy (I 124) (I 142) 0 0 8)) 139 (upd (I 139) 3 (I 121 3))) 143 (va_cpy (I 125) (I 143) 0 0 3)) = J at e
  have u : ∀ a, a < 126 ∨ 143 < a → J a = I a := fun a p => by
    rw [← hJ, up_ne (by omega), up_ne (by omega), up_ne (by omega), up_ne (by omega), up_ne (by omega), up_ne (by omega), up_ne (by omega), up_ne (by omega), up_ne (by omega), up_ne (by omega), up_ne (by omega), up_ne (by omega), up_ne (by omega), up_ne (by omega), up_ne (by omega), up_ne (by omega), up_ne (by omega), up_ne (by omega)]
  have q0 : J 126 0 = 1 := by rw [← hJ]; rfl
  have q1 : J 127 0 = I 99 0 ∧ J 127 1 = I 99 1 ∧ J 127 2 = I 99 2 := by rw [← hJ]; exact ⟨rfl, rfl, rfl⟩
  have q2 : J 128 = va_cpy (I 100) (I 128) 0 0 8 ∧ J 129 = va_cpy (I 101) (I 129) 0 0 8 ∧ J 130 = va_cpy (I 102) (I 130) 0 0 8 ∧ J 131 = va_cpy (I 103) (I 131) 0 0 8 ∧ J 132 = va_cpy (I 104) (I 132) 0 0 8 ∧ J 133 = va_cpy (I 105) (I 133) 0 0 8 := by rw [← hJ]; exact ⟨rfl, rfl, rfl, rfl, rfl, rfl⟩
  have q3 : J 138 = va_cpy (I 120) (I 138) 0 0 360 ∧ J 137 1 = I 119 1 ∧ J 137 2 = I 119 2 := by rw [← hJ]; exact ⟨rfl, rfl, rfl⟩
  have q4 : J 139 3 = I 121 3 ∧ J 140 = va_cpy (I 122) (I 140) 0 0 8 ∧ J 141 = va_cpy (I 123) (I 141) 0 0 8 ∧ J 142 = va_cpy (I 124) (I 142) 0 0 8 := by rw [← hJ]; exact ⟨rfl, rfl, rfl, rfl⟩
  have q5 : J 143 = va_cpy (I 125) (I 143) 0 0 3 := by rw [← hJ]; rfl
  refine ⟨J, e, ⟨cC_fr k1 (fun a _ p _ _ => u a (by omega)), aC_fr k2 (u 119 (by decide)) (u 120 (by decide)), wCs_fr k3 (fun a p q => u a (by omega)), by rw [u 125 (by decide)]; exact k4, tC_fr k5 (u 77 (by decide)) (u 78 (by decide)), by rw [u 75 (by decide)]; exact k6, ⟨q0, ?_, aC_cp (bc := 137) k2 hg.2.1 q3.2.1 q3.2.2 (fun j hj => by show J 138 j = _; rw [q3.1, cpyN hj]), wCs_cp (bc := 139) k3 hg.2.2.1 q4.1 (fun j hj => by show J 140 j = _; rw [q4.2.1, cpyN hj]) (fun j hj => by show J 141 j = _; rw [q4.2.2.1, cpyN hj]) (fun j hj => by show J 142 j = _; rw [q4.2.2.2, cpyN hj]), fun k hk => by rw [q5, cpyN hk]; exact k4 k hk⟩⟩, fun a p => u a (by omega)⟩
  obtain ⟨r0, r1, r2, r3, r4⟩ := k1.2.1
  refine ⟨q1.1.trans r0, q1.2.1.trans r1, q1.2.2.trans r2, fun j hj => ?_, fun k hk => ?_⟩
  · have hj2 : j < t_n (sT S) := hj
    have := r3 j hj2
    show J 128 j = _ ∧ J 129 j = _ ∧ J 130 j = _ ∧ J 131 j = _ ∧ J 132 j = _
    rw [q2.1, q2.2.1, q2.2.2.1, q2.2.2.2.1, q2.2.2.2.2.1, cpyN (by omega), cpyN (by omega), cpyN (by omega), cpyN (by omega), cpyN (by omega)]
    exact this
  · have hk2 : k < t_n (sT S) := hk
    show J 133 k = _
    rw [q2.2.2.2.2.2, cpyN (by omega)]
    exact r4 k hk2
theorem G_image (hg : sG S) : sG (s_im S) := by
  obtain ⟨g1, g2, g3, g4, g5, g6⟩ := hg
  refine ⟨g1, g2, g3, g4, g5, fun y hy => ?_⟩
  have e : (sT S, sA S, sW S, sF S) = y := by
    have : some (sT S, sA S, sW S, sF S) = some y := hy
    injection this
  rw [← e]
  exact ⟨g1, g2, g3⟩
def sp_restore (S : s_S) : a_O × s_S := match sI S with
  | none => (.inl 0, S)
  | some y => (.inl 1, s_rs S y)
theorem C_restore (h : sC S sw I) (hg : sG S) : KC g N sw lv L I (am_R 56 2 0 [.ref 75] [] (am_hp g N sw lv I L)) (sp_restore S).1 (sp_restore S).2 := by
  obtain ⟨k1, k2, k3, k4, k5, k6, k7⟩ := h
  have h0 : sC S sw I := ⟨k1, k2, k3, k4, k5, k6, k7⟩
  unfold sp_restore
  cases hi : sI S with
  | none =>
    rw [hi] at k7
    have k7' : I 126 0 = 0 := k7
    rw [y_Ca_restore_0, k7', d_t rfl]
    exact KC_v h0 (fun _ _ => rfl) rfl
  | some y =>
    rw [hi] at k7
    obtain ⟨i1, i2, i3, i4, i5⟩ := k7
    obtain ⟨g1, g2, g3⟩ := hg.2.2.2.2.2 y hi
    have hn := g1.1.1
    have e := y_Ca_restore_0 (g := g) (N := N) (sw := sw) (lv := lv) (I := I) (L := L)
    rw [i1, d_f (by decide)] at e
    generalize hJ : (am_up (am_up (am_up (am_up (am_up (am_up (am_up (am_up (am_up (am_up (am_up (am_up (am_up (am_up (am_up (am_up (am_up I 99 (upd (I 99) 0 (I 127 0))) 99 (upd ((upd (I 99) 0 (I 127 0))) 1 (I 127 1))) 99 (upd ((upd ((upd (I 99) 0 (I 127 0))) 1 (I 127 1))) 2 (I 127 2))) 100 (va_cpy (I 128) (I 100) 0 0 8)) 101 (va_cpy (I 129) (I 101) 0 0 8)) 102 (va_cpy (I 130) (I 102) 0 0 8)) 103 (va_cpy (I 131) (I 103) 0 0 8)) 104 (va_cpy (I 132) (I 104) 0 0 8)) 105 (va_cpy (I 133) (I 105) 0 0 8)) 120 (va_cpy (I 138) (I 120) 0 0 360)) 119 (upd (I 119) 1 (I 137 1))) 119 (upd ((upd (I 119) 1 (I 137 1))) 2 (I 137 2))) 122 (va_cpy (I 140) (I 122) 0 0 8)) 123 (va_cpy (I 141) (I 123) 0 0 8)) 124 (va_cpy (I 142) (I 124) 0 0 8)) 121 (upd (I 121) 3 (I 139 3))) 125 (va_cpy (I 143) (I 125) 0 0 3)) = J at e
    have u : ∀ a, a < 99 ∨ 105 < a ∧ a < 119 ∨ 125 < a → J a = I a := fun a p => by
      rw [← hJ, up_ne (by omega), up_ne (by omega), up_ne (by omega), up_ne (by omega), up_ne (by omega), up_ne (by omega), up_ne (by omega), up_ne (by omega), up_ne (by omega), up_ne (by omega), up_ne (by omega), up_ne (by omega), up_ne (by omega), up_ne (by omega), up_ne (by omega), up_ne (by omega), up_ne (by omega)]
    have q1 : J 99 0 = I 127 0 ∧ J 99 1 = I 127 1 ∧ J 99 2 = I 127 2 := by rw [← hJ]; exact ⟨rfl, rfl, rfl⟩
    have q2 : J 100 = va_cpy (I 128) (I 100) 0 0 8 ∧ J 101 = va_cpy (I 129) (I 101) 0 0 8 ∧ J 102 = va_cpy (I 130) (I 102) 0 0 8 ∧ J 103 = va_cpy (I 131) (I 103) 0 0 8 ∧ J 104 = va_cpy (I 132) (I 104) 0 0 8 ∧ J 105 = va_cpy (I 133) (I 105) 0 0 8 := by rw [← hJ]; exact ⟨rfl, rfl, rfl, rfl, rfl, rfl⟩
    have q3 : J 120 = va_cpy (I 138) (I 120) 0 0 360 ∧ J 119 1 = I 137 1 ∧ J 119 2 = I 137 2 := by rw [← hJ]; exact ⟨rfl, rfl, rfl⟩
    have q4 : J 121 3 = I 139 3 ∧ J 122 = va_cpy (I 140) (I 122) 0 0 8 ∧ J 123 = va_cpy (I 141) (I 123) 0 0 8 ∧ J 124 = va_cpy (I 142) (I 124) 0 0 8 := by rw [← hJ]; exact ⟨rfl, rfl, rfl, rfl⟩
    have q5 : J 125 = va_cpy (I 143) (I 125) 0 0 3 := by rw [← hJ]; rfl
    rw [e]
    refine KC_v (S' := s_rs S y) (J := J) (sC_of (S := S) h0 ?_ (aC_cp (bc := 119) i3 g2 q3.2.1 q3.2.2 (fun j hj => by show J 120 j = _; rw [q3.1, cpyN hj])) (wCs_cp (bc := 121) i4 g3 q4.1 (fun j hj => by show J 122 j = _; rw [q4.2.1, cpyN hj]) (fun j hj => by show J 123 j = _; rw [q4.2.2.1, cpyN hj]) (fun j hj => by show J 124 j = _; rw [q4.2.2.2, cpyN hj])) (fun k hk => by rw [q5, cpyN hk]; exact i5 k hk) (tC_fr k5 (u 77 (by decide)) (u 78 (by decide))) (by rw [u 75 (by decide)]; exact k6) (fun a q => u a (by omega))) (fun a p => u a (by omega)) rfl
    obtain ⟨r0, r1, r2, r3, r4⟩ := i2
    refine ⟨q1.1.trans r0, q1.2.1.trans r1, q1.2.2.trans r2, fun j hj => ?_, fun k hk => ?_⟩
    · have := r3 j hj
      show J 100 j = _ ∧ J 101 j = _ ∧ J 102 j = _ ∧ J 103 j = _ ∧ J 104 j = _
      rw [q2.1, q2.2.1, q2.2.2.1, q2.2.2.2.1, q2.2.2.2.2.1, cpyN (by omega), cpyN (by omega), cpyN (by omega), cpyN (by omega), cpyN (by omega)]
      exact this
    · show J 105 k = _
      rw [q2.2.2.2.2.2, cpyN (by omega)]
      exact r4 k hk
theorem G_restore (hg : sG S) : sG (sp_restore S).2 := by
  unfold sp_restore
  cases hi : sI S with
  | none => exact hg
  | some y =>
    obtain ⟨k1, k2, k3, k4, k5, k6⟩ := hg
    obtain ⟨g1, g2, g3⟩ := k6 y hi
    have hn := g1.2.1
    show gT (t_n y.1) y.1 ∧ gA (t_n y.1) y.2.1 ∧ gW y.2.2.1 ∧ ((sP S).1 ≤ 700 ∧ ∀ i, i < (sP S).1 → (sP S).2 i < 256) ∧ e_pos (sE S) ∧ ∀ z, sI S = some z → gT (t_n y.1) z.1 ∧ gA (t_n y.1) z.2.1 ∧ gW z.2.2.1
    rw [hn]
    exact ⟨g1, g2, g3, k4, k5, k6⟩
end REST
