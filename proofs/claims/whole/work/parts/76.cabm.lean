/-! CABINET: the reference takes over -/
section CABM
variable {g N : Nat} {sw lv : Bool} {L : Nat → Nat → Int64}
theorem M_hf {hf m : Nat} (hh : am_ish hf) (hS : (am_SH N hf).2 = 2 * m) (hd : Int32.ofNat (2 * m) / 2 = Int32.ofNat m) (hm : m ≤ 700) (I : Nat → Nat → Int32) : ∀ c k (I1 : Nat → Nat → Int32), k + c = m → (∀ j, j < k → I1 hf j = I hf (m + j)) → (∀ j, k ≤ j → I1 hf j = I hf j) → (∀ a, a ≠ hf → I1 a = I a) → ∃ I2, am_R 168 1 2 [.ref hf, .int (Int32.ofNat k)] [] (am_hp g N sw lv I1 L) = some (.inl none, am_hp g N sw lv I2 L) ∧ (∀ j, j < m → I2 hf j = I hf (m + j)) ∧ ∀ a, a ≠ hf → I2 a = I a
  | 0, k, I1, hc, h1, h2, h3 => by
    refine ⟨I1, ?_, fun j hj => h1 j (by omega), h3⟩
    rw [y_Mo_takeHalf_2 _ hh, hS, hd, nb_dle (by omega) (by omega), d_t (by omega : m ≤ k)]
  | c + 1, k, I1, hc, h1, h2, h3 => by
    obtain ⟨I2, b1, b2, b3⟩ := M_hf hh hS hd hm I c (k + 1) (am_up I1 hf (upd (I1 hf) k (I1 hf (m + k)))) (by omega) (fun j hj => by
      rw [up_same]
      by_cases q : j = k
      · rw [q, upd_same]
        exact h2 _ (by omega)
      · rw [upd_ne q]
        exact h1 j (by omega)) (fun j hj => by
      rw [up_same, upd_ne (by omega)]
      exact h2 j (by omega)) (fun a p => by rw [up_ne p]; exact h3 a p)
    refine ⟨I2, ?_, b2, b3⟩
    rw [y_Mo_takeHalf_2 _ hh, hS, hd, nb_dle (by omega) (by omega), d_f (by omega : ¬ m ≤ k), nb_add, nb_inb (show m + k < 2 * m by omega) (by omega), nb_inb (show k < 2 * m by omega) (by omega), nb_tn (show m + k < 100000 by omega), nb_tn (show k < 100000 by omega), nb_s]
    exact b1
theorem M_half {hf : Nat} (m : Nat) (hh : am_ish hf) (hS : (am_SH N hf).2 = 2 * m) (hd : Int32.ofNat (2 * m) / 2 = Int32.ofNat m) (hm : m ≤ 700) (I : Nat → Nat → Int32) : ∃ I2, am_R 168 1 0 [.ref hf, am_u] [] (am_hp g N sw lv I L) = some (.inl none, am_hp g N sw lv I2 L) ∧ (∀ j, j < m → I2 hf j = I hf (m + j)) ∧ ∀ a, a ≠ hf → I2 a = I a := by
  rw [y_Mo_takeHalf_0 hh]
  exact M_hf hh hS hd hm I m 0 I (by omega) (fun j hj => by omega) (fun _ _ => rfl) (fun _ _ => rfl)
theorem M_halves (I : Nat → Nat → Int32) : ∃ J, am_R 167 2 0 [.ref 147, am_u, am_u] [] (am_hp g N sw lv I L) = am_R 167 2 63 [.ref 147, am_u, am_u] [] (am_hp g N sw lv J L) ∧ (∀ j, j < 4 → J 151 j = I 151 (4 + j)) ∧ (∀ a, 152 ≤ a → a ≤ 157 → ∀ j, j < 8 → J a j = I a (8 + j)) ∧ (∀ a, 158 ≤ a → a ≤ 159 → ∀ j, j < 700 → J a j = I a (700 + j)) ∧ ∀ a, a < 151 ∨ 159 < a → J a = I a := by
  obtain ⟨J1, a1, a2, a3⟩ := M_half (g := g) (N := N) (sw := sw) (lv := lv) (L := L) (hf := 151) 4 (by unfold am_ish; omega) rfl (by decide) (by decide) I
  obtain ⟨J2, b1, b2, b3⟩ := M_half (g := g) (N := N) (sw := sw) (lv := lv) (L := L) (hf := 152) 8 (by unfold am_ish; omega) rfl (by decide) (by decide) J1
  obtain ⟨J3, c1, c2, c3⟩ := M_half (g := g) (N := N) (sw := sw) (lv := lv) (L := L) (hf := 153) 8 (by unfold am_ish; omega) rfl (by decide) (by decide) J2
  obtain ⟨J4, d1, d2, d3⟩ := M_half (g := g) (N := N) (sw := sw) (lv := lv) (L := L) (hf := 154) 8 (by unfold am_ish; omega) rfl (by decide) (by decide) J3
  obtain ⟨J5, e1, e2, e3⟩ := M_half (g := g) (N := N) (sw := sw) (lv := lv) (L := L) (hf := 155) 8 (by unfold am_ish; omega) rfl (by decide) (by decide) J4
  obtain ⟨J6, f1, f2, f3⟩ := M_half (g := g) (N := N) (sw := sw) (lv := lv) (L := L) (hf := 156) 8 (by unfold am_ish; omega) rfl (by decide) (by decide) J5
  obtain ⟨J7, g1, g2, g3⟩ := M_half (g := g) (N := N) (sw := sw) (lv := lv) (L := L) (hf := 157) 8 (by unfold am_ish; omega) rfl (by decide) (by decide) J6
  obtain ⟨J8, h1, h2, h3⟩ := M_half (g := g) (N := N) (sw := sw) (lv := lv) (L := L) (hf := 158) 700 (by unfold am_ish; omega) rfl (by decide) (by decide) J7
  obtain ⟨J9, i1, i2, i3⟩ := M_half (g := g) (N := N) (sw := sw) (lv := lv) (L := L) (hf := 159) 700 (by unfold am_ish; omega) rfl (by decide) (by decide) J8
  refine ⟨J9, ?_, fun j hj => ?_, fun a p q j hj => ?_, fun a p q j hj => ?_, fun a p => ?_⟩
  · rw [y_Mo_takeOver_0, a1, am_bd_ok, am_tn, y_Mo_takeOver_7, b1, am_bd_ok, am_tn, y_Mo_takeOver_14, c1, am_bd_ok, am_tn, y_Mo_takeOver_21, d1, am_bd_ok, am_tn, y_Mo_takeOver_28, e1, am_bd_ok, am_tn, y_Mo_takeOver_35, f1, am_bd_ok, am_tn, y_Mo_takeOver_42, g1, am_bd_ok, am_tn, y_Mo_takeOver_49, h1, am_bd_ok, am_tn, y_Mo_takeOver_56, i1, am_bd_ok, am_tn]
  · rw [i3 151 (by decide), h3 151 (by decide), g3 151 (by decide), f3 151 (by decide), e3 151 (by decide), d3 151 (by decide), c3 151 (by decide), b3 151 (by decide)]
    exact a2 j hj
  · have ha : a = 152 ∨ a = 153 ∨ a = 154 ∨ a = 155 ∨ a = 156 ∨ a = 157 := by omega
    rcases ha with rfl | rfl | rfl | rfl | rfl | rfl
    · rw [i3 _ (by decide), h3 _ (by decide), g3 _ (by decide), f3 _ (by decide), e3 _ (by decide), d3 _ (by decide), c3 _ (by decide), b2 j hj, a3 _ (by decide)]
    · rw [i3 _ (by decide), h3 _ (by decide), g3 _ (by decide), f3 _ (by decide), e3 _ (by decide), d3 _ (by decide), c2 j hj, b3 _ (by decide), a3 _ (by decide)]
    · rw [i3 _ (by decide), h3 _ (by decide), g3 _ (by decide), f3 _ (by decide), e3 _ (by decide), d2 j hj, c3 _ (by decide), b3 _ (by decide), a3 _ (by decide)]
    · rw [i3 _ (by decide), h3 _ (by decide), g3 _ (by decide), f3 _ (by decide), e2 j hj, d3 _ (by decide), c3 _ (by decide), b3 _ (by decide), a3 _ (by decide)]
    · rw [i3 _ (by decide), h3 _ (by decide), g3 _ (by decide), f2 j hj, e3 _ (by decide), d3 _ (by decide), c3 _ (by decide), b3 _ (by decide), a3 _ (by decide)]
    · rw [i3 _ (by decide), h3 _ (by decide), g2 j hj, f3 _ (by decide), e3 _ (by decide), d3 _ (by decide), c3 _ (by decide), b3 _ (by decide), a3 _ (by decide)]
  · have ha : a = 158 ∨ a = 159 := by omega
    rcases ha with rfl | rfl
    · rw [i3 _ (by decide), h2 j hj, g3 _ (by decide), f3 _ (by decide), e3 _ (by decide), d3 _ (by decide), c3 _ (by decide), b3 _ (by decide), a3 _ (by decide)]
    · rw [i2 j hj, h3 _ (by decide), g3 _ (by decide), f3 _ (by decide), e3 _ (by decide), d3 _ (by decide), c3 _ (by decide), b3 _ (by decide), a3 _ (by decide)]
  · rw [i3 a (by omega), h3 a (by omega), g3 a (by omega), f3 a (by omega), e3 a (by omega), d3 a (by omega), c3 a (by omega), b3 a (by omega), a3 a (by omega)]
/-- the heads -/
def tkI (I : Nat → Nat → Int32) : Nat → Nat → Int32 := am_up (am_up (am_up I 147 (upd (I 147) 35 0)) 147 (upd ((upd (I 147) 35 0)) 36 0)) 147 (upd ((upd ((upd (I 147) 35 0)) 36 0)) 51 0)
theorem M_tk {n : Nat} (hn : n ≤ 8) (I : Nat → Nat → Int32) (h0 : I 151 0 = Int32.ofNat n) : ∀ c k (I1 : Nat → Nat → Int32) (w2 : Value), k + c = 8 → (∀ j, j < k → (j < n → I1 162 j = I 153 j ∧ I1 165 j = I 155 j ∧ I1 166 j = I 156 j) ∧ I1 163 j = 0 ∧ I1 164 j = Int32.ofNat j) → (∀ a, a < 162 ∨ 166 < a → I1 a = I a) → ∃ I2, am_R 167 2 75 [.ref 147, .int (Int32.ofNat k), w2] [] (am_hp g N sw lv I1 L) = some (.inl none, am_hp g N sw lv (tkI I2) L) ∧ (∀ j, j < 8 → (j < n → I2 162 j = I 153 j ∧ I2 165 j = I 155 j ∧ I2 166 j = I 156 j) ∧ I2 163 j = 0 ∧ I2 164 j = Int32.ofNat j) ∧ ∀ a, a < 162 ∨ 166 < a → I2 a = I a
  | 0, k, I1, w2, hc, h1, h2 => by
    refine ⟨I1, ?_, fun j hj => h1 j (by omega), h2⟩
    rw [y_Mo_takeOver_75 _ _, nb_ge8 (by omega), d_t (by omega : 8 ≤ k)]
    rfl
  | c + 1, k, I1, w2, hc, h1, h2 => by
    have e := y_Mo_takeOver_75 (g := g) (N := N) (sw := sw) (lv := lv) (I := I1) (L := L) (Int32.ofNat k) w2
    rw [nb_ge8 (by omega), d_f (by omega : ¬ 8 ≤ k), h2 151 (by decide), h0, nb_dle (by omega) (by omega), nb_inb (show k < 8 by omega) (by omega), nb_inb (show k < 16 by omega) (by omega), nb_tn (by omega), nb_s] at e
    simp only [cond_true] at e
    by_cases hk : n ≤ k
    · rw [d_t hk] at e
      generalize hJ : (am_up (am_up (am_up (am_up (am_up I1 162 (upd (I1 162) k 0)) 163 (upd (I1 163) k 0)) 164 (upd (I1 164) k (Int32.ofNat k))) 165 (upd (I1 165) k 0)) 166 (upd (I1 166) k 0)) = J at e
      have u : ∀ a, a < 162 ∨ 166 < a → J a = I1 a := fun a p => by
        rw [← hJ, up_ne (by omega), up_ne (by omega), up_ne (by omega), up_ne (by omega), up_ne (by omega)]
      have v : J 162 = upd (I1 162) k 0 ∧ J 163 = upd (I1 163) k 0 ∧ J 164 = upd (I1 164) k (Int32.ofNat k) ∧ J 165 = upd (I1 165) k 0 ∧ J 166 = upd (I1 166) k 0 := by
        rw [← hJ]
        exact ⟨rfl, rfl, rfl, rfl, rfl⟩
      obtain ⟨v1, v2, v3, v4, v5⟩ := v
      obtain ⟨I2, b1, b2, b3⟩ := M_tk hn I h0 c (k + 1) J (.int 0) (by omega) (fun j hj => by
        rw [v1, v2, v3, v4, v5]
        by_cases q : j = k
        · rw [q]
          exact ⟨fun z => by omega, upd_same, upd_same⟩
        · rw [upd_ne q, upd_ne q, upd_ne q, upd_ne q, upd_ne q]
          exact h1 j (by omega)) (fun a p => (u a p).trans (h2 a p))
      exact ⟨I2, e.trans b1, b2, b3⟩
    · rw [d_f hk] at e
      generalize hJ : (am_up (am_up (am_up (am_up (am_up I1 162 (upd (I1 162) k (I1 153 k))) 163 (upd (I1 163) k 0)) 164 (upd (I1 164) k (Int32.ofNat k))) 165 (upd (I1 165) k (I1 155 k))) 166 (upd (I1 166) k (I1 156 k))) = J at e
      have u : ∀ a, a < 162 ∨ 166 < a → J a = I1 a := fun a p => by
        rw [← hJ, up_ne (by omega), up_ne (by omega), up_ne (by omega), up_ne (by omega), up_ne (by omega)]
      have v : J 162 = upd (I1 162) k (I1 153 k) ∧ J 163 = upd (I1 163) k 0 ∧ J 164 = upd (I1 164) k (Int32.ofNat k) ∧ J 165 = upd (I1 165) k (I1 155 k) ∧ J 166 = upd (I1 166) k (I1 156 k) := by
        rw [← hJ]
        exact ⟨rfl, rfl, rfl, rfl, rfl⟩
      obtain ⟨v1, v2, v3, v4, v5⟩ := v
      obtain ⟨I2, b1, b2, b3⟩ := M_tk hn I h0 c (k + 1) J (.int 1) (by omega) (fun j hj => by
        rw [v1, v2, v3, v4, v5]
        by_cases q : j = k
        · rw [q, upd_same, upd_same, upd_same, upd_same, upd_same, h2 153 (by decide), h2 155 (by decide), h2 156 (by decide)]
          exact ⟨fun _ => ⟨rfl, rfl, rfl⟩, rfl, rfl⟩
        · rw [upd_ne q, upd_ne q, upd_ne q, upd_ne q, upd_ne q]
          exact h1 j (by omega)) (fun a p => (u a p).trans (h2 a p))
      exact ⟨I2, e.trans b1, b2, b3⟩
/-- it begins to read -/
theorem M_z4 (I : Nat → Nat → Int32) (x1 : Int32) : ∀ c k (I1 : Nat → Nat → Int32), k + c = 4 → (∀ j, j < k → I1 151 (4 + j) = 0) → (∀ j, j < 4 ∨ 7 < j → I1 151 j = I 151 j) → (∀ a, a ≠ 151 → I1 a = I a) → ∃ J, am_R 143 102 50 [.ref 147, .int x1, .int (Int32.ofNat k)] [] (am_hp g N sw lv I1 L) = am_bd (am_R 145 2 0 [.ref 147, am_u] [] (am_hp g N sw lv J L)) (fun v h => am_R 143 102 74 [.ref 147, .int x1, .int (Int32.ofNat 4)] (v.toList ++ []) h) (fun c h => some (.inr c, h)) ∧ (∀ j, j < 4 → J 151 (4 + j) = 0) ∧ (∀ j, j < 4 ∨ 7 < j → J 151 j = I 151 j) ∧ ∀ a, a ≠ 151 → J a = I a
  | 0, k, I1, hc, h1, h2, h3 => by
    have hk : k = 4 := by omega
    subst hk
    refine ⟨I1, ?_, h1, h2, h3⟩
    rw [y_Mo_cabinet_50 _ _, d_t (by decide)]
  | c + 1, k, I1, hc, h1, h2, h3 => by
    have e := y_Mo_cabinet_50 (g := g) (N := N) (sw := sw) (lv := lv) (I := I1) (L := L) x1 (Int32.ofNat k)
    rw [show decide ((4 : Int32) ≤ Int32.ofNat k) = decide (4 ≤ k) from nb_dle (a := 4) (by decide) (by omega), d_f (by omega : ¬ 4 ≤ k), show (4 : Int32) + Int32.ofNat k = Int32.ofNat (4 + k) from nb_add 4 k, nb_inb (show 4 + k < 8 by omega) (by omega), cond_true, nb_tn (by omega), nb_s] at e
    obtain ⟨J, b1, b2, b3, b4⟩ := M_z4 I x1 c (k + 1) (am_up I1 151 (upd (I1 151) (4 + k) 0)) (by omega) (fun j hj => by
      rw [up_same]
      by_cases q : j = k
      · rw [q, upd_same]
      · rw [upd_ne (by omega)]
        exact h1 j (by omega)) (fun j hj => by
      rw [up_same, upd_ne (by omega)]
      exact h2 j hj) (fun a p => by rw [up_ne p]; exact h3 a p)
    exact ⟨J, e.trans b1, b2, b3, b4⟩
end CABM
