/-! the reference: rows packed and unpacked -/
theorem nb_a8 (a : Nat) : Int32.ofNat a + 8 = Int32.ofNat (a + 8) := nb_add a 8
theorem nb_a16 (a : Nat) : Int32.ofNat a + 16 = Int32.ofNat (a + 16) := nb_add a 16
theorem nb_a24 (a : Nat) : Int32.ofNat a + 24 = Int32.ofNat (a + 24) := nb_add a 24
theorem nb_a32 (a : Nat) : Int32.ofNat a + 32 = Int32.ofNat (a + 32) := nb_add a 32
theorem nb_a2 (a : Nat) : Int32.ofNat a + 2 = Int32.ofNat (a + 2) := nb_add a 2
theorem nb_ge8 {k : Nat} (hk : k < 100000) : decide ((8 : Int32) ≤ Int32.ofNat k) = decide (8 ≤ k) := nb_dle (a := 8) (by decide) hk
/-- which lie apart from the row -/
theorem am_apk {aa : Nat} (h : am_isk aa) : aa ≠ 147 ∧ aa ≠ 151 ∧ aa ≠ 162 ∧ aa ≠ 163 ∧ aa ≠ 164 ∧ aa ≠ 165 ∧ aa ≠ 166 := by
  rcases h with rfl | rfl | rfl | rfl <;> decide
section PACKM
variable {g N : Nat} {sw lv : Bool} {I : Nat → Nat → Int32} {L : Nat → Nat → Int64} {aa : Nat} {T : tr_T}
/-- the first k heads are packed -/
def kM (aa o k : Nat) (I : Nat → Nat → Int32) : Prop := ∀ h, h < k → I aa (o + 2 + h) = I 162 h ∧ I aa (o + 10 + h) = I 163 h ∧ I aa (o + 18 + h) = I 164 h ∧ I aa (o + 26 + h) = I 165 h ∧ I aa (o + 34 + h) = I 166 h
theorem rM_packL (ha : am_isk aa) {o : Nat} (ho : o + 42 ≤ (am_SH N aa).2) (hs : (am_SH N aa).2 ≤ 2000) : ∀ c k (I : Nat → Nat → Int32), k + c = 8 → kM aa o k I → ∃ I', am_R 191 1 23 [.ref 147, .ref aa, .int (Int32.ofNat o), .int (Int32.ofNat (o + 2)), .int (Int32.ofNat k)] [] (am_hp g N sw lv I L) = some (.inl none, am_hp g N sw lv I' L) ∧ (∀ a, a ≠ aa → I' a = I a) ∧ kM aa o 8 I' ∧ ∀ j, j < o + 2 ∨ o + 42 ≤ j → I' aa j = I aa j
  | 0, k, I, hk, hz => ⟨I, by
    rw [y_Mo_pack_23 _ _ _ ha, nb_ge8 (by omega), d_t (by omega : 8 ≤ k)], fun _ _ => rfl, by rw [show 8 = k by omega]; exact hz, fun _ _ => rfl⟩
  | c + 1, k, I, hk, hz => by
    obtain ⟨n0, n1, n2, n3, n4, n5, n6⟩ := am_apk ha
    have e0 := y_Mo_pack_23 (g := g) (N := N) (sw := sw) (lv := lv) (I := I) (L := L) (Int32.ofNat o) (Int32.ofNat (o + 2)) (Int32.ofNat k) ha
    rw [nb_ge8 (by omega), d_f (by omega : ¬ 8 ≤ k), nb_a8, nb_a16, nb_a24, nb_a32, nb_add, nb_add, nb_add, nb_add, nb_add, nb_tn (show k < 100000 by omega), nb_tn (show o + 2 + k < 100000 by omega), nb_tn (show o + 2 + 8 + k < 100000 by omega), nb_tn (show o + 2 + 16 + k < 100000 by omega), nb_tn (show o + 2 + 24 + k < 100000 by omega), nb_tn (show o + 2 + 32 + k < 100000 by omega), nb_inb (show k < 8 by omega) (by omega), nb_inb (show o + 2 + k < (am_SH N aa).2 by omega) (by omega), nb_inb (show o + 2 + 8 + k < (am_SH N aa).2 by omega) (by omega), nb_inb (show o + 2 + 16 + k < (am_SH N aa).2 by omega) (by omega), nb_inb (show o + 2 + 24 + k < (am_SH N aa).2 by omega) (by omega), nb_inb (show o + 2 + 32 + k < (am_SH N aa).2 by omega) (by omega), nb_s] at e0
    simp only [cond_true] at e0
    obtain ⟨I', a1, a2, a3, a4⟩ := rM_packL ha ho hs c (k + 1) _ (by omega) (show kM aa o (k + 1) (am_up (am_up (am_up (am_up (am_up I aa (upd (I aa) (o + 2 + k) (I 162 k))) aa (upd (upd (I aa) (o + 2 + k) (I 162 k)) (o + 2 + 8 + k) (I 163 k))) aa (upd (upd (upd (I aa) (o + 2 + k) (I 162 k)) (o + 2 + 8 + k) (I 163 k)) (o + 2 + 16 + k) (I 164 k))) aa (upd (upd (upd (upd (I aa) (o + 2 + k) (I 162 k)) (o + 2 + 8 + k) (I 163 k)) (o + 2 + 16 + k) (I 164 k)) (o + 2 + 24 + k) (I 165 k))) aa (upd (upd (upd (upd (upd (I aa) (o + 2 + k) (I 162 k)) (o + 2 + 8 + k) (I 163 k)) (o + 2 + 16 + k) (I 164 k)) (o + 2 + 24 + k) (I 165 k)) (o + 2 + 32 + k) (I 166 k))) by
      intro h h2
      have x0 : ∀ (b : Nat), b ≠ aa → (am_up (am_up (am_up (am_up (am_up I aa (upd (I aa) (o + 2 + k) (I 162 k))) aa (upd (upd (I aa) (o + 2 + k) (I 162 k)) (o + 2 + 8 + k) (I 163 k))) aa (upd (upd (upd (I aa) (o + 2 + k) (I 162 k)) (o + 2 + 8 + k) (I 163 k)) (o + 2 + 16 + k) (I 164 k))) aa (upd (upd (upd (upd (I aa) (o + 2 + k) (I 162 k)) (o + 2 + 8 + k) (I 163 k)) (o + 2 + 16 + k) (I 164 k)) (o + 2 + 24 + k) (I 165 k))) aa (upd (upd (upd (upd (upd (I aa) (o + 2 + k) (I 162 k)) (o + 2 + 8 + k) (I 163 k)) (o + 2 + 16 + k) (I 164 k)) (o + 2 + 24 + k) (I 165 k)) (o + 2 + 32 + k) (I 166 k))) b = I b := fun b hb => by rw [up_ne hb, up_ne hb, up_ne hb, up_ne hb, up_ne hb]
      rw [x0 162 (Ne.symm n2), x0 163 (Ne.symm n3), x0 164 (Ne.symm n4), x0 165 (Ne.symm n5), x0 166 (Ne.symm n6), up_same]
      by_cases e : h = k
      · subst e
        refine ⟨?_, ?_, ?_, ?_, ?_⟩
        · rw [upd_ne (by omega), upd_ne (by omega), upd_ne (by omega), upd_ne (by omega), upd_same]
        · rw [upd_ne (by omega), upd_ne (by omega), upd_ne (by omega), show o + 10 + h = o + 2 + 8 + h by omega, upd_same]
        · rw [upd_ne (by omega), upd_ne (by omega), show o + 18 + h = o + 2 + 16 + h by omega, upd_same]
        · rw [upd_ne (by omega), show o + 26 + h = o + 2 + 24 + h by omega, upd_same]
        · rw [show o + 34 + h = o + 2 + 32 + h by omega, upd_same]
      · have hq := hz h (by omega)
        refine ⟨?_, ?_, ?_, ?_, ?_⟩
        · rw [upd_ne (by omega), upd_ne (by omega), upd_ne (by omega), upd_ne (by omega), upd_ne (by omega)]
          exact hq.1
        · rw [upd_ne (by omega), upd_ne (by omega), upd_ne (by omega), upd_ne (by omega), upd_ne (by omega)]
          exact hq.2.1
        · rw [upd_ne (by omega), upd_ne (by omega), upd_ne (by omega), upd_ne (by omega), upd_ne (by omega)]
          exact hq.2.2.1
        · rw [upd_ne (by omega), upd_ne (by omega), upd_ne (by omega), upd_ne (by omega), upd_ne (by omega)]
          exact hq.2.2.2.1
        · rw [upd_ne (by omega), upd_ne (by omega), upd_ne (by omega), upd_ne (by omega), upd_ne (by omega)]
          exact hq.2.2.2.2)
    refine ⟨I', e0.trans a1, fun a h => by rw [a2 a h, up_ne h, up_ne h, up_ne h, up_ne h, up_ne h], a3, fun j hj => ?_⟩
    rw [a4 j hj, up_same, upd_ne (by omega), upd_ne (by omega), upd_ne (by omega), upd_ne (by omega), upd_ne (by omega)]
theorem rM_pack (ha : am_isk aa) (hr : rM T I) (ht : t_ok T) {o : Nat} (ho : o + 42 ≤ (am_SH N aa).2) (hs : (am_SH N aa).2 ≤ 2000) : ∃ I', am_R 191 1 0 [.ref 147, .ref aa, .int (Int32.ofNat o), am_u, am_u] [] (am_hp g N sw lv I L) = some (.inl none, am_hp g N sw lv I' L) ∧ (∀ a, a ≠ aa → I' a = I a) ∧ pM aa o T I' ∧ ∀ j, j < o ∨ o + 42 ≤ j → I' aa j = I aa j := by
  have hn := ht.1
  obtain ⟨n0, n1, n2, n3, n4, n5, n6⟩ := am_apk ha
  have e0 := y_Mo_pack_0 (g := g) (N := N) (sw := sw) (lv := lv) (I := I) (L := L) (Int32.ofNat o) ha
  rw [nb_s, nb_a2, nb_tn (show o < 100000 by omega), nb_tn (show o + 1 < 100000 by omega), nb_inb (show o < (am_SH N aa).2 by omega) (by omega), nb_inb (show o + 1 < (am_SH N aa).2 by omega) (by omega), hr.2.1, hr.2.2.1] at e0
  simp only [cond_true] at e0
  obtain ⟨I', a1, a2, a3, a4⟩ := rM_packL (g := g) (sw := sw) (lv := lv) (L := L) ha ho hs 8 0 (am_up (am_up I aa (upd (I aa) o (t_d T))) aa (upd (upd (I aa) o (t_d T)) (o + 1) (Int32.ofNat (b_no (t_n T) (t_s T))))) (by omega) (fun h hh => by omega)
  have x0 : ∀ b, b ≠ aa → I' b = I b := fun b hb => by rw [a2 b hb, up_ne hb, up_ne hb]
  refine ⟨I', e0.trans a1, x0, ⟨?_, ?_, fun h hh => ?_⟩, fun j hj => ?_⟩
  · rw [a4 o (by omega), up_same, upd_ne (by omega), upd_same]
  · rw [a4 (o + 1) (by omega), up_same, upd_same]
  · have hk := a3 h (by omega)
    rw [x0 162 (Ne.symm n2), x0 163 (Ne.symm n3), x0 164 (Ne.symm n4), x0 165 (Ne.symm n5), x0 166 (Ne.symm n6)] at hk
    have hf := hr.2.2.2.1 h hh
    rw [hf.1, hf.2.1, hf.2.2.1, hf.2.2.2, hr.2.2.2.2 h hh] at hk
    exact hk
  · rw [a4 j (by omega), up_same, upd_ne (by omega), upd_ne (by omega)]
/-- the first k heads are unpacked -/
def uM (aa o k : Nat) (I : Nat → Nat → Int32) : Prop := ∀ h, h < k → I 162 h = I aa (o + 2 + h) ∧ I 163 h = I aa (o + 10 + h) ∧ I 164 h = I aa (o + 18 + h) ∧ I 165 h = I aa (o + 26 + h) ∧ I 166 h = I aa (o + 34 + h)
theorem rM_unpackL (ha : am_isk aa) {o : Nat} (ho : o + 42 ≤ (am_SH N aa).2) (hs : (am_SH N aa).2 ≤ 2000) : ∀ c k (I : Nat → Nat → Int32), k + c = 8 → uM aa o k I → ∃ I', am_R 214 1 23 [.ref 147, .ref aa, .int (Int32.ofNat o), .int (Int32.ofNat (o + 2)), .int (Int32.ofNat k)] [] (am_hp g N sw lv I L) = some (.inl none, am_hp g N sw lv I' L) ∧ (∀ a, a ≠ 162 → a ≠ 163 → a ≠ 164 → a ≠ 165 → a ≠ 166 → I' a = I a) ∧ uM aa o 8 I'
  | 0, k, I, hk, hz => ⟨I, by
    rw [y_Mo_unpack_23 _ _ _ ha, nb_ge8 (by omega), d_t (by omega : 8 ≤ k)], fun _ _ _ _ _ _ => rfl, by rw [show 8 = k by omega]; exact hz⟩
  | c + 1, k, I, hk, hz => by
    obtain ⟨n0, n1, n2, n3, n4, n5, n6⟩ := am_apk ha
    have e0 := y_Mo_unpack_23 (g := g) (N := N) (sw := sw) (lv := lv) (I := I) (L := L) (Int32.ofNat o) (Int32.ofNat (o + 2)) (Int32.ofNat k) ha
    rw [nb_ge8 (by omega), d_f (by omega : ¬ 8 ≤ k), nb_a8, nb_a16, nb_a24, nb_a32, nb_add, nb_add, nb_add, nb_add, nb_add, nb_tn (show k < 100000 by omega), nb_tn (show o + 2 + k < 100000 by omega), nb_tn (show o + 2 + 8 + k < 100000 by omega), nb_tn (show o + 2 + 16 + k < 100000 by omega), nb_tn (show o + 2 + 24 + k < 100000 by omega), nb_tn (show o + 2 + 32 + k < 100000 by omega), nb_inb (show k < 8 by omega) (by omega), nb_inb (show o + 2 + k < (am_SH N aa).2 by omega) (by omega), nb_inb (show o + 2 + 8 + k < (am_SH N aa).2 by omega) (by omega), nb_inb (show o + 2 + 16 + k < (am_SH N aa).2 by omega) (by omega), nb_inb (show o + 2 + 24 + k < (am_SH N aa).2 by omega) (by omega), nb_inb (show o + 2 + 32 + k < (am_SH N aa).2 by omega) (by omega), nb_s] at e0
    simp only [cond_true] at e0
    obtain ⟨I', a1, a2, a3⟩ := rM_unpackL ha ho hs c (k + 1) _ (by omega) (show uM aa o (k + 1) (am_up (am_up (am_up (am_up (am_up I 162 (upd (I 162) k (I aa (o + 2 + k)))) 163 (upd (I 163) k (I aa (o + 2 + 8 + k)))) 164 (upd (I 164) k (I aa (o + 2 + 16 + k)))) 165 (upd (I 165) k (I aa (o + 2 + 24 + k)))) 166 (upd (I 166) k (I aa (o + 2 + 32 + k)))) by
      intro h h2
      have xa : (am_up (am_up (am_up (am_up (am_up I 162 (upd (I 162) k (I aa (o + 2 + k)))) 163 (upd (I 163) k (I aa (o + 2 + 8 + k)))) 164 (upd (I 164) k (I aa (o + 2 + 16 + k)))) 165 (upd (I 165) k (I aa (o + 2 + 24 + k)))) 166 (upd (I 166) k (I aa (o + 2 + 32 + k)))) aa = I aa := by rw [up_ne n6, up_ne n5, up_ne n4, up_ne n3, up_ne n2]
      rw [xa, up_ne (show 162 ≠ 166 by decide), up_ne (show 162 ≠ 165 by decide), up_ne (show 162 ≠ 164 by decide), up_ne (show 162 ≠ 163 by decide), up_same, up_ne (show 163 ≠ 166 by decide), up_ne (show 163 ≠ 165 by decide), up_ne (show 163 ≠ 164 by decide), up_same, up_ne (show 164 ≠ 166 by decide), up_ne (show 164 ≠ 165 by decide), up_same, up_ne (show 165 ≠ 166 by decide), up_same, up_same]
      by_cases e : h = k
      · subst e
        rw [upd_same, upd_same, upd_same, upd_same, upd_same, show o + 10 + h = o + 2 + 8 + h by omega, show o + 18 + h = o + 2 + 16 + h by omega, show o + 26 + h = o + 2 + 24 + h by omega, show o + 34 + h = o + 2 + 32 + h by omega]
        exact ⟨rfl, rfl, rfl, rfl, rfl⟩
      · rw [upd_ne e, upd_ne e, upd_ne e, upd_ne e, upd_ne e]
        exact hz h (by omega))
    exact ⟨I', e0.trans a1, fun a h1 h2 h3 h4 h5 => by rw [a2 a h1 h2 h3 h4 h5, up_ne h5, up_ne h4, up_ne h3, up_ne h2, up_ne h1], a3⟩
theorem rM_unpack (ha : am_isk aa) (ht : t_ok T) (h0 : I 151 0 = Int32.ofNat (t_n T)) {o : Nat} (ho : o + 42 ≤ (am_SH N aa).2) (hs : (am_SH N aa).2 ≤ 2000) (hp : pM aa o T I) : ∃ I', am_R 214 1 0 [.ref 147, .ref aa, .int (Int32.ofNat o), am_u, am_u] [] (am_hp g N sw lv I L) = some (.inl none, am_hp g N sw lv I' L) ∧ rM T I' ∧ (∀ a, a ≠ 147 → a ≠ 162 → a ≠ 163 → a ≠ 164 → a ≠ 165 → a ≠ 166 → I' a = I a) ∧ ∀ j, j ≠ 33 → j ≠ 34 → I' 147 j = I 147 j := by
  have hn := ht.1
  obtain ⟨n0, n1, n2, n3, n4, n5, n6⟩ := am_apk ha
  have e0 := y_Mo_unpack_0 (g := g) (N := N) (sw := sw) (lv := lv) (I := I) (L := L) (Int32.ofNat o) ha
  rw [nb_s, nb_a2, nb_tn (show o < 100000 by omega), nb_tn (show o + 1 < 100000 by omega), nb_inb (show o < (am_SH N aa).2 by omega) (by omega), nb_inb (show o + 1 < (am_SH N aa).2 by omega) (by omega), hp.1, hp.2.1] at e0
  simp only [cond_true] at e0
  obtain ⟨I', a1, a2, a3⟩ := rM_unpackL (g := g) (sw := sw) (lv := lv) (L := L) ha ho hs 8 0 (am_up (am_up I 147 (upd (I 147) 33 (t_d T))) 147 (upd (upd (I 147) 33 (t_d T)) 34 (Int32.ofNat (b_no (t_n T) (t_s T))))) (by omega) (fun h hh => by omega)
  have x0 : ∀ a, a ≠ 147 → a ≠ 162 → a ≠ 163 → a ≠ 164 → a ≠ 165 → a ≠ 166 → I' a = I a := fun a h0 h1 h2 h3 h4 h5 => by rw [a2 a h1 h2 h3 h4 h5, up_ne h0, up_ne h0]
  have x1 := a2 147 (by decide) (by decide) (by decide) (by decide) (by decide)
  rw [up_same] at x1
  have xa := x0 aa n0 n2 n3 n4 n5 n6
  refine ⟨I', e0.trans a1, ⟨?_, ?_, ?_, fun h hh => ?_, fun k hk => ?_⟩, x0, fun j h1 h2 => ?_⟩
  · rw [x0 151 (by decide) (by decide) (by decide) (by decide) (by decide) (by decide)]
    exact h0
  · rw [x1]
    rfl
  · rw [x1]
    rfl
  · have hk := a3 h (by omega)
    have hq := hp.2.2 h hh
    rw [xa, hq.1, hq.2.1, hq.2.2.1, hq.2.2.2.1, hq.2.2.2.2] at hk
    exact ⟨hk.1, hk.2.1, hk.2.2.2.1, hk.2.2.2.2⟩
  · have hq := a3 k (by omega)
    rw [hq.2.2.1, xa]
    exact (hp.2.2 k hk).2.2.1
  · rw [x1, upd_ne h2, upd_ne h1]
end PACKM
