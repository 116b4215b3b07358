/-! LINES: the heats, reference -/
def fW (w : Bool) (I I' : Nat → Nat → Int32) : Prop := fK I I' ∧ (∀ a, 152 ≤ a → a ≤ 156 → I' a = I a) ∧ (∀ j, j ≠ 5 → j ≠ cond w 7 6 → I' 151 j = I 151 j) ∧ ∀ a, 158 ≤ a → a ≤ 159 → a ≠ cond w 159 158 → I' a = I a
def hM_ (X : x_X) (w : Bool) (kk : s_K) (r : (Nat × Nat) ⊕ (Nat × Nat × (Nat → Nat))) (I : Nat → Nat → Int32) : Prop := match r with
  | .inl fp => mF fp.1 fp.2 I
  | .inr y => mG X w y.1 kk I ∧ I 151 5 = Int32.ofNat y.2.1 ∧ ∀ j, j < y.2.1 → I 157 (8 + j) = Int32.ofNat (y.2.2 j)
section MHEAT
variable {g N : Nat} {sw lv : Bool} {L : Nat → Nat → Int64} {X : x_X} {w : Bool} {kk : s_K}
theorem fW_tr {I I' I'' : Nat → Nat → Int32} (h1 : fW w I I') (h2 : fW w I' I'') : fW w I I'' := ⟨fK_tr h1.1 h2.1, fun a p q => (h2.2.1 a p q).trans (h1.2.1 a p q), fun j p q => (h2.2.2.1 j p q).trans (h1.2.2.1 j p q), fun a p q r => (h2.2.2.2 a p q r).trans (h1.2.2.2 a p q r)⟩
theorem fW_fD {I I' : Nat → Nat → Int32} (h : fDm w I I') : fW w I I' := by
  obtain ⟨w1, w2⟩ := w158 w
  exact ⟨fK_fD h, fun a p q => h.1 a (by omega) (by omega) (by omega), fun j _ q => h.2.2.1 j q, fun a p q r => h.1 a (by omega) (by omega) r⟩
theorem fW_7 {I : Nat → Nat → Int32} {i : Nat} {x : Int32} (hi : 8 ≤ i) : fW w I (am_up I 157 (upd (I 157) i x)) := ⟨fK_up (by decide) hi, fun a p q => up_ne (by omega), fun j _ _ => by rw [up_ne (by decide)], fun a p q r => up_ne (by omega)⟩
theorem fW_5 {I : Nat → Nat → Int32} {x : Int32} : fW w I (am_up I 151 (upd (I 151) 5 x)) := ⟨⟨fun a p q => up_ne (by omega), fun j p => by rw [up_ne (by decide)], fun j p => by rw [up_same, upd_ne (by omega)], fun a p q i r => by rw [up_ne (by omega)], fun a p q i r => by rw [up_ne (by omega)]⟩, fun a p q => up_ne (by omega), fun j p _ => by rw [up_same, upd_ne p], fun a p q r => up_ne (by omega)⟩
theorem mG_5 {I : Nat → Nat → Int32} {q : Nat} {x : Int32} (h : mG X w q kk I) : mG X w q kk (am_up I 151 (upd (I 151) 5 x)) := by
  obtain ⟨w1, w2⟩ := w158 w
  refine ⟨mT_fr h.1 (fun j _ _ => by rw [up_ne (by decide)]) (by rw [up_ne (by decide)]), by rw [up_ne (by decide)]; exact h.2.1, by rw [up_ne (by decide)]; exact h.2.2.1, by rw [up_same, upd_ne (by omega)]; exact h.2.2.2.1, ?_⟩
  rw [up_ne (by omega)]
  exact h.2.2.2.2
theorem M_htb {f pl : Nat} (hf : 0 < f ∧ f < 100) {I : Nat → Nat → Int32} (h : mF f pl I) (x1 : Int32) (w2 : Value) : am_R 155 4 48 [.ref 147, .int x1, w2] [] (am_hp g N sw lv I L) = some (.inl none, (am_hp g N sw lv I L)) := by
  have hb := mF_ne h hf.1 hf.2
  rw [y_Mo_sayHeats_48 _ _, y_Mo_readNumber_0 _ _, d_f hb, am_bd_ok, am_tl, y_Mo_sayHeats_55 _ _ _, d_f hb]
theorem M_htl (hx : x_ok X) : ∀ c k (t : Nat → Nat) q (I : Nat → Nat → Int32) (w2 : Value), k + c = 8 → q ≤ X.1 → sO I → mG X w q kk I → (∀ j, j < k → I 157 (8 + j) = Int32.ofNat (t j)) → ∃ I', am_R 155 4 22 [.ref 147, .int (Int32.ofNat k), w2] [] (am_hp g N sw lv I L) = some (.inl none, (am_hp g N sw lv I' L)) ∧ fW w I I' ∧ hM_ X w kk (hL X c k t q) I'
  | c, k, t, q, I, w2, hk, hq, hs, hG, h7 => by
    have e22 : am_R 155 4 22 [.ref 147, .int (Int32.ofNat k), w2] [] (am_hp g N sw lv I L) = cond (decide (x_K X q = 2)) (cond (decide (k = 8)) (am_R 155 4 48 [.ref 147, .int (Int32.ofNat k), w2] [] (am_hp g N sw lv (am_up (am_up I 147 (upd (I 147) 23 (Int32.ofNat 2))) 147 (upd (upd (I 147) 23 (Int32.ofNat 2)) 24 ((upd (I 147) 23 (Int32.ofNat 2)) 21))) L)) (am_R 155 4 48 [.ref 147, .int (Int32.ofNat k), w2] [] (am_hp g N sw lv I L))) (some (.inl none, (am_hp g N sw lv (am_up I 151 (upd (I 151) 5 (Int32.ofNat k))) L))) := by
      rw [y_Mo_sayHeats_22 _ _, d_t hG.2.1, hG.1.2.2.2.1, (mk_1 _).2, show decide (Int32.ofNat k = 8) = decide (k = 8) from nb_deq (b := 8) (by omega) (by decide), d_t hG.2.1, y_Mo_sayHeats_80 _ _]
      rfl
    have out : fW w I (am_up I 151 (upd (I 151) 5 (Int32.ofNat k))) ∧ hM_ X w kk (.inr (q, k, t)) (am_up I 151 (upd (I 151) 5 (Int32.ofNat k))) := by
      refine ⟨fW_5, mG_5 hG, by rw [up_same, upd_same], ?_⟩
      rw [up_ne (by decide)]
      exact h7
    match c, hk with
    | 0, hk =>
      unfold hL
      by_cases e : x_K X q = 2
      · rw [d_t e]
        obtain ⟨f1, f2⟩ := M_fail hG 2
        refine ⟨_, ?_, fW_fD f2, f1⟩
        rw [e22, d_t e, d_t (by omega)]
        exact M_htb (f := 2) (by decide) f1 _ _
      · rw [d_f e]
        exact ⟨_, by rw [e22, d_f e], out.1, out.2⟩
    | c + 1, hk =>
      unfold hL
      by_cases e : x_K X q = 2
      · rw [d_t e]
        by_cases e0 : nf X q 0 9 = 0
        · rw [d_t e0]
          obtain ⟨I1, a1, a2, a3, a4⟩ := M_num1 (g := g) (N := N) (sw := sw) (lv := lv) (L := L) hx hs hq hG (lo := 0) (hi := 9) (by decide) (by decide) e0
          have s2 : mG X w (x_E X q) kk (am_up I1 157 (upd (I1 157) (8 + k) (Int32.ofNat (x_N X q)))) := stM_up (r := .inr (x_E X q)) (a := 157) (by decide) a2
          have h7' : ∀ j, j < k + 1 → (am_up I1 157 (upd (I1 157) (8 + k) (Int32.ofNat (x_N X q)))) 157 (8 + j) = Int32.ofNat ((fun i => if i = k then x_N X q else t i) j) := fun j hj => by
            show _ = Int32.ofNat (if j = k then x_N X q else t j)
            rw [up_same]
            by_cases ej : j = k
            · rw [if_pos ej, ej, upd_same]
            · rw [if_neg ej, upd_ne (by omega), fD_t a3 (by decide)]
              exact h7 j (by omega)
          obtain ⟨I2, b1, b2, b3⟩ := M_htl hx c (k + 1) _ (x_E X q) (am_up I1 157 (upd (I1 157) (8 + k) (Int32.ofNat (x_N X q)))) (.int (Int32.ofNat (x_N X q))) (by omega) (x_E_le hq).2.1 (sO_up (by decide) a4) s2 h7'
          refine ⟨I2, ?_, fW_tr (fW_tr (fW_fD a3) (fW_7 (by omega))) b2, b3⟩
          rw [e22, d_t e, d_f (by omega), y_Mo_sayHeats_48 _ _]
          refine Eq.trans (congrArg (fun z => am_bd z _ _) a1) ?_
          rw [am_bd_ok, am_tl, y_Mo_sayHeats_55 _ _ _, d_t a2.2.1, show (8 : Int32) + Int32.ofNat k = Int32.ofNat (8 + k) from nb_add 8 k, nb_inb (by omega : 8 + k < 16) (by omega), cond_true, nb_tn (by omega : 8 + k < 100000), nb_s]
          exact b1
        · rw [d_f e0]
          obtain ⟨I1, a1, a2, a3⟩ := M_num0 (g := g) (N := N) (sw := sw) (lv := lv) (L := L) hx hq hG (lo := 0) (hi := 9) (by decide) (by decide) e0
          have n2 : nf X q 0 9 = 2 := by
            rcases nf_n e0 with z | z
            · exact absurd e z.1
            · exact z.2.1
          rw [n2] at a2
          refine ⟨I1, ?_, fW_fD a3, a2⟩
          rw [e22, d_t e, d_f (by omega), y_Mo_sayHeats_48 _ _]
          refine Eq.trans (congrArg (fun z => am_bd z _ _) a1) ?_
          rw [am_bd_ok, am_tl, y_Mo_sayHeats_55 _ _ _, d_f (mF_ne a2 (by decide) (by decide))]
      · rw [d_f e]
        exact ⟨_, by rw [e22, d_f e], out.1, out.2⟩
end MHEAT
