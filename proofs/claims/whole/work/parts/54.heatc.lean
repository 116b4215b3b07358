/-! LINES: the heat's line, class -/
def hL (X : x_X) : Nat → Nat → (Nat → Nat) → Nat → (Nat × Nat) ⊕ (Nat × Nat × (Nat → Nat))
  | 0, k, t, q => cond (decide (x_K X q = 2)) (.inl (2, x_S X q)) (.inr (q, k, t))
  | c + 1, k, t, q => cond (decide (x_K X q = 2)) (cond (decide (nf X q 0 9 = 0)) (hL X c (k + 1) (fun i => if i = k then x_N X q else t i) (x_E X q)) (.inl (2, x_S X q))) (.inr (q, k, t))
/-- the class's heats so far -/
def hS (X : x_X) (rc : Nat) (kk : s_K) (q k : Nat) (t : Nat → Nat) (I : Nat → Nat → Int32) : Prop := pG X rc q kk I ∧ I rc 6 = Int32.ofNat k ∧ ∀ j, j < k → I (rc + 5) j = Int32.ofNat (t j)
/-- all but the heats -/
def fH (rc : Nat) (I I' : Nat → Nat → Int32) : Prop := (∀ a, a ≠ 76 → a ≠ 77 → a ≠ rc → a ≠ rc + 5 → a ≠ rc + 8 → I' a = I a) ∧ I' 77 1 = I 77 1 ∧ ∀ j, j ≠ 6 → j ≠ 11 → I' rc j = I rc j
def hE_ (X : x_X) (rc : Nat) (kk : s_K) (r : (Nat × Nat) ⊕ (Nat × Nat × (Nat → Nat))) (I : Nat → Nat → Int32) : Prop := match r with
  | .inl fp => pF X rc fp.1 fp.2 I
  | .inr y => hS X rc kk y.1 y.2.1 y.2.2 I
section HEAT
variable {g N : Nat} {sw lv : Bool} {L : Nat → Nat → Int64} {X : x_X} {rc : Nat} {kk : s_K}
theorem fH_rfl {I : Nat → Nat → Int32} : fH rc I I := ⟨fun _ _ _ _ _ _ => rfl, rfl, fun _ _ _ => rfl⟩
theorem fH_tr {I I' I'' : Nat → Nat → Int32} (h1 : fH rc I I') (h2 : fH rc I' I'') : fH rc I I'' := ⟨fun a p q r s u => (h2.1 a p q r s u).trans (h1.1 a p q r s u), h2.2.1.trans h1.2.1, fun j p q => (h2.2.2 j p q).trans (h1.2.2 j p q)⟩
theorem fH_fP {I I' : Nat → Nat → Int32} (h : fP rc I I') : fH rc I I' := ⟨fun a p q r _ u => h.1 a p q r u, h.2.1, fun j _ q => h.2.2.1 j q⟩
theorem pF_fr {f pl : Nat} {I I' : Nat → Nat → Int32} (h : pF X rc f pl I) (e1 : I' 77 = I 77) (e2 : I' 78 = I 78) (e3 : I' 76 = I 76) (e4 : I' rc 11 = I rc 11) : pF X rc f pl I' := by
  obtain ⟨⟨q', hq', t'⟩, f1, f2, m, hm, em⟩ := h
  exact ⟨⟨q', hq', cT_fr t' e1 e2⟩, by rw [e3]; exact f1, by rw [e3]; exact f2, m, hm, e4.trans em⟩
theorem hr_5 (hr : am_isc rc) : rc ≠ 76 ∧ rc ≠ 77 ∧ rc ≠ 78 ∧ rc + 5 ≠ 76 ∧ rc + 5 ≠ 77 ∧ rc + 5 ≠ 78 ∧ rc + 5 ≠ rc ∧ rc + 8 ≠ rc + 5 ∧ rc + 8 ≠ rc := by rcases hr with rfl | rfl <;> decide
/-- a heat is added -/
theorem C_addt (hr : am_isc rc) {k : Nat} (hk : k < 8) {I : Nat → Nat → Int32} (h6 : I rc 6 = Int32.ofNat k) (x : Int32) {α : Type} (F : (Nat → Nat → Int32) → α) {z : α} : cond (decide (8 ≤ I rc 6)) (F I) (cond (am_inb (I rc 6) 8) (F (am_up (am_up I (rc + 5) (upd (I (rc + 5)) (Int32.toNatClampNeg (I rc 6)) x)) rc (upd (I rc) 6 (I rc 6 + 1)))) z) = F (am_up (am_up I (rc + 5) (upd (I (rc + 5)) k x)) rc (upd (I rc) 6 (Int32.ofNat (k + 1)))) := by
  rw [h6, nb_ge8 (by omega), d_f (by omega), nb_inb hk (by omega), cond_true, nb_tn (by omega), nb_s]
theorem fH_add {I : Nat → Nat → Int32} {k : Nat} {x y : Int32} (hr : am_isc rc) : fH rc I (am_up (am_up I (rc + 5) (upd (I (rc + 5)) k x)) rc (upd (I rc) 6 y)) := by
  have h5 := hr_5 hr
  exact ⟨fun a p1 p2 p3 p4 p5 => by rw [up_ne p3, up_ne p4], by rw [up_ne (by omega), up_ne (by omega)], fun j p1 p2 => by rw [up_same, upd_ne p1]⟩
theorem hS_add {I : Nat → Nat → Int32} {q k v : Nat} {t : Nat → Nat} (hr : am_isc rc) (h : hS X rc kk q k t I) : hS X rc kk q (k + 1) (fun i => if i = k then v else t i) (am_up (am_up I (rc + 5) (upd (I (rc + 5)) k (Int32.ofNat v))) rc (upd (I rc) 6 (Int32.ofNat (k + 1)))) := by
  have h5 := hr_5 hr
  refine ⟨pG_fr h.1 ?_ ?_ ?_ ?_ ?_, by rw [up_same, upd_same], fun j hj => ?_⟩
  · rw [up_ne (by omega), up_ne (by omega)]
  · rw [up_ne (by omega), up_ne (by omega)]
  · rw [up_ne (by omega), up_ne (by omega)]
  · rw [up_same, upd_ne (by decide)]
  · rw [up_ne (by omega), up_ne (by omega)]
  · rw [up_ne (by omega), up_same]
    show _ = Int32.ofNat (if j = k then v else t j)
    by_cases e : j = k
    · rw [if_pos e, e, upd_same]
    · rw [upd_ne e, if_neg e]
      exact h.2.2 j (by omega)
theorem pF_add {I : Nat → Nat → Int32} {f pl k : Nat} {x y : Int32} (hr : am_isc rc) (h : pF X rc f pl I) : pF X rc f pl (am_up (am_up I (rc + 5) (upd (I (rc + 5)) k x)) rc (upd (I rc) 6 y)) := by
  have h5 := hr_5 hr
  refine pF_fr h ?_ ?_ ?_ ?_
  · rw [up_ne (by omega), up_ne (by omega)]
  · rw [up_ne (by omega), up_ne (by omega)]
  · rw [up_ne (by omega), up_ne (by omega)]
  · rw [up_same, upd_ne (by decide)]
theorem hS_fP {I I' : Nat → Nat → Int32} {q q' k : Nat} {t : Nat → Nat} (hr : am_isc rc) (h : hS X rc kk q k t I) (f : fP rc I I') (h' : pG X rc q' kk I') : hS X rc kk q' k t I' := by
  have h5 := hr_5 hr
  refine ⟨h', (f.2.2.1 6 (by decide)).trans h.2.1, ?_⟩
  rw [f.1 (rc + 5) (by omega) (by omega) (by omega) (by omega)]
  exact h.2.2
/-- bad, in the loop -/
theorem C_htb (hr : am_isc rc) {f pl : Nat} (hf : 0 < f ∧ f < 100) {I : Nat → Nat → Int32} (h : pF X rc f pl I) (x2 : Int32) : am_R 71 10 33 [.ref 76, .ref rc, .int x2] [] (am_hp g N sw lv I L) = am_R 71 10 97 [.ref 76, .ref rc, .int x2] [] (am_hp g N sw lv I L) := by
  have hb := pF_ne h hf.1 hf.2
  rw [y_Rd_readHeat_33 _ hr, d_f hb, y_Rd_readHeat_74 _ hr, d_f hb]
  cases decide ((8 : Int32) ≤ x2) <;> rfl
theorem C_htl (hx : x_ok X) (hr : am_isc rc) (hkk : kk.1 ≤ 700) : ∀ c k (t : Nat → Nat) q (I : Nat → Nat → Int32), k + c = 8 → q ≤ X.1 → sO I → hS X rc kk q k t I → ∃ I' x2, am_R 71 10 33 [.ref 76, .ref rc, .int (Int32.ofNat k)] [] (am_hp g N sw lv I L) = am_R 71 10 97 [.ref 76, .ref rc, .int x2] [] (am_hp g N sw lv I' L) ∧ fH rc I I' ∧ hE_ X rc kk (hL X c k t q) I'
  | 0, k, t, q, I, hk, hq, hs, h => by
    have hG := h.1
    have e74 : am_R 71 10 33 [.ref 76, .ref rc, .int (Int32.ofNat k)] [] (am_hp g N sw lv I L) = am_R 71 10 74 [.ref 76, .ref rc, .int (Int32.ofNat k)] [] (am_hp g N sw lv I L) := by
      rw [y_Rd_readHeat_33 _ hr, nb_ge8 (by omega), d_t (by omega)]
    unfold hL
    by_cases e : x_K X q = 2
    · obtain ⟨f1, f2⟩ := P_fail hr hq hkk hG 2
      rw [d_t e]
      refine ⟨_, Int32.ofNat k, ?_, fH_fP f2, f1⟩
      rw [e74, y_Rd_readHeat_74 _ hr, d_t hG.2.1, show decide (I 77 4 = 2) = decide (x_K X q = 2) from kk_K hx hr hq hG (c := 2) (by decide), d_t e, d_t hG.2.1]
      rfl
    · rw [d_f e]
      refine ⟨I, Int32.ofNat k, ?_, fH_rfl, h⟩
      rw [e74, y_Rd_readHeat_74 _ hr, d_t hG.2.1, show decide (I 77 4 = 2) = decide (x_K X q = 2) from kk_K hx hr hq hG (c := 2) (by decide), d_f e]
  | c + 1, k, t, q, I, hk, hq, hs, h => by
    have hG := h.1
    unfold hL
    by_cases e : x_K X q = 2
    · rw [d_t e]
      have e33 : ∀ v J, am_R 68 9 0 [.ref 76, .int 0, .int 9, am_u] [] (am_hp g N sw lv I L) = some (.inl (some (.int v)), (am_hp g N sw lv J L)) → J rc 6 = Int32.ofNat k → am_R 71 10 33 [.ref 76, .ref rc, .int (Int32.ofNat k)] [] (am_hp g N sw lv I L) = am_R 71 10 33 [.ref 76, .ref rc, .int (Int32.ofNat (k + 1))] [] (am_hp g N sw lv (am_up (am_up J (rc + 5) (upd (J (rc + 5)) k v)) rc (upd (J rc) 6 (Int32.ofNat (k + 1)))) L) := by
        intro v J hv h6
        rw [y_Rd_readHeat_33 _ hr, nb_ge8 (by omega), d_f (by omega), d_t hG.2.1, show decide (I 77 4 = 2) = decide (x_K X q = 2) from kk_K hx hr hq hG (c := 2) (by decide), d_t e, hv, am_bd_ok, am_tl, y_Rd_readHeat_65 _ _ hr, nb_s]
        exact C_addt hr (by omega) h6 v (fun J => am_R 71 10 33 [.ref 76, .ref rc, .int (Int32.ofNat (k + 1))] [] (am_hp g N sw lv J L))
      by_cases e0 : nf X q 0 9 = 0
      · rw [d_t e0]
        obtain ⟨I1, a1, a2, a3, a4⟩ := C_num1 (g := g) (N := N) (sw := sw) (lv := lv) (L := L) hx hr hs hq hG (lo := 0) (hi := 9) (by decide) (by decide) e0
        have s1 := hS_fP hr h a3 a2
        have s2 := hS_add (v := x_N X q) hr s1
        have fr := fH_tr (fH_fP a3) (fH_add (k := k) (x := Int32.ofNat (x_N X q)) (y := Int32.ofNat (k + 1)) hr)
        obtain ⟨I2, x2, b1, b2, b3⟩ := C_htl hx hr hkk c (k + 1) _ (x_E X q) _ (by omega) (x_E_le hq).2.1 (sO_lo hs fun a p => fr.1 a (by omega) (by omega) (by rcases hr with rfl | rfl <;> omega) (by rcases hr with rfl | rfl <;> omega) (by rcases hr with rfl | rfl <;> omega)) s2
        exact ⟨I2, x2, (e33 _ _ a1 s1.2.1).trans b1, fH_tr fr b2, b3⟩
      · rw [d_f e0]
        obtain ⟨I1, a1, a2, a3⟩ := C_num0 (g := g) (N := N) (sw := sw) (lv := lv) (L := L) hx hr hkk hq hG (lo := 0) (hi := 9) (by decide) (by decide) e0
        have n2 : nf X q 0 9 = 2 := by
          rcases nf_n e0 with z | z
          · exact absurd e z.1
          · exact z.2.1
        rw [n2] at a2
        have p2 := pF_add (k := k) (x := 0) (y := Int32.ofNat (k + 1)) hr a2
        refine ⟨_, _, (e33 _ _ a1 ((a3.2.2.1 6 (by decide)).trans h.2.1)).trans (C_htb hr (by decide) p2 _), fH_tr (fH_fP a3) (fH_add hr), p2⟩
    · rw [d_f e]
      refine ⟨I, Int32.ofNat k, ?_, fH_rfl, h⟩
      rw [y_Rd_readHeat_33 _ hr, nb_ge8 (by omega), d_f (by omega), d_t hG.2.1, show decide (I 77 4 = 2) = decide (x_K X q = 2) from kk_K hx hr hq hG (c := 2) (by decide), d_f e, y_Rd_readHeat_74 _ hr, d_t hG.2.1, show decide (I 77 4 = 2) = decide (x_K X q = 2) from kk_K hx hr hq hG (c := 2) (by decide), d_f e]
end HEAT
