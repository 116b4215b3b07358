/-! CALLS: image, restore of the reference; feed -/
section RESTM
variable {g N : Nat} {sw lv : Bool} {I : Nat → Nat → Int32} {L : Nat → Nat → Int64} {S : s_S} {T : tr_T}
theorem cp_L {dst src len : Nat} (hne : src ≠ dst) (hlen : len < 100000) (step : ∀ (I : Nat → Nat → Int32) (x2 : Int32), am_R 263 1 2 [.ref dst, .ref src, .int x2] [] (am_hp g N sw lv I L) = cond (decide (Int32.ofNat len ≤ x2)) (some (.inl none, am_hp g N sw lv I L)) (cond (am_inb x2 len) (cond (am_inb x2 len) (am_R 263 1 2 [.ref dst, .ref src, .int (x2 + 1)] [] (am_hp g N sw lv (am_up I dst (upd (I dst) (Int32.toNatClampNeg x2) (I src (Int32.toNatClampNeg x2)))) L)) none) none)) : ∀ c k (I1 : Nat → Nat → Int32), k + c = len → (∀ j, j < k → I1 dst j = I src j) → (∀ a, a ≠ dst → I1 a = I a) → ∃ I2, am_R 263 1 2 [.ref dst, .ref src, .int (Int32.ofNat k)] [] (am_hp g N sw lv I1 L) = some (.inl none, am_hp g N sw lv I2 L) ∧ (∀ j, j < len → I2 dst j = I src j) ∧ ∀ a, a ≠ dst → I2 a = I a
  | 0, k, I1, hc, h1, h2 => by
    refine ⟨I1, ?_, fun j hj => h1 j (by omega), h2⟩
    rw [step, nb_dle (by omega) (by omega), d_t (by omega : len ≤ k)]
  | c + 1, k, I1, hc, h1, h2 => by
    obtain ⟨I2, b1, b2, b3⟩ := cp_L hne hlen step c (k + 1) (am_up I1 dst (upd (I1 dst) k (I1 src k))) (by omega) (fun j hj => by
      rw [up_same]
      by_cases q : j = k
      · rw [q, upd_same, h2 src hne]
      · rw [upd_ne q]
        exact h1 j (by omega)) (fun a p => by rw [up_ne p]; exact h2 a p)
    refine ⟨I2, ?_, b2, b3⟩
    rw [step, nb_dle (by omega) (by omega), d_f (by omega : ¬ len ≤ k), nb_inb (show k < len by omega) (by omega), nb_tn (by omega), nb_s]
    exact b1
theorem cp_A (I : Nat → Nat → Int32) : ∃ I2, am_R 263 1 0 [.ref 180, .ref 167, am_u] [] (am_hp g N sw lv I L) = some (.inl none, am_hp g N sw lv I2 L) ∧ (∀ j, j < 1680 → I2 180 j = I 167 j) ∧ ∀ a, a ≠ 180 → I2 a = I a := by
  rw [y_Mo_copyToA_0]
  exact cp_L (by decide) (by decide) (fun I x => y_Mo_copyToA_2 x) 1680 0 I (by omega) (fun j hj => by omega) (fun _ _ => rfl)
theorem cp_B (I : Nat → Nat → Int32) : ∃ I2, am_R 263 1 0 [.ref 181, .ref 172, am_u] [] (am_hp g N sw lv I L) = some (.inl none, am_hp g N sw lv I2 L) ∧ (∀ j, j < 8 → I2 181 j = I 172 j) ∧ ∀ a, a ≠ 181 → I2 a = I a := by
  rw [y_Mo_copyToB_0]
  exact cp_L (by decide) (by decide) (fun I x => y_Mo_copyToB_2 x) 8 0 I (by omega) (fun j hj => by omega) (fun _ _ => rfl)
theorem cp_C (I : Nat → Nat → Int32) : ∃ I2, am_R 263 1 0 [.ref 182, .ref 173, am_u] [] (am_hp g N sw lv I L) = some (.inl none, am_hp g N sw lv I2 L) ∧ (∀ j, j < 8 → I2 182 j = I 173 j) ∧ ∀ a, a ≠ 182 → I2 a = I a := by
  rw [y_Mo_copyToC_0]
  exact cp_L (by decide) (by decide) (fun I x => y_Mo_copyToC_2 x) 8 0 I (by omega) (fun j hj => by omega) (fun _ _ => rfl)
theorem cp_D (I : Nat → Nat → Int32) : ∃ I2, am_R 263 1 0 [.ref 183, .ref 160, am_u] [] (am_hp g N sw lv I L) = some (.inl none, am_hp g N sw lv I2 L) ∧ (∀ j, j < 3 → I2 183 j = I 160 j) ∧ ∀ a, a ≠ 183 → I2 a = I a := by
  rw [y_Mo_copyToD_0]
  exact cp_L (by decide) (by decide) (fun I x => y_Mo_copyToD_2 x) 3 0 I (by omega) (fun j hj => by omega) (fun _ _ => rfl)
theorem cp_E (I : Nat → Nat → Int32) : ∃ I2, am_R 263 1 0 [.ref 167, .ref 180, am_u] [] (am_hp g N sw lv I L) = some (.inl none, am_hp g N sw lv I2 L) ∧ (∀ j, j < 1680 → I2 167 j = I 180 j) ∧ ∀ a, a ≠ 167 → I2 a = I a := by
  rw [y_Mo_copyToE_0]
  exact cp_L (by decide) (by decide) (fun I x => y_Mo_copyToE_2 x) 1680 0 I (by omega) (fun j hj => by omega) (fun _ _ => rfl)
theorem cp_F (I : Nat → Nat → Int32) : ∃ I2, am_R 263 1 0 [.ref 172, .ref 181, am_u] [] (am_hp g N sw lv I L) = some (.inl none, am_hp g N sw lv I2 L) ∧ (∀ j, j < 8 → I2 172 j = I 181 j) ∧ ∀ a, a ≠ 172 → I2 a = I a := by
  rw [y_Mo_copyToF_0]
  exact cp_L (by decide) (by decide) (fun I x => y_Mo_copyToF_2 x) 8 0 I (by omega) (fun j hj => by omega) (fun _ _ => rfl)
theorem cp_G (I : Nat → Nat → Int32) : ∃ I2, am_R 263 1 0 [.ref 173, .ref 182, am_u] [] (am_hp g N sw lv I L) = some (.inl none, am_hp g N sw lv I2 L) ∧ (∀ j, j < 8 → I2 173 j = I 182 j) ∧ ∀ a, a ≠ 173 → I2 a = I a := by
  rw [y_Mo_copyToG_0]
  exact cp_L (by decide) (by decide) (fun I x => y_Mo_copyToG_2 x) 8 0 I (by omega) (fun j hj => by omega) (fun _ _ => rfl)
theorem cp_H (I : Nat → Nat → Int32) : ∃ I2, am_R 263 1 0 [.ref 160, .ref 183, am_u] [] (am_hp g N sw lv I L) = some (.inl none, am_hp g N sw lv I2 L) ∧ (∀ j, j < 3 → I2 160 j = I 183 j) ∧ ∀ a, a ≠ 160 → I2 a = I a := by
  rw [y_Mo_copyToH_0]
  exact cp_L (by decide) (by decide) (fun I x => y_Mo_copyToH_2 x) 3 0 I (by omega) (fun j hj => by omega) (fun _ _ => rfl)
theorem pM_cp {a b o : Nat} {I' : Nat → Nat → Int32} (h : pM a o T I) (hn : t_n T ≤ 8) (ho : o + 42 ≤ 1680) (e : ∀ j, j < 1680 → I' b j = I a j) : pM b o T I' := by
  refine ⟨(e o (by omega)).trans h.1, (e (o + 1) (by omega)).trans h.2.1, fun k hk => ?_⟩
  rw [e (o + 2 + k) (by omega), e (o + 10 + k) (by omega), e (o + 18 + k) (by omega), e (o + 26 + k) (by omega), e (o + 34 + k) (by omega)]
  exact h.2.2 k hk
theorem aM_cp {pa pb j j' n : Nat} {A : s_A} {I' : Nat → Nat → Int32} (h : aM pa j A I) (hg : gA n A) (e1 : I' 147 j' = I 147 j) (e : ∀ k, k < 1680 → I' pb k = I pa k) : aM pb j' A I' := by
  have := hg.1
  exact ⟨e1.trans h.1, fun i hi => pM_cp (h.2 i hi) (hg.2 i hi).1.1 (by omega) e⟩
theorem wMs_cp {j q d p j' q' d' p' : Nat} {W : s_W} {I' : Nat → Nat → Int32} (h : wMs j q d p W I) (hg : gW W) (e0 : I' 147 j' = I 147 j) (e1 : ∀ k, k < 8 → I' q' k = I q k) (e2 : ∀ k, k < 8 → I' d' k = I d k) (e3 : ∀ k, k < 8 → I' p' k = vp_nar .boolean (I p k)) : wMs j' q' d' p' W I' := by
  have h8 := hg.1
  refine ⟨e0.trans h.1, fun i hi => ?_⟩
  obtain ⟨a1, a2, a3⟩ := h.2 i hi
  rw [e1 i (by omega), e2 i (by omega), e3 i (by omega), a3, w_nar]
  exact ⟨a1, a2, rfl⟩
theorem M_imB (I : Nat → Nat → Int32) : ∀ c k (I1 : Nat → Nat → Int32), k + c = 8 → (∀ j, j < k → I1 184 j = vp_nar .boolean (I 175 j)) → (∀ a, a ≠ 184 → I1 a = I a) → ∃ I2, am_R 262 2 70 [.ref 147, .int (Int32.ofNat k)] [] (am_hp g N sw lv I1 L) = am_R 262 2 70 [.ref 147, .int (Int32.ofNat 8)] [] (am_hp g N sw lv I2 L) ∧ (∀ j, j < 8 → I2 184 j = vp_nar .boolean (I 175 j)) ∧ ∀ a, a ≠ 184 → I2 a = I a
  | 0, k, I1, hc, h1, h2 => ⟨I1, by rw [show k = 8 by omega], fun j hj => h1 j (by omega), h2⟩
  | c + 1, k, I1, hc, h1, h2 => by
    obtain ⟨I2, b1, b2, b3⟩ := M_imB I c (k + 1) (am_up I1 184 (upd (I1 184) k (vp_nar .boolean (I1 175 k)))) (by omega) (fun j hj => by
      rw [up_same]
      by_cases q : j = k
      · rw [q, upd_same, h2 175 (by decide)]
      · rw [upd_ne q]
        exact h1 j (by omega)) (fun a p => by rw [up_ne p]; exact h2 a p)
    refine ⟨I2, ?_, b2, b3⟩
    rw [y_Mo_image_70 _, nb_ge8 (by omega), d_f (by omega : ¬ 8 ≤ k), nb_inb (show k < 8 by omega) (by omega), nb_tn (by omega), nb_s]
    exact b1
theorem M_rsB (I : Nat → Nat → Int32) : ∀ c k (I1 : Nat → Nat → Int32), k + c = 8 → (∀ j, j < k → I1 175 j = vp_nar .boolean (I 184 j)) → (∀ a, a ≠ 175 → I1 a = I a) → ∃ I2, am_R 264 2 74 [.ref 147, .int (Int32.ofNat k)] [] (am_hp g N sw lv I1 L) = am_R 264 2 74 [.ref 147, .int (Int32.ofNat 8)] [] (am_hp g N sw lv I2 L) ∧ (∀ j, j < 8 → I2 175 j = vp_nar .boolean (I 184 j)) ∧ ∀ a, a ≠ 175 → I2 a = I a
  | 0, k, I1, hc, h1, h2 => ⟨I1, by rw [show k = 8 by omega], fun j hj => h1 j (by omega), h2⟩
  | c + 1, k, I1, hc, h1, h2 => by
    obtain ⟨I2, b1, b2, b3⟩ := M_rsB I c (k + 1) (am_up I1 175 (upd (I1 175) k (vp_nar .boolean (I1 184 k)))) (by omega) (fun j hj => by
      rw [up_same]
      by_cases q : j = k
      · rw [q, upd_same, h2 184 (by decide)]
      · rw [upd_ne q]
        exact h1 j (by omega)) (fun a p => by rw [up_ne p]; exact h2 a p)
    refine ⟨I2, ?_, b2, b3⟩
    rw [y_Mo_restore_74 _, nb_ge8 (by omega), d_f (by omega : ¬ 8 ≤ k), nb_inb (show k < 8 by omega) (by omega), nb_tn (by omega), nb_s]
    exact b1
theorem M_image (h : sM S I) (hg : sG S) : ∃ I', am_R 262 2 0 [.ref 147, am_u] [] (am_hp g N sw lv I L) = some (.inl none, am_hp g N sw lv I' L) ∧ sM (s_im S) I' ∧ ∀ a, a < 147 → I' a = I a := by
  obtain ⟨k1, k2, k3, k4, k5, k6, k7⟩ := h
  have e := y_Mo_image_0 (g := g) (N := N) (sw := sw) (lv := lv) (I := I) (L := L)
  generalize hJ : (am_up (am_up (am_up (am_up I 147 (upd (I 147) 4 0)) 147 (upd ((upd (I 147) 4 0)) 51 1)) 147 (upd ((upd ((upd (I 147) 4 0)) 51 1)) 52 ((upd ((upd (I 147) 4 0)) 51 1) 35))) 147 (upd ((upd ((upd ((upd (I 147) 4 0)) 51 1)) 52 ((upd ((upd (I 147) 4 0)) 51 1) 35))) 53 ((upd ((upd ((upd (I 147) 4 0)) 51 1)) 52 ((upd ((upd (I 147) 4 0)) 51 1) 35)) 36))) = J at e
  have u : ∀ a, a ≠ 147 → J a = I a := fun a p => by rw [← hJ, up_ne p, up_ne p, up_ne p, up_ne p]
  have v : ∀ j, j ≠ 4 → j ≠ 51 → j ≠ 52 → j ≠ 53 → J 147 j = I 147 j := fun j p1 p2 p3 p4 => by rw [← hJ, up_same, upd_ne p4, upd_ne p3, upd_ne p2, upd_ne p1]
  have q1 : J 147 51 = 1 ∧ J 147 52 = I 147 35 ∧ J 147 53 = I 147 36 := by rw [← hJ]; exact ⟨rfl, rfl, rfl⟩
  have rJ : rM (sT S) J := rM_fr k1.2.1 (fun a q => u a (by omega)) (v 33 (by decide) (by decide) (by decide) (by decide)) (v 34 (by decide) (by decide) (by decide) (by decide))
  obtain ⟨J1, a1, a2, a3, -⟩ := rM_pack (g := g) (N := N) (sw := sw) (lv := lv) (L := L) (aa := 179) (by unfold am_isk; omega) rJ hg.1.1 (o := 0) (show 0 + 42 ≤ 42 by decide) (show 42 ≤ 2000 by decide)
  obtain ⟨J2, b1, b2, b3⟩ := cp_A (g := g) (N := N) (sw := sw) (lv := lv) (L := L) J1
  obtain ⟨J3, c1, c2, c3⟩ := cp_B (g := g) (N := N) (sw := sw) (lv := lv) (L := L) J2
  obtain ⟨J4, d1, d2, d3⟩ := cp_C (g := g) (N := N) (sw := sw) (lv := lv) (L := L) J3
  obtain ⟨J5, f1, f2, f3⟩ := M_imB (g := g) (N := N) (sw := sw) (lv := lv) (L := L) J4 8 0 J4 (by omega) (fun j hj => by omega) (fun _ _ => rfl)
  obtain ⟨J6, m1, m2, m3⟩ := cp_D (g := g) (N := N) (sw := sw) (lv := lv) (L := L) J5
  have w : ∀ a, a < 179 → J6 a = J a := fun a p => by rw [m3 a (by omega), f3 a (by omega), d3 a (by omega), c3 a (by omega), b3 a (by omega), a2 a (by omega)]
  have w2 : ∀ a, a ≠ 147 → a < 179 → J6 a = I a := fun a p q => (w a q).trans (u a p)
  have w7 : ∀ j, J6 147 j = J 147 j := fun j => by rw [w 147 (by decide)]
  refine ⟨J6, ?_, ⟨⟨qM_fr k1.1 (fun a p q => w2 a (by omega) (by omega)), rM_fr rJ (fun a q => w a (by omega)) (w7 33) (w7 34), (w7 37).trans ((v 37 (by decide) (by decide) (by decide) (by decide)).trans k1.2.2.1), fun j hj => by rw [w2 152 (by decide) (by decide)]; exact k1.2.2.2 j hj⟩, aM_fr k2 ((w7 35).trans (v 35 (by decide) (by decide) (by decide) (by decide))) (w2 167 (by decide) (by decide)), wMs_fr k3 ((w7 36).trans (v 36 (by decide) (by decide) (by decide) (by decide))) (w2 172 (by decide) (by decide)) (w2 173 (by decide) (by decide)) (w2 175 (by decide) (by decide)), by rw [w2 160 (by decide) (by decide)]; exact k4, tM_fr k5 ((w7 16).trans (v 16 (by decide) (by decide) (by decide) (by decide))) (w2 161 (by decide) (by decide)), (w7 25).trans ((v 25 (by decide) (by decide) (by decide) (by decide)).trans k6), ⟨(w7 51).trans q1.1, pM_fr a3 ?_, aM_cp k2 hg.2.1 ((w7 52).trans q1.2.1) ?_, wMs_cp k3 hg.2.2.1 ((w7 53).trans q1.2.2) ?_ ?_ ?_, ?_⟩⟩, fun a p => w2 a (by omega) (by omega)⟩
  · rw [e, show (.int 0 : Value) = .int (Int32.ofNat 0) from rfl, a1, am_bd_ok, am_tn, y_Mo_image_35, b1, am_bd_ok, am_tn, y_Mo_image_46, c1, am_bd_ok, am_tn, y_Mo_image_57, d1, am_bd_ok, am_tn, y_Mo_image_68, show (.int 0 : Value) = .int (Int32.ofNat 0) from rfl, f1, y_Mo_image_70 _, nb_ge8 (by omega), d_t (Nat.le_refl 8), m1, am_bd_ok, am_tn, y_Mo_image_105 _]
  · rw [m3 179 (by decide), f3 179 (by decide), d3 179 (by decide), c3 179 (by decide), b3 179 (by decide)]
  · intro k hk
    rw [m3 180 (by decide), f3 180 (by decide), d3 180 (by decide), c3 180 (by decide), b2 k hk, a2 167 (by decide), u 167 (by decide)]
  · intro k hk
    rw [m3 181 (by decide), f3 181 (by decide), d3 181 (by decide), c2 k hk, b3 172 (by decide), a2 172 (by decide), u 172 (by decide)]
  · intro k hk
    rw [m3 182 (by decide), f3 182 (by decide), d2 k hk, c3 173 (by decide), b3 173 (by decide), a2 173 (by decide), u 173 (by decide)]
  · intro k hk
    rw [m3 184 (by decide), f2 k hk, d3 175 (by decide), c3 175 (by decide), b3 175 (by decide), a2 175 (by decide), u 175 (by decide)]
  · intro k hk
    rw [m2 k hk, f3 160 (by decide), d3 160 (by decide), c3 160 (by decide), b3 160 (by decide), a2 160 (by decide), u 160 (by decide)]
    exact k4 k hk
theorem M_restore (h : sM S I) (hg : sG S) : KM g N sw lv L I k1 (am_R 264 2 0 [.ref 147, am_u] [] (am_hp g N sw lv I L)) (sp_restore S).1 (sp_restore S).2 := by
  obtain ⟨k1', k2, k3, k4, k5, k6, k7⟩ := h
  have h0 : sM S I := ⟨k1', k2, k3, k4, k5, k6, k7⟩
  unfold sp_restore
  cases hi : sI S with
  | none =>
    rw [hi] at k7
    have k7' : I 147 51 = 0 := k7
    rw [y_Mo_restore_0, show (upd (I 147) 4 0) 51 = 0 from (upd_ne (by decide)).trans k7', d_t rfl]
    exact KM_v (sM_4 h0 0) (fun a p => up_ne (by omega)) (by rw [up_same, upd_same]) rfl
  | some y =>
    rw [hi] at k7
    obtain ⟨i1, i2, i3, i4, i5⟩ := k7
    obtain ⟨g1, g2, g3⟩ := hg.2.2.2.2.2 y hi
    have e := y_Mo_restore_0 (g := g) (N := N) (sw := sw) (lv := lv) (I := I) (L := L)
    rw [show (upd (I 147) 4 0) 51 = 1 from (upd_ne (by decide)).trans i1, d_f (by decide)] at e
    generalize hJ : (am_up (am_up (am_up I 147 (upd (I 147) 4 0)) 147 (upd ((upd (I 147) 4 0)) 35 ((upd (I 147) 4 0) 52))) 147 (upd ((upd ((upd (I 147) 4 0)) 35 ((upd (I 147) 4 0) 52))) 36 ((upd ((upd (I 147) 4 0)) 35 ((upd (I 147) 4 0) 52)) 53))) = J at e
    have u : ∀ a, a ≠ 147 → J a = I a := fun a p => by rw [← hJ, up_ne p, up_ne p, up_ne p]
    have v : ∀ j, j ≠ 4 → j ≠ 35 → j ≠ 36 → J 147 j = I 147 j := fun j p1 p2 p3 => by rw [← hJ, up_same, upd_ne p3, upd_ne p2, upd_ne p1]
    have q1 : J 147 35 = I 147 52 ∧ J 147 36 = I 147 53 ∧ J 147 4 = 0 := by rw [← hJ]; exact ⟨rfl, rfl, rfl⟩
    obtain ⟨J1, a1, a2, a3, a4⟩ := rM_unpack (g := g) (N := N) (sw := sw) (lv := lv) (L := L) (aa := 179) (by unfold am_isk; omega) g1.1 (by rw [u 151 (by decide), g1.2.1]; exact k1'.2.1.1) (o := 0) (show 0 + 42 ≤ 42 by decide) (show 42 ≤ 2000 by decide) (pM_fr i2 (u 179 (by decide)))
    obtain ⟨J2, b1, b2, b3⟩ := cp_E (g := g) (N := N) (sw := sw) (lv := lv) (L := L) J1
    obtain ⟨J3, c1, c2, c3⟩ := cp_F (g := g) (N := N) (sw := sw) (lv := lv) (L := L) J2
    obtain ⟨J4, d1, d2, d3⟩ := cp_G (g := g) (N := N) (sw := sw) (lv := lv) (L := L) J3
    obtain ⟨J5, f1, f2, f3⟩ := M_rsB (g := g) (N := N) (sw := sw) (lv := lv) (L := L) J4 8 0 J4 (by omega) (fun j hj => by omega) (fun _ _ => rfl)
    obtain ⟨J6, m1, m2, m3⟩ := cp_H (g := g) (N := N) (sw := sw) (lv := lv) (L := L) J5
    have w : ∀ a, a ≠ 167 → a ≠ 172 → a ≠ 173 → a ≠ 175 → a ≠ 160 → J6 a = J1 a := fun a p1 p2 p3 p4 p5 => by rw [m3 a p5, f3 a p4, d3 a p3, c3 a p2, b3 a p1]
    have w2 : ∀ a, a < 147 ∨ 151 ≤ a ∧ a ≤ 159 ∨ a = 161 ∨ 179 ≤ a → J6 a = I a := fun a p => by
      rw [w a (by omega) (by omega) (by omega) (by omega) (by omega), a3 a (by omega) (by omega) (by omega) (by omega) (by omega) (by omega), u a (by omega)]
    have w7 : ∀ j, j ≠ 33 → j ≠ 34 → J6 147 j = J 147 j := fun j p q => by
      rw [w 147 (by decide) (by decide) (by decide) (by decide) (by decide)]
      exact a4 j p q
    have r6 : rM y.1 J6 := rM_fr a2 (fun a q => w a (by omega) (by omega) (by omega) (by omega) (by omega)) (by rw [w 147 (by decide) (by decide) (by decide) (by decide) (by decide)]) (by rw [w 147 (by decide) (by decide) (by decide) (by decide) (by decide)])
    refine KM_v (S' := s_rs S y) (J := J6) (sM_of (S := S) h0 r6 g1.2.1 ((w7 37 (by decide) (by decide)).trans ((v 37 (by decide) (by decide) (by decide)).trans k1'.2.2.1)) (aM_cp i3 g2 ((w7 35 (by decide) (by decide)).trans q1.1) ?_) (wMs_cp i4 g3 ((w7 36 (by decide) (by decide)).trans q1.2.1) ?_ ?_ ?_) ?_ (tM_fr k5 ((w7 16 (by decide) (by decide)).trans (v 16 (by decide) (by decide) (by decide))) (w2 161 (by decide))) ((w7 25 (by decide) (by decide)).trans ((v 25 (by decide) (by decide) (by decide)).trans k6)) (fun a q => w2 a (by omega)) (fun j p q => (w7 j (by omega) (by omega)).trans (v j (by omega) (by omega) (by omega)))) (fun a p => w2 a (by omega)) ((w7 4 (by decide) (by decide)).trans q1.2.2) ?_
    · intro k hk
      rw [m3 167 (by decide), f3 167 (by decide), d3 167 (by decide), c3 167 (by decide), b2 k hk, a3 180 (by decide) (by decide) (by decide) (by decide) (by decide) (by decide), u 180 (by decide)]
    · intro k hk
      rw [m3 172 (by decide), f3 172 (by decide), d3 172 (by decide), c2 k hk, b3 181 (by decide), a3 181 (by decide) (by decide) (by decide) (by decide) (by decide) (by decide), u 181 (by decide)]
    · intro k hk
      rw [m3 173 (by decide), f3 173 (by decide), d2 k hk, c3 182 (by decide), b3 182 (by decide), a3 182 (by decide) (by decide) (by decide) (by decide) (by decide) (by decide), u 182 (by decide)]
    · intro k hk
      rw [m3 175 (by decide), f2 k hk, d3 184 (by decide), c3 184 (by decide), b3 184 (by decide), a3 184 (by decide) (by decide) (by decide) (by decide) (by decide) (by decide), u 184 (by decide)]
    · intro k hk
      rw [m2 k hk, f3 183 (by decide), d3 183 (by decide), c3 183 (by decide), b3 183 (by decide), a3 183 (by decide) (by decide) (by decide) (by decide) (by decide) (by decide), u 183 (by decide)]
      exact i5 k hk
    · rw [e, show (.int 0 : Value) = .int (Int32.ofNat 0) from rfl, a1, am_bd_ok, am_tn, y_Mo_restore_39, b1, am_bd_ok, am_tn, y_Mo_restore_50, c1, am_bd_ok, am_tn, y_Mo_restore_61, d1, am_bd_ok, am_tn, y_Mo_restore_72, show (.int 0 : Value) = .int (Int32.ofNat 0) from rfl, f1, y_Mo_restore_74 _, nb_ge8 (by omega), d_t (Nat.le_refl 8), m1, am_bd_ok, am_tn, y_Mo_restore_109 _]
end RESTM
/-! feed -/
def fe_b (x : Int32) (s : Nat) : Nat := ((x >>> (Int32.ofNat s &&& 31)) &&& 255).toNatClampNeg
theorem fe_and (x : Int32) : ∃ v, v < 256 ∧ x &&& 255 = Int32.ofNat v := by
  refine ⟨(x.toBitVec &&& 255#32).toNat, ?_, ?_⟩
  · rw [BitVec.toNat_and]
    exact Nat.lt_of_le_of_lt Nat.and_le_right (by decide)
  · refine Int32.toBitVec.inj ?_
    show x.toBitVec &&& 255#32 = BitVec.ofNat 32 (x.toBitVec &&& 255#32).toNat
    rw [BitVec.ofNat_toNat, BitVec.setWidth_eq]
theorem fe_e (x : Int32) (s : Nat) : fe_b x s < 256 ∧ (x >>> (Int32.ofNat s &&& 31)) &&& 255 = Int32.ofNat (fe_b x s) := by
  obtain ⟨v, hv, e⟩ := fe_and (x >>> (Int32.ofNat s &&& 31))
  unfold fe_b
  rw [e, nb_tn (by omega)]
  exact ⟨hv, rfl⟩
theorem fe_8 (y : Int32) : (y &&& 255).toInt8 = y.toInt8 := by
  refine Int8.toBitVec.inj ?_
  show (y.toBitVec &&& 255#32).signExtend 8 = y.toBitVec.signExtend 8
  refine BitVec.eq_of_getLsbD_eq fun i hi => ?_
  have hm : ∀ i, i < 8 → (255#32).getLsbD i = true := by decide
  rw [BitVec.getLsbD_signExtend, BitVec.getLsbD_signExtend, if_pos (by omega : i < 32), if_pos (by omega : i < 32), BitVec.getLsbD_and, hm i hi, Bool.and_true]
theorem fe_n (x : Int32) (s : Nat) : vp_nar .byte (Int8.toInt32 (Int32.toInt8 (x >>> (Int32.ofNat s &&& 31)))) = (Int32.ofNat (fe_b x s)).toInt8.toInt32 := by
  show (Int8.toInt32 (Int32.toInt8 (x >>> (Int32.ofNat s &&& 31)))).toInt8.toInt32 = _
  rw [Int8.toInt8_toInt32, ← (fe_e x s).2, fe_8]
def tp_add (P : Nat × (Nat → Nat)) (b : Nat) : Nat × (Nat → Nat) := (P.1 + 1, fun i => if i = P.1 then b else P.2 i)
def fe_w (a b c d e : Int32) (k : Nat) : Int32 := cond (decide (4 ≤ k)) (cond (decide (8 ≤ k)) (cond (decide (12 ≤ k)) (cond (decide (16 ≤ k)) e d) c) b) a
def fe_k (a b c d e : Int32) (k : Nat) : Nat := fe_b (fe_w a b c d e k) (24 - 8 * (k % 4))
def fe_r (a b c d e : Int32) (P : Nat × (Nat → Nat)) (k : Nat) : Nat × (Nat → Nat) := fd k (fun j p => tp_add p (fe_k a b c d e j)) P
def s_P (S : s_S) (P' : Nat × (Nat → Nat)) : s_S := ((sE S, sB S, sT S), sA S, sW S, sF S, P', sX S, sI S)
def sp_feed (S : s_S) (a b c d e : Int32) : a_O × s_S := cond (decide ((sP S).1 + 20 ≤ 700)) (.inl (Int32.ofNat ((sP S).1 + 20)), s_P S (fe_r a b c d e (sP S) 20)) (.inl (-1), S)
theorem fe_r1 (a b c d e : Int32) (P : Nat × (Nat → Nat)) : ∀ k, (fe_r a b c d e P k).1 = P.1 + k
  | 0 => rfl
  | k + 1 => by
    show (fe_r a b c d e P k).1 + 1 = _
    rw [fe_r1 a b c d e P k]
    rfl
section FEED
variable {g N : Nat} {sw lv : Bool} {I : Nat → Nat → Int32} {L : Nat → Nat → Int64} {S : s_S}
theorem C_ad1 {P : Nat × (Nat → Nat)} {I1 : Nat → Nat → Int32} (h : tC P I1) (hP : P.1 < 700) (x : Int32) {s : Nat} (hs : s < 100) : ∃ I2, am_R 11 1 3 [.ref 77, .int x, .int (Int32.ofNat s)] [] (am_hp g N sw lv I1 L) = am_R 11 1 3 [.ref 77, .int x, .int (Int32.ofNat s + (-8))] [] (am_hp g N sw lv I2 L) ∧ tC (tp_add P (fe_b x s)) I2 ∧ ∀ a, a ≠ 77 → a ≠ 78 → I2 a = I1 a := by
  refine ⟨am_up (am_up I1 78 (upd (I1 78) P.1 (Int32.ofNat (fe_b x s)).toInt8.toInt32)) 77 (upd (I1 77) 1 (Int32.ofNat (P.1 + 1))), ?_, ⟨rfl, fun i hi => ?_⟩, fun a p q => by rw [up_ne p, up_ne q]⟩
  · rw [y_Ta_add_3 _ _, d_f (nb_nn (by omega)), h.1, show decide ((700 : Int32) ≤ Int32.ofNat P.1) = decide (700 ≤ P.1) from nb_dle (a := 700) (by decide) (by omega), d_f (by omega : ¬ 700 ≤ P.1), nb_inb (show P.1 < 700 by omega) (by omega), nb_tn (by omega), fe_n, nb_s]
    rfl
  · have hi2 : i < P.1 + 1 := hi
    show upd (I1 78) P.1 _ i = (Int32.ofNat (if i = P.1 then fe_b x s else P.2 i)).toInt8.toInt32
    by_cases q : i = P.1
    · rw [if_pos q, q, upd_same]
    · rw [if_neg q, upd_ne q]
      exact h.2 i (by omega)
theorem C_ad4 {P : Nat × (Nat → Nat)} {I1 : Nat → Nat → Int32} (h : tC P I1) (hP : P.1 + 4 ≤ 700) (x : Int32) : ∃ I2, am_R 11 1 0 [.ref 77, .int x, am_u] [] (am_hp g N sw lv I1 L) = some (.inl none, am_hp g N sw lv I2 L) ∧ tC (tp_add (tp_add (tp_add (tp_add P (fe_b x 24)) (fe_b x 16)) (fe_b x 8)) (fe_b x 0)) I2 ∧ ∀ a, a ≠ 77 → a ≠ 78 → I2 a = I1 a := by
  obtain ⟨J1, a1, a2, a3⟩ := C_ad1 (g := g) (N := N) (sw := sw) (lv := lv) (L := L) h (by omega) x (s := 24) (by decide)
  obtain ⟨J2, b1, b2, b3⟩ := C_ad1 (g := g) (N := N) (sw := sw) (lv := lv) (L := L) a2 (by show P.1 + 1 < 700; omega) x (s := 16) (by decide)
  obtain ⟨J3, c1, c2, c3⟩ := C_ad1 (g := g) (N := N) (sw := sw) (lv := lv) (L := L) b2 (by show P.1 + 1 + 1 < 700; omega) x (s := 8) (by decide)
  obtain ⟨J4, d1, d2, d3⟩ := C_ad1 (g := g) (N := N) (sw := sw) (lv := lv) (L := L) c2 (by show P.1 + 1 + 1 + 1 < 700; omega) x (s := 0) (by decide)
  refine ⟨J4, ?_, d2, fun a p q => by rw [d3 a p q, c3 a p q, b3 a p q, a3 a p q]⟩
  rw [y_Ta_add_0 _, show (.int 24 : Value) = .int (Int32.ofNat 24) from rfl, a1, show Int32.ofNat 24 + (-8) = Int32.ofNat 16 from rfl, b1, show Int32.ofNat 16 + (-8) = Int32.ofNat 8 from rfl, c1, show Int32.ofNat 8 + (-8) = Int32.ofNat 0 from rfl, d1, y_Ta_add_3 _ _, d_t (by decide)]
theorem sC_P {P' : Nat × (Nat → Nat)} {I' : Nat → Nat → Int32} (h : sC S sw I) (hp : tC P' I') (e : ∀ a, a ≠ 77 → a ≠ 78 → I' a = I a) : sC (s_P S P') sw I' := by
  obtain ⟨h1, h2, h3, h4, h5, h6, h7⟩ := h
  refine sC_of (S := S) ⟨h1, h2, h3, h4, h5, h6, h7⟩ (rC_fr h1.2.1 (fun a p q => e a (by omega) (by omega))) (aC_fr h2 (e 119 (by decide) (by decide)) (e 120 (by decide) (by decide))) (wCs_fr h3 (fun a p q => e a (by omega) (by omega))) ?_ hp ?_ (fun a q => e a (by omega) (by omega))
  · rw [e 125 (by decide) (by decide)]
    exact h4
  · rw [e 75 (by decide) (by decide)]
    exact h6
theorem nb_20 (a : Nat) : Int32.ofNat a + 20 = Int32.ofNat (a + 20) := nb_add a 20
theorem C_feed (h : sC S sw I) (hg : sG S) (a b c d e : Int32) : KC g N sw lv L I (am_R 10 2 0 [.ref 75, .int a, .int b, .int c, .int d, .int e, am_u] [] (am_hp g N sw lv I L)) (sp_feed S a b c d e).1 (sp_feed S a b c d e).2 := by
  have hp := hg.2.2.2.1.1
  rw [y_Ca_feed_0 _ _ _ _ _, h.2.2.2.2.1.1, nb_20, show decide (Int32.ofNat ((sP S).1 + 20) ≤ 700) = decide ((sP S).1 + 20 ≤ 700) from nb_dle (b := 700) (by omega) (by decide)]
  unfold sp_feed
  by_cases hq : (sP S).1 + 20 ≤ 700
  · rw [d_t hq, d_t hq]
    obtain ⟨J1, a1, a2, a3⟩ := C_ad4 (g := g) (N := N) (sw := sw) (lv := lv) (L := L) h.2.2.2.2.1 (by omega) a
    obtain ⟨J2, b1, b2, b3⟩ := C_ad4 (g := g) (N := N) (sw := sw) (lv := lv) (L := L) a2 (by show (sP S).1 + 1 + 1 + 1 + 1 + 4 ≤ 700; omega) b
    obtain ⟨J3, c1, c2, c3⟩ := C_ad4 (g := g) (N := N) (sw := sw) (lv := lv) (L := L) b2 (by show (sP S).1 + 1 + 1 + 1 + 1 + 1 + 1 + 1 + 1 + 4 ≤ 700; omega) c
    obtain ⟨J4, d1, d2, d3⟩ := C_ad4 (g := g) (N := N) (sw := sw) (lv := lv) (L := L) c2 (by show (sP S).1 + 1 + 1 + 1 + 1 + 1 + 1 + 1 + 1 + 1 + 1 + 1 + 1 + 4 ≤ 700; omega) d
    obtain ⟨J5, e1, e2, e3⟩ := C_ad4 (g := g) (N := N) (sw := sw) (lv := lv) (L := L) d2 (by show (sP S).1 + 1 + 1 + 1 + 1 + 1 + 1 + 1 + 1 + 1 + 1 + 1 + 1 + 1 + 1 + 1 + 1 + 4 ≤ 700; omega) e
    have e2' : tC (fe_r a b c d e (sP S) 20) J5 := e2
    have f : ∀ x, x ≠ 77 → x ≠ 78 → J5 x = I x := fun x p q => by rw [e3 x p q, d3 x p q, c3 x p q, b3 x p q, a3 x p q]
    rw [a1, am_bd_ok, am_tn, y_Ca_feed_31 _ _ _ _ _, b1, am_bd_ok, am_tn, y_Ca_feed_37 _ _ _ _ _, c1, am_bd_ok, am_tn, y_Ca_feed_43 _ _ _ _ _, d1, am_bd_ok, am_tn, y_Ca_feed_50 _ _ _ _ _, e1, am_bd_ok, am_tn, y_Ca_feed_57 _ _ _ _ _, e2'.1, fe_r1]
    exact KC_v (sC_P h e2' f) (fun x p => f x (by omega) (by omega)) rfl
  · rw [d_f hq, d_f hq]
    exact KC_v h (fun _ _ => rfl) rfl
theorem M_fe1 (a b c d e : Int32) {k : Nat} (hk : k < 20) {P : Nat × (Nat → Nat)} (hP : P.1 < 700) {I1 : Nat → Nat → Int32} (h : tM P I1) (w7 : Value) : ∃ w8, am_R 142 1 23 [.ref 147, .int a, .int b, .int c, .int d, .int e, .int (Int32.ofNat k), w7] [] (am_hp g N sw lv I1 L) = am_R 142 1 23 [.ref 147, .int a, .int b, .int c, .int d, .int e, .int (Int32.ofNat (k + 1)), w8] [] (am_hp g N sw lv (am_up (am_up I1 161 (upd (I1 161) P.1 (Int32.ofNat (fe_k a b c d e k)))) 147 (upd (I1 147) 16 (Int32.ofNat (P.1 + 1)))) L) := by
  have es : (24 : Int32) - 8 * (Int32.ofNat k - Int32.ofNat k / 4 * 4) = Int32.ofNat (24 - 8 * (k % 4)) := by
    rw [show Int32.ofNat k - Int32.ofNat k / 4 * 4 = Int32.ofNat (k % 4) from nb_mod (n := 4) (by omega) (by decide), show 8 * Int32.ofNat (k % 4) = Int32.ofNat (8 * (k % 4)) from nb_mul 8 _]
    exact (Int32.ofNat_sub 24 (8 * (k % 4)) (by omega)).symm
  have nb4 : ∀ m : Nat, m < 100 → decide (Int32.ofNat m ≤ Int32.ofNat k) = decide (m ≤ k) := fun m hm => nb_dle (by omega) (by omega)
  rw [y_Mo_feed_23 _ _ _ _ _ _ _, show decide ((20 : Int32) ≤ Int32.ofNat k) = decide (20 ≤ k) from nb4 20 (by decide), d_f (by omega : ¬ 20 ≤ k), show decide ((4 : Int32) ≤ Int32.ofNat k) = decide (4 ≤ k) from nb4 4 (by decide), show decide ((8 : Int32) ≤ Int32.ofNat k) = decide (8 ≤ k) from nb4 8 (by decide), show decide ((12 : Int32) ≤ Int32.ofNat k) = decide (12 ≤ k) from nb4 12 (by decide), show decide ((16 : Int32) ≤ Int32.ofNat k) = decide (16 ≤ k) from nb4 16 (by decide), es, h.1, nb_inb (show P.1 < 700 by omega) (by omega), nb_tn (by omega), (fe_e a _).2, (fe_e b _).2, (fe_e c _).2, (fe_e d _).2, (fe_e e _).2, nb_s, nb_s]
  unfold fe_k fe_w
  cases decide (4 ≤ k) with
  | false => exact ⟨_, rfl⟩
  | true =>
    cases decide (8 ≤ k) with
    | false => exact ⟨_, rfl⟩
    | true =>
      cases decide (12 ≤ k) with
      | false => exact ⟨_, rfl⟩
      | true =>
        cases decide (16 ≤ k) with
        | false => exact ⟨_, rfl⟩
        | true => exact ⟨_, rfl⟩
theorem M_feL (a b c d e : Int32) {P : Nat × (Nat → Nat)} (hP : P.1 + 20 ≤ 700) : ∀ n k (I1 : Nat → Nat → Int32) (w7 : Value), k + n = 20 → tM (fe_r a b c d e P k) I1 → (∀ x, x ≠ 147 → x ≠ 161 → I1 x = I x) → (∀ j, j ≠ 16 → I1 147 j = I 147 j) → ∃ I2, am_R 142 1 23 [.ref 147, .int a, .int b, .int c, .int d, .int e, .int (Int32.ofNat k), w7] [] (am_hp g N sw lv I1 L) = some (.inl (some (.int (Int32.ofNat (P.1 + 20)))), am_hp g N sw lv I2 L) ∧ tM (fe_r a b c d e P 20) I2 ∧ (∀ x, x ≠ 147 → x ≠ 161 → I2 x = I x) ∧ ∀ j, j ≠ 16 → I2 147 j = I 147 j
  | 0, k, I1, w7, hc, h, f1, f2 => by
    have e20 : k = 20 := by omega
    subst e20
    refine ⟨I1, ?_, h, f1, f2⟩
    rw [y_Mo_feed_23 _ _ _ _ _ _ _, show decide ((20 : Int32) ≤ Int32.ofNat 20) = true from rfl, h.1, fe_r1]
    rfl
  | n + 1, k, I1, w7, hc, h, f1, f2 => by
    have hP1 : (fe_r a b c d e P k).1 < 700 := by
      rw [fe_r1]
      omega
    obtain ⟨w8, e1⟩ := M_fe1 (g := g) (N := N) (sw := sw) (lv := lv) (L := L) a b c d e (show k < 20 by omega) hP1 h w7
    obtain ⟨I2, b1, b2, b3, b4⟩ := M_feL a b c d e hP n (k + 1) (am_up (am_up I1 161 (upd (I1 161) (fe_r a b c d e P k).1 (Int32.ofNat (fe_k a b c d e k)))) 147 (upd (I1 147) 16 (Int32.ofNat ((fe_r a b c d e P k).1 + 1)))) w8 (by omega) ⟨rfl, fun i hi => by
      have hi2 : i < (fe_r a b c d e P k).1 + 1 := hi
      show upd (I1 161) (fe_r a b c d e P k).1 _ i = Int32.ofNat (if i = (fe_r a b c d e P k).1 then fe_k a b c d e k else (fe_r a b c d e P k).2 i)
      by_cases q : i = (fe_r a b c d e P k).1
      · rw [if_pos q, q, upd_same]
      · rw [if_neg q, upd_ne q]
        exact h.2 i (by omega)⟩ (fun x p q => by rw [up_ne p, up_ne q]; exact f1 x p q) (fun j p => by rw [up_same, upd_ne p]; exact f2 j p)
    exact ⟨I2, e1.trans b1, b2, b3, b4⟩
theorem M_feed (h : sM S I) (hg : sG S) (a b c d e : Int32) : KM g N sw lv L I k1 (am_R 142 1 0 [.ref 147, .int a, .int b, .int c, .int d, .int e, am_u, am_u] [] (am_hp g N sw lv I L)) (sp_feed S a b c d e).1 (sp_feed S a b c d e).2 := by
  have hp := hg.2.2.2.1.1
  have h4 := sM_4 h 0
  rw [y_Mo_feed_0 _ _ _ _ _, show upd (I 147) 4 0 16 = Int32.ofNat (sP S).1 from (upd_ne (by decide)).trans h.2.2.2.2.1.1, nb_20, show decide (Int32.ofNat ((sP S).1 + 20) ≤ 700) = decide ((sP S).1 + 20 ≤ 700) from nb_dle (b := 700) (by omega) (by decide)]
  unfold sp_feed
  by_cases hq : (sP S).1 + 20 ≤ 700
  · rw [d_t hq, d_t hq]
    obtain ⟨I2, b1, b2, b3, b4⟩ := M_feL (g := g) (N := N) (sw := sw) (lv := lv) (L := L) (I := am_up I 147 (upd (I 147) 4 0)) a b c d e hq 20 0 (am_up I 147 (upd (I 147) 4 0)) am_u (by omega) h4.2.2.2.2.1 (fun _ _ _ => rfl) (fun _ _ => rfl)
    obtain ⟨k1', k2, k3, k4, k5, k6, k7⟩ := h4
    refine KM_v (S' := s_P S (fe_r a b c d e (sP S) 20)) (J := I2) (sM_of (S := S) ⟨k1', k2, k3, k4, k5, k6, k7⟩ (rM_fr k1'.2.1 (fun x q => b3 x (by omega) (by omega)) (b4 33 (by decide)) (b4 34 (by decide))) rfl ((b4 37 (by decide)).trans k1'.2.2.1) (aM_fr k2 (b4 35 (by decide)) (b3 167 (by decide) (by decide))) (wMs_fr k3 (b4 36 (by decide)) (b3 172 (by decide) (by decide)) (b3 173 (by decide) (by decide)) (b3 175 (by decide) (by decide))) ?_ b2 ((b4 25 (by decide)).trans k6) (fun x q => b3 x (by omega) (by omega)) (fun j p q => b4 j (by omega))) (fun x p => by rw [b3 x (by omega) (by omega), up_ne (by omega)]) ?_ b1
    · rw [b3 160 (by decide) (by decide)]
      exact k4
    · rw [b4 4 (by decide), up_same, upd_same]
  · rw [d_f hq, d_f hq]
    exact KM_v h4 (fun x p => up_ne (by omega)) (by rw [up_same, upd_same]) rfl
theorem fe_rb (a b c d e : Int32) {P : Nat × (Nat → Nat)} (h : ∀ i, i < P.1 → P.2 i < 256) : ∀ k i, i < (fe_r a b c d e P k).1 → (fe_r a b c d e P k).2 i < 256
  | 0, i, hi => h i hi
  | k + 1, i, hi => by
    have hi2 : i < (fe_r a b c d e P k).1 + 1 := hi
    show (if i = (fe_r a b c d e P k).1 then fe_k a b c d e k else (fe_r a b c d e P k).2 i) < 256
    by_cases q : i = (fe_r a b c d e P k).1
    · rw [if_pos q]
      exact (fe_e _ _).1
    · rw [if_neg q]
      exact fe_rb a b c d e h k i (by omega)
theorem G_feed (hg : sG S) (a b c d e : Int32) : sG (sp_feed S a b c d e).2 := by
  unfold sp_feed
  by_cases hq : (sP S).1 + 20 ≤ 700
  · rw [d_t hq]
    obtain ⟨g1, g2, g3, g4, g5, g6⟩ := hg
    refine ⟨g1, g2, g3, ⟨?_, fun i hi => fe_rb a b c d e g4.2 20 i hi⟩, g5, g6⟩
    show (fe_r a b c d e (sP S) 20).1 ≤ 700
    rw [fe_r1]
    exact hq
  · rw [d_f hq]
    exact hg
end FEED
