/-! RULES from codes; which recipe, which values -/
theorem rf_cg {w : Bool} {m : Nat} {cs : List Int32} (h : bl w m cs 0 = some 1) (k k' : Nat → Int32) (e : ∀ j, j < cond w 7 5 → k j = k' j) : rf cs k = rf cs k' := by
  unfold rf
  rw [rn_cg (m := m) e cs [] 1 h]
theorem wC_6 {rc : Nat} {w : Bool} {cs : List Int32} {p n : Nat} {I : Nat → Nat → Int32} (hc : am_isc rc) (hb : bl w 31 cs 0 = some 1) (e2 : I (rc + 6) 2 = Int32.ofNat p) (e3 : I (rc + 6) 3 = Int32.ofNat (p + cs.length)) (e11 : I rc 11 = Int32.ofNat n) (hn : p + cs.length ≤ n) (hn7 : n ≤ 700) (ec : ∀ i, i < cs.length → I (rc + 8) (p + i) = cs.getD i 0) : wC rc 6 (rf cs) I := by
  intro r g N sw lv L I' hr e
  obtain ⟨I'', a1, a2⟩ := WM_run (g := g) (N := N) (sw := sw) (lv := lv) (L := L) (w := w) (mm := 31) hr hc (by decide) cs [] p (p + cs.length) n I' am_u am_u rfl hn hn7 (by rw [e _ (Or.inr (Or.inl rfl))]; exact e3) (by rw [e _ (Or.inl rfl)]; exact e11) (fun i hi => by rw [e _ (Or.inr (Or.inr rfl))]; exact ec i hi) trivial (Nat.zero_le _) hb
  refine ⟨I'', ?_, a2⟩
  rw [y_Rc_worthM_0 hr hc, e _ (Or.inr (Or.inl rfl)), e2]
  exact a1
theorem wC_7 {rc : Nat} {w : Bool} {cs : List Int32} {p n : Nat} {I : Nat → Nat → Int32} (hc : am_isc rc) (hb : bl w 31 cs 0 = some 1) (e2 : I (rc + 7) 2 = Int32.ofNat p) (e3 : I (rc + 7) 3 = Int32.ofNat (p + cs.length)) (e11 : I rc 11 = Int32.ofNat n) (hn : p + cs.length ≤ n) (hn7 : n ≤ 700) (ec : ∀ i, i < cs.length → I (rc + 8) (p + i) = cs.getD i 0) : wC rc 7 (rf cs) I := by
  intro r g N sw lv L I' hr e
  obtain ⟨I'', a1, a2⟩ := WL_run (g := g) (N := N) (sw := sw) (lv := lv) (L := L) (w := w) (mm := 31) hr hc (by decide) cs [] p (p + cs.length) n I' am_u am_u rfl hn hn7 (by rw [e _ (Or.inr (Or.inl rfl))]; exact e3) (by rw [e _ (Or.inl rfl)]; exact e11) (fun i hi => by rw [e _ (Or.inr (Or.inr rfl))]; exact ec i hi) trivial (Nat.zero_le _) hb
  refine ⟨I'', ?_, a2⟩
  rw [y_Rc_worthL_0 hr hc, e _ (Or.inr (Or.inl rfl)), e2]
  exact a1
theorem wM_of {sg j : Nat} {w : Bool} {cs : List Int32} {I : Nat → Nat → Int32} (hg : am_isg sg) (hb : bl w 31 cs 0 = some 1) (h7 : cs.length ≤ 700) (ej : I 151 j = Int32.ofNat cs.length) (ec : ∀ i, i < cs.length → I sg i = mc (cs.getD i 0)) : wM sg j (rf cs) I := by
  intro g N sw lv L I' e e2
  obtain ⟨I'', a1, a2⟩ := VN_run (g := g) (N := N) (sw := sw) (lv := lv) (L := L) (w := w) (mm := 31) hg (by decide) cs [] 0 cs.length I' am_u (Nat.zero_add _) h7 (fun i hi => by rw [Nat.zero_add, e i (by omega)]; exact ec i hi) trivial (Nat.zero_le _) hb
  refine ⟨I'', ?_, a2⟩
  rw [e2, ej, y_Mo_valueNow_0 _ hg]
  exact a1
theorem beq_f {a b : Nat} (h : a ≠ b) : Nat.beq a b = false := by
  cases e : Nat.beq a b with
  | false => rfl
  | true => exact absurd (Nat.eq_of_beq_eq_true e) h
theorem RR_lv (sw lv w : Bool) : am_up (am_RR sw lv) 147 (fun j => if j = 3 then some (cond w 150 149) else am_RR sw lv 147 j) = am_RR sw w := by
  funext a
  by_cases h : a = 147
  · subst h
    rw [up_same]
    funext j
    by_cases hj : j = 3
    · subst hj
      rw [if_pos rfl]
      rfl
    · rw [if_neg hj]
      unfold am_RR
      rw [beq_f hj]
      rfl
  · rw [up_ne h]
    funext k
    unfold am_RR
    rw [beq_f h]
    rfl
theorem RR_sw (sw lv : Bool) : am_up (am_up (am_RR sw lv) 75 (fun j => if j = 2 then some (cond sw 79 89) else am_RR sw lv 75 j)) 75 (fun j => if j = 3 then some (cond sw 89 79) else (am_up (am_RR sw lv) 75 (fun j => if j = 2 then some (cond sw 79 89) else am_RR sw lv 75 j)) 75 j) = am_RR (!sw) lv := by
  funext a
  by_cases h : a = 75
  · subst h
    rw [up_same, up_same]
    funext j
    by_cases hj : j = 3
    · subst hj
      rw [if_pos rfl]
      cases sw <;> rfl
    · rw [if_neg hj]
      by_cases hj2 : j = 2
      · subst hj2
        rw [if_pos rfl]
        cases sw <;> rfl
      · rw [if_neg hj2]
        unfold am_RR
        rw [beq_f hj, beq_f hj2]
        rfl
  · rw [up_ne h, up_ne h]
    funext k
    unfold am_RR
    rw [beq_f h]
    rfl
