/-! CALLS: what they stand on, on both sides -/
abbrev a_rc (sw : Bool) : Nat := cond sw 89 79
theorem a_isc (sw : Bool) : am_isc (cond sw 89 79) := by
  cases sw
  · exact Or.inl rfl
  · exact Or.inr rfl
theorem a_99 : am_isr 99 := Or.inl rfl
theorem a_109 : am_isr 109 := Or.inr rfl
/-- of the class: what only serves for a while may change -/
def zf (I I' : Nat → Nat → Int32) : Prop := ∀ a, (a < 88 ∨ 88 < a ∧ a < 98 ∨ 98 < a ∧ a < 106 ∨ 118 < a ∧ a < 144 ∨ 145 < a) → I' a = I a
theorem zf_rfl {I : Nat → Nat → Int32} : zf I I := fun _ _ => rfl
theorem zf_tr {I I' I'' : Nat → Nat → Int32} (h1 : zf I I') (h2 : zf I' I'') : zf I I'' := fun a q => (h2 a q).trans (h1 a q)
/-- the class holds what the text tells (mb: who is marbled), and the row T -/
def cC (E : e_E) (mb : Nat) (T : tr_T) (sw : Bool) (I : Nat → Nat → Int32) : Prop := qC (cond sw 89 79) E I ∧ rC 99 T I ∧ I (cond sw 89 79) 1 = Int32.ofNat mb ∧ mb < 256
theorem cC_zf {E : e_E} {mb : Nat} {T : tr_T} {sw : Bool} {I I' : Nat → Nat → Int32} (h : cC E mb T sw I) (z : zf I I') : cC E mb T sw I' := by
  refine ⟨qC_fr h.1 (fun a h1 h2 => z a ?_), rC_fr h.2.1 (fun a h1 h2 => z a (by omega)), ?_, h.2.2.2⟩
  · cases sw <;> simp only [cond_true, cond_false] at h1 h2 <;> omega
  · rw [z (cond sw 89 79) (by cases sw <;> decide)]
    exact h.2.2.1
/-- of the reference: what only serves for a while may change, the row too -/
def zM (I I' : Nat → Nat → Int32) : Prop := (∀ a, a ≠ 147 → (a < 162 ∨ a = 167 ∨ a = 172 ∨ a = 173 ∨ a = 175 ∨ 178 < a) → I' a = I a) ∧ ∀ j, j ≠ 4 → j ≠ 33 → j ≠ 34 → j ≠ 37 → j ≠ 48 → j ≠ 50 → I' 147 j = I 147 j
theorem zM_rfl {I : Nat → Nat → Int32} : zM I I := ⟨fun _ _ _ => rfl, fun _ _ _ _ _ _ _ => rfl⟩
theorem zM_tr {I I' I'' : Nat → Nat → Int32} (h1 : zM I I') (h2 : zM I' I'') : zM I I'' := ⟨fun a q1 q2 => (h2.1 a q1 q2).trans (h1.1 a q1 q2), fun j q1 q2 q3 q4 q5 q6 => (h2.2 j q1 q2 q3 q4 q5 q6).trans (h1.2 j q1 q2 q3 q4 q5 q6)⟩
theorem zM_fM {I I' : Nat → Nat → Int32} (h : fM I I') : zM I I' := ⟨fun a q1 q2 => h.1 a q1 (by omega) (by omega) (by omega) (by omega) (by omega), fun j _ q1 q2 _ _ _ => h.2 j q1 q2⟩
theorem zM_4 {I : Nat → Nat → Int32} (x : Int32) : zM I (am_up I 147 (upd (I 147) 4 x)) := ⟨fun a q _ => up_ne q, fun j q _ _ _ _ _ => by rw [up_same, upd_ne q]⟩
/-- the reference holds what the text tells, and the row T -/
def cM (E : e_E) (mb : Nat) (T : tr_T) (I : Nat → Nat → Int32) : Prop := qM E I ∧ rM T I ∧ I 147 37 = -1 ∧ ∀ h, h < t_n T → I 152 h = cond (mb.testBit h) 1 0
theorem cM_4 {E : e_E} {mb : Nat} {T : tr_T} {I : Nat → Nat → Int32} (h : cM E mb T I) (x : Int32) : cM E mb T (am_up I 147 (upd (I 147) 4 x)) := by
  refine ⟨qM_fr h.1 (fun a h1 h2 => up_ne (by omega)), rM_fr h.2.1 (fun a q => up_ne (by omega)) (by rw [up_same, upd_ne (by decide)]) (by rw [up_same, upd_ne (by decide)]), ?_, fun j hj => ?_⟩
  · rw [up_same, upd_ne (by decide)]
    exact h.2.2.1
  · rw [up_ne (by decide)]
    exact h.2.2.2 j hj
theorem cM_z {E : e_E} {mb : Nat} {T T' : tr_T} {I I' : Nat → Nat → Int32} (h : cM E mb T I) (z : zM I I') (hr : rM T' I') (hn : t_n T' = t_n T) (h37 : I' 147 37 = -1) : cM E mb T' I' := by
  refine ⟨qM_fr h.1 (fun a h1 h2 => z.1 a (by omega) (by omega)), hr, h37, fun j hj => ?_⟩
  rw [z.1 152 (by decide) (by decide)]
  exact h.2.2.2 j (by omega)
theorem cM_q {E : e_E} {mb : Nat} {T : tr_T} {I I' : Nat → Nat → Int32} (h : cM E mb T I) (z : zM I I') : qM E I' := qM_fr h.1 (fun a h1 h2 => z.1 a (by omega) (by omega))
/-- guards -/
def gH (n : Nat) (x : Int32) : Bool := decide (0 ≤ x) && decide (x < Int32.ofNat n)
def gI (a b x : Int32) : Bool := decide (a ≤ x) && decide (x ≤ b)
theorem g_H {α : Type} {n : Nat} {x : Int32} {p q : α} : cond (decide (x < 0)) q (cond (decide (x < Int32.ofNat n)) p q) = cond (gH n x) p q := by
  unfold gH
  rw [i_dnlt]
  cases decide (0 ≤ x) <;> cases decide (x < Int32.ofNat n) <;> rfl
theorem g_I {α : Type} {a b x : Int32} {p q : α} : cond (decide (x < a)) q (cond (decide (x ≤ b)) p q) = cond (gI a b x) p q := by
  unfold gI
  rw [i_dnlt]
  cases decide (a ≤ x) <;> cases decide (x ≤ b) <;> rfl
theorem g_6 {α : Type} {x : Int32} {p q : α} : cond (decide (x < 0)) q (cond (decide (x < 6)) p q) = cond (gH 6 x) p q := g_H (n := 6)
theorem gH_at {n : Nat} {x : Int32} (hn : n ≤ 8) (h : gH n x = true) : ∃ k, k < n ∧ x = Int32.ofNat k := m_head hn h
theorem gI_at {b : Nat} {x : Int32} (hb : b < 1000) (h : gI 0 (Int32.ofNat b) x = true) : ∃ k, k ≤ b ∧ x = Int32.ofNat k := by
  unfold gI at h
  rw [Bool.and_eq_true, decide_eq_true_iff, decide_eq_true_iff] at h
  refine ⟨x.toNatClampNeg, ?_, (nb_of h.1).symm⟩
  have h1 := h.2
  rw [Int32.le_iff_toInt_le, nb_ti (by omega)] at h1
  unfold Int32.toNatClampNeg
  omega
theorem gI_at1 {b : Nat} {x : Int32} (hb : b < 1000) (h : gI 1 (Int32.ofNat b) x = true) : ∃ k, 1 ≤ k ∧ k ≤ b ∧ x = Int32.ofNat k := by
  unfold gI at h
  rw [Bool.and_eq_true, decide_eq_true_iff, decide_eq_true_iff] at h
  have h0 := h.1
  rw [Int32.le_iff_toInt_le] at h0
  have e1 : (1 : Int32).toInt = 1 := by decide
  have e0 : (0 : Int32).toInt = 0 := by decide
  have h2 : 0 ≤ x := by rw [Int32.le_iff_toInt_le]; omega
  refine ⟨x.toNatClampNeg, ?_, ?_, (nb_of h2).symm⟩
  · unfold Int32.toNatClampNeg
    omega
  · have h1 := h.2
    rw [Int32.le_iff_toInt_le, nb_ti (by omega)] at h1
    unfold Int32.toNatClampNeg
    omega
theorem m_inL {A B : Int64} {a b : Int32} (ha : a.toInt64 = A) (hb : b.toInt64 = B) (x : Int32) : v_Mo_isIn x.toInt64 A B = cond (gI a b x) 1 0 := by
  subst ha
  subst hb
  exact m_in x a b
theorem m_q (x : Int32) : g_Mo_isQuestion x = true ∧ v_Mo_isQuestion x = cond (gH 6 x) 1 0 := by
  have e : v_Mo_isQuestion x = cond (gH 6 x) 1 0 := by
    unfold v_Mo_isQuestion
    rw [m_inL (a := 0) (b := 5) (by decide) (by decide)]
    unfold gI gH
    have : decide (x ≤ 5) = decide (x < Int32.ofNat 6) := by
      refine decide_eq_decide.mpr ?_
      rw [Int32.le_iff_toInt_le, Int32.lt_iff_toInt_lt]
      have e5 : (5 : Int32).toInt = 5 := by decide
      have e6 : (Int32.ofNat 6).toInt = 6 := by decide
      omega
    rw [this]
  refine ⟨?_, e⟩
  have e2 : v_Mo_isIn x.toInt64 0 5 = cond (gH 6 x) 1 0 := e
  unfold g_Mo_isQuestion
  rw [e2, narrowZ]
  rfl
/-- an outcome: a value, or what is thrown -/
abbrev a_O : Type := Int32 ⊕ Nat
def oC (g N : Nat) (sw lv : Bool) (L : Nat → Nat → Int64) (I : Nat → Nat → Int32) (x : Option am_Res) (o : a_O) : Prop := ∃ I', zf I I' ∧ match o with
  | .inl v => x = some (.inl (some (.int v)), am_hp g N sw lv I' L)
  | .inr c => x = some (.inr c, am_hp (g + 1) N sw lv I' L)
theorem oC_v {g N : Nat} {sw lv : Bool} {L : Nat → Nat → Int64} {I I' : Nat → Nat → Int32} {x : Option am_Res} {v : Int32} (z : zf I I') (e : x = some (.inl (some (.int v)), am_hp g N sw lv I' L)) : oC g N sw lv L I x (.inl v) := ⟨I', z, e⟩
theorem oC_t {g N : Nat} {sw lv : Bool} {L : Nat → Nat → Int64} {I : Nat → Nat → Int32} {x : Option am_Res} {c : Nat} (e : x = some (.inr c, am_hp (g + 1) N sw lv I L)) : oC g N sw lv L I x (.inr c) := ⟨I, zf_rfl, e⟩
def oM (g N : Nat) (sw lv : Bool) (L : Nat → Nat → Int64) (T : tr_T) (I : Nat → Nat → Int32) (k : Nat → Nat) (x : Option am_Res) (o : a_O) : Prop := ∃ v I', x = some (.inl (some (.int v)), am_hp g N sw lv I' L) ∧ rM T I' ∧ zM I I' ∧ I' 147 37 = -1 ∧ match o with
  | .inl u => v = u ∧ I' 147 4 = 0
  | .inr c => I' 147 4 = Int32.ofNat (k c)
section CORE
variable {g N : Nat} {sw lv : Bool} {I : Nat → Nat → Int32} {L : Nat → Nat → Int64} {T : tr_T} {E : e_E} {mb : Nat}
theorem m_H (hr : rM T I) (ht : t_ok T) (x : Int32) : g_Mo_isHead I x = true ∧ v_Mo_isHead I x = cond (gH (t_n T) x) 1 0 := by
  have e : v_Mo_isHead I x = cond (gH (t_n T) x) 1 0 := by
    unfold v_Mo_isHead
    rw [hr.1, m_hd ht.1]
    rfl
  refine ⟨?_, e⟩
  have e2 : v_Mo_isIn x.toInt64 0 (Int32.toInt64 (I 151 0 - 1)) = cond (gH (t_n T) x) 1 0 := e
  unfold g_Mo_isHead
  rw [e2, narrowZ]
  rfl
/-- thrown by the reference: its number -/
theorem oM_t (h : cM E mb T I) {k : Nat → Nat} {c : Nat} {v : Int32} {x : Option am_Res} (e : x = some (.inl (some (.int v)), am_hp g N sw lv (am_up (am_up I 147 (upd (I 147) 4 0)) 147 (upd (upd (I 147) 4 0) 4 (Int32.ofNat (k c)))) L)) : oM g N sw lv L T I k x (.inr c) := by
  have h1 := cM_4 (cM_4 h 0) (Int32.ofNat (k c))
  rw [up_same] at h1
  have z1 := zM_tr (zM_4 (I := I) 0) (zM_4 (Int32.ofNat (k c)))
  rw [up_same] at z1
  exact ⟨v, _, e, h1.2.1, z1, h1.2.2.1, by rw [up_same, upd_same]⟩
/-- a value of the reference, nothing but the number of the throw written -/
theorem oM_v (h : cM E mb T I) {k : Nat → Nat} {v : Int32} {x : Option am_Res} (e : x = some (.inl (some (.int v)), am_hp g N sw lv (am_up I 147 (upd (I 147) 4 0)) L)) : oM g N sw lv L T I k x (.inl v) := by
  have h1 := cM_4 h 0
  exact ⟨v, _, e, h1.2.1, zM_4 0, h1.2.2.1, rfl, by rw [up_same, upd_same]⟩
/-- .. more was written -/
theorem oM_w {I1 : Nat → Nat → Int32} {k : Nat → Nat} {v : Int32} {x : Option am_Res} (e : x = some (.inl (some (.int v)), am_hp g N sw lv I1 L)) (hr : rM T I1) (z : zM I I1) (h37 : I1 147 37 = -1) (h4 : I1 147 4 = 0) : oM g N sw lv L T I k x (.inl v) := ⟨v, _, e, hr, z, h37, rfl, h4⟩
theorem cpy8 {α : Type} {f h : Nat → α} {k : Nat} (hk : k < 8) : va_cpy f h 0 0 8 k = f k := by
  unfold va_cpy
  rw [if_pos ⟨Nat.zero_le _, by omega⟩, Nat.zero_add, Nat.sub_zero]
/-- days tried -/
theorem C_try (h : cC E mb T sw I) (ht : t_ok T) (hd : t_d T ≤ 1100) {n : Nat} (hn : n ≤ 50) : ∃ I', am_R 33 7 0 [.ref 75, .int (Int32.ofNat n)] [] (am_hp g N sw lv I L) = some (.inl none, am_hp g N sw lv I' L) ∧ rC 109 (t_dn E n T) I' ∧ zf I I' := by
  have hn8 := ht.1
  have e0 := y_Ca_tryDays_0 (g := g) (N := N) (sw := sw) (lv := lv) (I := I) (L := L) (Int32.ofNat n)
  obtain ⟨r0, r1, r2, r3, r4⟩ := h.2.1
  generalize hJ : am_up (am_up (am_up (am_up (am_up (am_up (am_up (am_up (am_up I 109 (upd (I 109) 0 (I 99 0))) 109 (upd ((upd (I 109) 0 (I 99 0))) 1 (I 99 1))) 109 (upd ((upd ((upd (I 109) 0 (I 99 0))) 1 (I 99 1))) 2 (I 99 2))) 110 (va_cpy (I 100) (I 110) 0 0 8)) 111 (va_cpy (I 101) (I 111) 0 0 8)) 112 (va_cpy (I 102) (I 112) 0 0 8)) 113 (va_cpy (I 103) (I 113) 0 0 8)) 114 (va_cpy (I 104) (I 114) 0 0 8)) 115 (va_cpy (I 105) (I 115) 0 0 8) = J at e0
  have z0 : zf I J := fun a q => by
    rw [← hJ, up_ne (by omega), up_ne (by omega), up_ne (by omega), up_ne (by omega), up_ne (by omega), up_ne (by omega), up_ne (by omega), up_ne (by omega), up_ne (by omega)]
  have hr : rC 109 T J := by
    rw [← hJ]
    refine ⟨r0, r1, r2, fun h hh => ?_, fun k hk => ?_⟩
    · have := r3 h hh
      refine ⟨(cpy8 (by omega)).trans this.1, (cpy8 (by omega)).trans this.2.1, (cpy8 (by omega)).trans this.2.2.1, (cpy8 (by omega)).trans this.2.2.2.1, (cpy8 (by omega)).trans this.2.2.2.2⟩
    · exact (cpy8 (by omega)).trans (r4 k hk)
  have hc := cC_zf h z0
  obtain ⟨I1, a1, a2, a3⟩ := rC_days (g := g) (N := N) (sw := sw) (lv := lv) (L := L) a_109 (a_isc sw) hr ht hc.1 hd hn
  rw [a1, am_bd_ok, am_tn, y_Ca_tryDays_23 _] at e0
  refine ⟨I1, e0, a2, zf_tr z0 (fun a q => a3 a (by omega) (by omega) (by omega) (by omega) (by omega) (by cases sw <;> simp only [cond_true, cond_false] <;> omega))⟩
/-- some days more -/
theorem C_more {T' : tr_T} (h : cC E mb T sw I) (hr : rC 109 T' I) (ht : t_ok T') (hd : t_d T' ≤ 1100) {n : Nat} (hn : n ≤ 50) : ∃ I', am_R 16 6 0 [.ref 109, .ref (cond sw 89 79), .int (Int32.ofNat n), am_u] [] (am_hp g N sw lv I L) = some (.inl none, am_hp g N sw lv I' L) ∧ rC 109 (t_dn E n T') I' ∧ zf I I' := by
  obtain ⟨I1, a1, a2, a3⟩ := rC_days (g := g) (N := N) (sw := sw) (lv := lv) (L := L) a_109 (a_isc sw) hr ht h.1 hd hn
  exact ⟨I1, a1, a2, fun a q => a3 a (by omega) (by omega) (by omega) (by omega) (by omega) (by cases sw <;> simp only [cond_true, cond_false] <;> omega)⟩
/-- what passes, of the row that is tried -/
theorem C_pg {T' : tr_T} (hr : rC 109 T' I) (ht : t_ok T') : ∃ I', am_R 37 4 0 [.ref 109, am_u, am_u, am_u] [] (am_hp g N sw lv I L) = some (.inl (some (.int (Int32.ofNat (t_pg T')))), am_hp g N sw lv I' L) ∧ zf I I' ∧ rC 109 T' I' := by
  obtain ⟨I1, a1, a2⟩ := rC_pg (g := g) (N := N) (sw := sw) (lv := lv) (L := L) a_109 hr ht
  exact ⟨I1, a1, fun a q => a2 a (by omega), rC_fr hr (fun a h1 h2 => a2 a (by omega))⟩
theorem C_pgn (hr : rC 99 T I) (ht : t_ok T) : ∃ I', am_R 37 4 0 [.ref 99, am_u, am_u, am_u] [] (am_hp g N sw lv I L) = some (.inl (some (.int (Int32.ofNat (t_pg T)))), am_hp g N sw lv I' L) ∧ zf I I' := by
  obtain ⟨I1, a1, a2⟩ := rC_pg (g := g) (N := N) (sw := sw) (lv := lv) (L := L) a_99 hr ht
  exact ⟨I1, a1, fun a q => a2 a (by omega)⟩
/-- the reference's row put by, and back -/
theorem M_pk (h : cM E mb T I) (ht : t_ok T) : ∃ I', am_R 191 1 0 [.ref 147, .ref 171, .int 0, am_u, am_u] [] (am_hp g N sw lv I L) = some (.inl none, am_hp g N sw lv I' L) ∧ pM 171 0 T I' ∧ cM E mb T I' ∧ ∀ a, a ≠ 171 → I' a = I a := by
  obtain ⟨I1, a1, a2, a3, -⟩ := rM_pack (g := g) (N := N) (sw := sw) (lv := lv) (L := L) (aa := 171) (by unfold am_isk; omega) h.2.1 ht (o := 0) (show 0 + 42 ≤ 42 by decide) (show 42 ≤ 2000 by decide)
  refine ⟨I1, a1, a3, ⟨qM_fr h.1 (fun a h1 h2 => a2 a (by omega)), rM_fr h.2.1 (fun a q => a2 a (by omega)) (by rw [a2 147 (by decide)]) (by rw [a2 147 (by decide)]), by rw [a2 147 (by decide)]; exact h.2.2.1, fun j hj => by rw [a2 152 (by decide)]; exact h.2.2.2 j hj⟩, a2⟩
theorem M_un (ht : t_ok T) (h0 : I 151 0 = Int32.ofNat (t_n T)) (hp : pM 171 0 T I) : ∃ I', am_R 214 1 0 [.ref 147, .ref 171, .int 0, am_u, am_u] [] (am_hp g N sw lv I L) = some (.inl none, am_hp g N sw lv I' L) ∧ rM T I' ∧ (∀ a, a ≠ 147 → a ≠ 162 → a ≠ 163 → a ≠ 164 → a ≠ 165 → a ≠ 166 → I' a = I a) ∧ ∀ j, j ≠ 33 → j ≠ 34 → I' 147 j = I 147 j :=
  rM_unpack (aa := 171) (by unfold am_isk; omega) ht h0 (o := 0) (show 0 + 42 ≤ 42 by decide) (show 42 ≤ 2000 by decide) hp
theorem pM_fr {a o : Nat} {I' : Nat → Nat → Int32} (h : pM a o T I) (e : I' a = I a) : pM a o T I' := by
  unfold pM
  rw [e]
  exact h
end CORE
