/-! LINES: a rule's line, class -/
theorem kap_lo : ∀ (cs : List Int32) (k : s_K) (i : Nat), i < k.1 → (kap k cs).2 i = k.2 i
  | [], _, _, _ => rfl
  | x :: l, k, i, h => by
    have e := kap_lo l (kadd k x) i (by show i < k.1 + 1; omega)
    refine e.trans ?_
    show (if i = k.1 then x else k.2 i) = k.2 i
    rw [if_neg (by omega)]
theorem kap_at : ∀ (cs : List Int32) (k : s_K) (i : Nat), i < cs.length → (kap k cs).2 (k.1 + i) = cs.getD i 0
  | [], _, _, h => absurd h (Nat.not_lt_zero _)
  | x :: l, k, 0, _ => by
    refine (kap_lo l (kadd k x) k.1 (Nat.lt_succ_self _)).trans ?_
    show (if k.1 = k.1 then x else k.2 k.1) = x
    rw [if_pos rfl]
  | x :: l, k, i + 1, h => by
    have e := kap_at l (kadd k x) i (Nat.lt_of_succ_lt_succ h)
    rw [show (kadd k x).1 + i = k.1 + (i + 1) by show k.1 + 1 + i = _; omega] at e
    exact e
def q_set (Q : s_Q) (w : Bool) (cs : List Int32) : s_Q := (Q.1, Q.2.1, cond w Q.2.2.1 (some cs), cond w (some cs) Q.2.2.2)
theorem q_set_r (Q : s_Q) (w : Bool) (cs : List Int32) : q_r (q_set Q w cs) w = some cs ∧ q_r (q_set Q w cs) (!w) = q_r Q (!w) := by cases w <;> exact ⟨rfl, rfl⟩
def lU2 (X : x_X) (Q : s_Q) (w : Bool) (r : p_R) : p_L := match r with
  | .inl fp => .inl fp
  | .inr y => cond (decide (x_K X y.1 = 59)) (.inr (x_E X y.1, q_set Q w y.2)) (.inl (1, x_S X y.1))
def lU (X : x_X) (Q : s_Q) (w : Bool) (r : p_R) (q : Nat) : p_L := cond (q_r Q w).isSome (.inl (5, x_S X q)) (lU2 X Q w r)
section RULE
variable {g N : Nat} {sw lv : Bool} {I : Nat → Nat → Int32} {L : Nat → Nat → Int64} {X : x_X} {rc ru q : Nat} {Q : s_Q} {w : Bool}
theorem C_rul (hx : x_ok X) (hr : am_isc rc) (hu : ru = rc + cond w 7 6) (hs : sO I) (hq : q ≤ X.1) (hl : lC X rc q Q I) {r : p_R} (hg : gd X w (x_E X q) 31 0 r) (hc : cSp X rc ru w 74 0 (10 * (7 - 0) + 9 + 20) [.int (Int32.ofNat 0), am_u] (x_E X q) r) : ∃ I', am_R 73 100 0 [.ref 76, .ref rc, .ref ru] [] (am_hp g N sw lv I L) = some (.inl none, (am_hp g N sw lv I' L)) ∧ fL rc I I' ∧ lE X rc (lU X Q w r q) I' := by
  obtain ⟨k, hk, hG, hH, hR⟩ := id hl
  have hn := hx.1
  have hE := x_E_le hq
  obtain ⟨hu', u1, u2, u3, u4⟩ := ru_f hr hu
  have hc67 : (cond w 7 6 : Nat) = 7 ∨ (cond w 7 6 : Nat) = 6 := by cases w <;> decide
  have hrb : rc = 79 ∨ rc = 89 := hr
  have hRw := hR w
  unfold dR at hRw
  rw [← hu] at hRw
  unfold lU
  cases ho : (q_r Q w).isSome with
  | true =>
    rw [cond_true]
    obtain ⟨f1, f2⟩ := P_fail hr hq (by omega) hG 5
    refine ⟨_, ?_, fL_fP f2, ⟨f1.2.1, f1.2.2.1⟩⟩
    rw [y_Rd_readRule_0 hr hu', hRw.2.1, ho, d_f (by decide), d_t hG.2.1]
    rfl
  | false =>
    rw [cond_false]
    obtain ⟨I0, z1, z2, z3, z4⟩ := P_step (g := g) (N := N) (sw := sw) (lv := lv) (L := L) hx hr hs hq hG
    have hI0 : I0 ru = I ru := z3.1 ru u1 u2 u3 u4
    have p0 : pG X rc (x_E X q) k (am_up (am_up I0 ru (upd (I0 ru) 1 1)) ru (upd (upd (I0 ru) 1 1) 2 (I0 rc 11))) := pG_fr z2 (by rw [up_ne (by omega), up_ne (by omega)]) (by rw [up_ne (by omega), up_ne (by omega)]) (by rw [up_ne (by omega), up_ne (by omega)]) (by rw [up_ne (by omega), up_ne (by omega)]) (by rw [up_ne (by omega), up_ne (by omega)])
    have s0 : sO (am_up (am_up I0 ru (upd (I0 ru) 1 1)) ru (upd (upd (I0 ru) 1 1) 2 (I0 rc 11))) := sO_lo z4 fun a p => by rw [up_ne (by omega), up_ne (by omega)]
    have v0 : (am_up (am_up I0 ru (upd (I0 ru) 1 1)) ru (upd (upd (I0 ru) 1 1) 2 (I0 rc 11))) ru 0 = Int32.ofNat (cond w 7 5) := by
      rw [up_same, upd_ne (by decide), upd_ne (by decide), hI0]
      exact hRw.1
    obtain ⟨I1, a1, a2, a3⟩ := hc g N sw lv L (am_up (am_up I0 ru (upd (I0 ru) 1 1)) ru (upd (upd (I0 ru) 1 1) 2 (I0 rc 11))) k s0 p0 (by omega) v0
    have hI1 : I1 ru = upd (upd (I0 ru) 1 1) 2 (I0 rc 11) := by rw [a2.1 ru u1 u2 u3 u4, up_same]
    have s1 : sO I1 := sO_fP hr a2 s0
    have s1' : sO (am_up I1 ru (upd (I1 ru) 3 (I1 rc 11))) := sO_lo s1 fun a p => by rw [up_ne (by omega)]
    have fr : ∀ a, a ≠ 76 → a ≠ 77 → a ≠ rc → a ≠ rc + 8 → a ≠ ru → (am_up I1 ru (upd (I1 ru) 3 (I1 rc 11))) a = I a := fun a q1 q2 q3 q4 q5 => by rw [up_ne q5, a2.1 a q1 q2 q3 q4, up_ne q5, up_ne q5, z3.1 a q1 q2 q3 q4]
    have fr7 : (am_up I1 ru (upd (I1 ru) 3 (I1 rc 11))) 77 1 = I 77 1 := by rw [up_ne (by omega), a2.2.1, up_ne (by omega), up_ne (by omega), z3.2.1]
    have frc : ∀ j, j ≠ 11 → (am_up I1 ru (upd (I1 ru) 3 (I1 rc 11))) rc j = I rc j := fun j p => by rw [up_ne (by omega), a2.2.2.1 j p, up_ne (by omega), up_ne (by omega), z3.2.2.1 j p]
    have fl : fL rc I (am_up I1 ru (upd (I1 ru) 3 (I1 rc 11))) := ⟨fun a q1 q2 q3 => fr a q1 q2 (by omega) (by omega) (by omega), fr7⟩
    have run : am_R 73 100 0 [.ref 76, .ref rc, .ref ru] [] (am_hp g N sw lv I L) = am_bd (am_R 69 9 0 [.ref 76, .int 59] [] (am_hp g N sw lv (am_up I1 ru (upd (I1 ru) 3 (I1 rc 11))) L)) (fun v h => am_R 73 100 54 [.ref 76, .ref rc, .ref ru] (v.toList ++ []) h) (fun c h => some (.inr c, h)) := by
      rw [y_Rd_readRule_0 hr hu', hRw.2.1, ho, d_t (by rfl), z1, am_bd_ok, am_tn, y_Rd_readRule_20 hr hu']
      refine Eq.trans (congrArg (fun z => am_bd z _ _) a1) ?_
      rw [am_bd_ok, am_tn, y_Rd_readRule_40 hr hu']
    cases r with
    | inl fp =>
      have a3' : pF X rc fp.1 fp.2 I1 := a3
      have b3 : pF X rc fp.1 fp.2 (am_up I1 ru (upd (I1 ru) 3 (I1 rc 11))) := pF_fr a3' (by rw [up_ne (by omega)]) (by rw [up_ne (by omega)]) (by rw [up_ne (by omega)]) (by rw [up_ne (by omega)])
      refine ⟨_, ?_, fl, ⟨b3.2.1, b3.2.2.1⟩⟩
      rw [run, C_sgb (pF_ne b3 hg.1 hg.2.1), am_bd_ok, am_tn, y_Rd_readRule_54 hr hu']
    | inr y =>
      obtain ⟨q2, cs⟩ := y
      obtain ⟨g1, g2, g3, g4⟩ := hg
      dsimp only at g1 g2 g3 g4
      have a3' : pG X rc q2 (kap k cs) I1 := a3
      have k1 := kap_1 cs k
      have b3 : pG X rc q2 (kap k cs) (am_up I1 ru (upd (I1 ru) 3 (I1 rc 11))) := pG_fr a3' (by rw [up_ne (by omega)]) (by rw [up_ne (by omega)]) (by rw [up_ne (by omega)]) (by rw [up_ne (by omega)]) (by rw [up_ne (by omega)])
      obtain ⟨I5, f1, f2, f3, f4⟩ := C_sE (g := g) (N := N) (sw := sw) (lv := lv) (L := L) (r := .inr q2) hx hr s1' (by omega : (kap k cs).1 ≤ 700) (show gE X (.inr q2) from g2) (show stC X rc (kap k cs) (.inr q2) (am_up I1 ru (upd (I1 ru) 3 (I1 rc 11))) from b3) (c := 59) (by decide)
      have fl5 := fL_tr fl (fL_fP f3)
      refine ⟨I5, ?_, fl5, ?_⟩
      · rw [run]
        refine Eq.trans (congrArg (fun z => am_bd z _ _) f1) ?_
        rw [am_bd_ok, am_tn, y_Rd_readRule_54 hr hu']
      · show lE X rc (cond (decide (x_K X q2 = 59)) (.inr (x_E X q2, q_set Q w cs)) (.inl (1, x_S X q2))) I5
        by_cases e59 : x_K X q2 = 59
        · rw [d_t e59]
          rw [sR_t e59] at f2
          have f2' : pG X rc (x_E X q2) (kap k cs) I5 := f2
          have hE2 := x_E_le (X := X) g2
          have h5 : ∀ a, a ≠ 76 → a ≠ 77 → a ≠ rc → a ≠ rc + 8 → a ≠ ru → I5 a = I a := fun a q1 q2 q3 q4 q5 => (f3.1 a q1 q2 q3 q4).trans (fr a q1 q2 q3 q4 q5)
          have h5c : ∀ j, j ≠ 11 → I5 rc j = I rc j := fun j p => (f3.2.2.1 j p).trans (frc j p)
          have h5u : I5 ru = upd (I1 ru) 3 (I1 rc 11) := (f3.1 ru u1 u2 u3 u4).trans up_same
          refine ⟨kap k cs, by show (kap k cs).1 ≤ x_E X q2; omega, f2', ⟨(h5c 0 (by decide)).trans hH.1, (h5c 1 (by decide)).trans hH.2.1, ?_, (h5c 6 (by decide)).trans hH.2.2.2.1, ?_⟩, fun w' => ?_⟩
          · rw [h5 (rc + 1) (by omega) (by omega) (by omega) (by omega) (by omega), h5 (rc + 2) (by omega) (by omega) (by omega) (by omega) (by omega), h5 (rc + 3) (by omega) (by omega) (by omega) (by omega) (by omega), h5 (rc + 4) (by omega) (by omega) (by omega) (by omega) (by omega)]
            exact hH.2.2.1
          · rw [h5 (rc + 5) (by omega) (by omega) (by omega) (by omega) (by omega)]
            exact hH.2.2.2.2
          · by_cases ew : w' = w
            · subst ew
              rw [(q_set_r Q w' cs).1]
              unfold dR
              rw [← hu, h5u, hI1]
              refine ⟨?_, ?_, fun cs' ecs => ⟨k.1, ?_, ?_, ?_, ?_⟩⟩
              · rw [upd_ne (by decide), upd_ne (by decide), upd_ne (by decide), hI0]
                exact hRw.1
              · rw [upd_ne (by decide), upd_ne (by decide), upd_same]
                rfl
              · rw [upd_ne (by decide), upd_same]
                exact z2.2.2.1
              · cases ecs
                rw [upd_same, a3'.2.2.1, k1]
              · cases ecs
                omega
              · cases ecs
                exact fun i hi => kap_at cs k i hi
            · have ew' : w' = !w := by cases w <;> cases w' <;> first | rfl | exact absurd rfl ew
              subst ew'
              rw [(q_set_r Q w cs).2]
              have hne : rc + cond (!w) 7 6 ≠ ru := by
                rw [hu]
                cases w with
                | true => exact (by omega : rc + 6 ≠ rc + 7)
                | false => exact (by omega : rc + 7 ≠ rc + 6)
              have hc68 : (cond (!w) 7 6 : Nat) = 7 ∨ (cond (!w) 7 6 : Nat) = 6 := by cases w <;> decide
              obtain ⟨r1, r2, r3⟩ := hR (!w)
              have e5 := h5 (rc + cond (!w) 7 6) (by omega) (by omega) (by omega) (by omega) hne
              unfold dR
              rw [e5]
              refine ⟨r1, r2, fun cs' ecs => ?_⟩
              obtain ⟨p, t1, t2, t3, t4⟩ := r3 cs' ecs
              exact ⟨p, t1, t2, by omega, fun i hi => (kap_lo cs k (p + i) (by omega)).trans (t4 i hi)⟩
        · rw [d_f e59]
          rw [sR_f e59] at f2
          have f2' : pF X rc 1 (x_S X q2) I5 := f2
          exact ⟨f2'.2.1, f2'.2.2.1⟩
end RULE
