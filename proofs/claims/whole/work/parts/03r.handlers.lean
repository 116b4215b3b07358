/-! ONE STEP: calls and handlers -/
/-- a row of a method's table takes class c, and goes on at np, the local i being lost -/
def am_h1 (k pc c np i : Nat) (q : Nat × Nat × Nat × Nat) : Bool := decide (q.1 ≤ pc ∧ pc < q.2.1 ∧ (c = 0 ∧ q.2.2.2 = 18 ∨ c = 1 ∧ q.2.2.2 = 13)) && (match decode (am_B k) q.2.2.1 with
  | .ok (.astore_n j, 1) => decide (j.val = i ∧ np = q.2.2.1 + 1)
  | .ok (.astore j, 2) => decide (j = i ∧ np = q.2.2.1 + 2)
  | _ => false)
def am_hchk (k pc c : Nat) (o : Option (Nat × Nat)) : Bool := match am_hh k, o with
  | [], none => true
  | [q], some (np, i) => Nat.ble (am_ml k) i || (decide ((am_Y k).cls = "AlmondCabinetLaw") && am_h1 k pc c np i q)
  | [q, q'], some (np, i) => Nat.ble (am_ml k) i || (decide ((am_Y k).cls = "AlmondCabinetLaw") && (am_h1 k pc c np i q || (decide (c = 1 ∧ q.2.2.2 = 18) && am_h1 k pc c np i q')))
  | _, _ => false
set_option maxRecDepth 100000 in
theorem am_hw : Cond.classLink "AlmondCabinetLaw" 18 "java/util/NoSuchElementException" ∈ lw_tbl ∧ Cond.classLink "AlmondCabinetLaw" 13 "java/lang/IllegalArgumentException" ∈ lw_tbl ∧ Cond.castable "java/util/NoSuchElementException" "java/util/NoSuchElementException" ∈ lw_tbl ∧ Cond.castable "java/lang/IllegalArgumentException" "java/lang/IllegalArgumentException" ∈ lw_tbl := by decide +kernel
section AMV
variable {S : State} {A0 : Array Value} {ad : Nat → Nat} {fv : Value} {dC : Nat → ClassId} {dI : Nat → Nat → Nat} {p : Program} {l : Launch} {e : Env} {R : Room} {s : State} {m : MethodId} {args : Array Value} {below : List Frame} {meth : Method} {c : Code} {k : Nat} {h0 : am_H} {Q : State → Prop} {P : am_P} {n : Nat} {r : am_Res}
variable {pc len : Nat} {ls st : List Value} {h : am_H} {call : Nat → Nat → List Value → am_H → Option am_Res} {next : Nat → List Value → List Value → am_H → Option am_Res}

theorem gl_call {rk : Nat → List Value → Nat} {ml : Nat → Nat} {b a na d : Nat} {v : Value} (x : am_do P call next k pc len ls (am_call rk ml b a na d v ls st h) = some r) : ∃ as rs, am_pop na [] st = some (as, rs) ∧ (d ≠ 0 → ∃ o as', as = .ref o :: as' ∧ (h.2.1 o).1 + 1 = d) ∧ am_wt rs ≤ 8 ∧ (am_al as).length ≤ ml a ∧ as.all am_okv = true ∧ rk a as < b ∧
    ((∃ v' h', call a (rk a as) as h = some (.inl v', h') ∧ next (pc + len) ls (v'.toList ++ rs) h' = some r) ∨ (∃ y h', call a (rk a as) as h = some (.inr y, h') ∧ am_nt v = false ∧ am_th (P.2.1 k pc y) next ls y h' = some r)) := by
  unfold am_call at x
  split at x
  · rename_i as rs hp
    obtain ⟨g1, x⟩ := gl_cond x
    obtain ⟨g2, x⟩ := gl_cond x
    obtain ⟨g2, g3⟩ := gl_and g2
    obtain ⟨g3, g4⟩ := gl_and g3
    have x : cond (Nat.blt (rk a as) b) (am_bd (call a (rk a as) as h) (fun v h => next (pc + len) ls (v.toList ++ rs) h) (fun c h => cond (am_nt v) none (am_th (P.2.1 k pc c) next ls c h))) none = some r := x
    cases g5 : Nat.blt (rk a as) b with
    | false => rw [g5] at x; cases x
    | true =>
      rw [g5] at x
      refine ⟨as, rs, hp, fun hd => ?_, gl_ble g2, gl_ble g3, g4, gl_ble g5, ?_⟩
      · cases hb : Nat.beq d 0 with
        | true => exact absurd (gl_beq hb) hd
        | false =>
          rw [hb] at g1
          simp only [cond_false] at g1
          split at g1
          · exact ⟨_, _, rfl, gl_beq g1⟩
          · cases g1
      · have x : am_bd (call a (rk a as) as h) (fun v h => next (pc + len) ls (v.toList ++ rs) h) (fun c h => cond (am_nt v) none (am_th (P.2.1 k pc c) next ls c h)) = some r := x
        cases hc : call a (rk a as) as h with
        | none => rw [hc] at x; cases x
        | some y =>
          rw [hc] at x
          obtain ⟨o, h'⟩ := y
          cases o with
          | inl v' => exact Or.inl ⟨v', h', rfl, x⟩
          | inr y =>
            have x : cond (am_nt v) none (am_th (P.2.1 k pc y) next ls y h') = some r := x
            cases hv : am_nt v with
            | true => rw [hv] at x; cases x
            | false => rw [hv] at x; exact Or.inr ⟨y, h', rfl, rfl, x⟩
  · exact gl_no x
/-- a row of the table that takes it: where it goes on -/
theorem am_h1_go {h' : am_H} (hw : am_Wd S A0 ad fv dC dI) (F : am_Fr S k p s m meth c) {y np i : Nat} {q : Nat × Nat × Nat × Nat} (hq : am_h1 k pc y np i q = true) {l' : List Value} (hs : am_set ls i am_u = some l') (K : am_WG S ad fv dC dI k p l e R s m args below meth c h0 Q np l' [] h')
    {H' : Heap} {locs' : List Loc} {lr : Array Slot} {qa : Addr} (hl : am_LR ad fv (am_ml k) ls lr) (hr : am_HR S ad fv dC dI h' H') (hf : ∀ q ∈ locs', S.heap.size ≤ q.base) :
    (q.1 ≤ pc ∧ pc < q.2.1 ∧ (y = 0 ∧ q.2.2.2 = 18 ∨ y = 1 ∧ q.2.2.2 = 13)) ∧ W p l e R s m args below meth c H' locs' (am_c h' - am_c h0) (h'.1.2.2 - h0.1.2.2) Q (F0 m q.2.2.1 lr [.ref qa]) := by
  unfold am_h1 at hq
  obtain ⟨g1, g2⟩ := gl_and hq
  refine ⟨of_decide_eq_true g1, ?_⟩
  split at g2
  · rename_i j hd
    obtain ⟨rfl, rfl⟩ := of_decide_eq_true g2
    exact lv_astore_n F.1 F.2.1 hd rfl (am_LR_has hl) (by rw [← hl.2.2.1]; exact (am_set_some hs).1) rfl (fun lr' h2 => K H' locs' lr' hr (am_LR_set hw.2.2.2.2.2.2 hl hs (Or.inl rfl) h2) hf)
  · rename_i j hd
    obtain ⟨rfl, rfl⟩ := of_decide_eq_true g2
    exact lv_astore F.1 F.2.1 hd (am_LR_has hl) (by rw [← hl.2.2.1]; exact (am_set_some hs).1) rfl (fun lr' h2 => K H' locs' lr' hr (am_LR_set hw.2.2.2.2.2.2 hl hs (Or.inl rfl) h2) hf)
  · cases g2
theorem am_covers {q : Nat × Nat × Nat × Nat} (h1 : q.1 ≤ pc) (h2 : pc < q.2.1) : covers (⟨q.1, q.2.1, q.2.2.1, q.2.2.2⟩ : ExceptionTableEntry) pc = true := by
  unfold covers
  simp [h1, h2]
/-- behind a call that has thrown -/
theorem st_th {h' : am_H} (hw : am_Wd S A0 ad fv dC dI) (he : am_We S ad fv l) (F : am_Fr S k p s m meth c) (hn : ∀ pc ls st h, next pc ls st h = some r → am_c h0 ≤ am_c h → h0.1.2.2 ≤ h.1.2.2 → am_WG S ad fv dC dI k p l e R s m args below meth c h0 (am_Z S ad fv dC dI below args s h0 r) pc ls st h) (hc0 : am_c h0 ≤ am_c h') (hz0 : h0.1.2.2 ≤ h'.1.2.2) {y : Nat} (hk : am_hchk k pc y (P.2.1 k pc y) = true) (x : am_th (P.2.1 k pc y) next ls y h' = some r) {rs : List Value} :
    ∀ (H' : Heap) (locs' : List Loc) (lr : Array Slot) (q : Addr) (ce : Cell), am_LR ad fv (am_ml k) ls lr → am_HR S ad fv dC dI h' H' → (∀ q ∈ locs', S.heap.size ≤ q.base) → H'[q]? = some ce → ce.vm = .none → s.vm.findClass (am_EN y) = some ce.cls → vx_W p l e R s m args below meth c H' locs' (am_c h' - am_c h0) (h'.1.2.2 - h0.1.2.2) (am_Z S ad fv dC dI below args s h0 r) (F0 m pc lr rs) q := by
  intro H' locs' lr q ce hl hr hf hq hce hcl
  generalize P.2.1 k pc y = o at hk x
  have hlen := hl.2.2.1
  have cast1 : ∀ z, z < 2 → (Cond.castable (am_EN z) (am_EN z)).before args s = true := by
    intro z hz
    rcases (show z = 0 ∨ z = 1 by omega) with rfl | rfl
    · exact am_cast_moved F.2.2.2.2.2.1.alike (hw.1 _ am_hw.2.2.1)
    · exact am_cast_moved F.2.2.2.2.2.1.alike (hw.1 _ am_hw.2.2.2)
  have htab := F.2.2.2.2.2.2.2.2.1
  unfold am_hchk at hk
  split at hk
  · rename_i hhh
    have x : some (.inr y, h') = some r := x
    cases x
    refine vx_out (E := am_EN y) (fun z hz => ?_) F.2.2.2.2.2.2.1 hq hce hcl (fun t ht _ => ⟨y, rfl, rfl, by rw [ht]; exact hr⟩) hf (Nat.le_refl _) (Nat.le_refl _)
    rw [htab, hhh] at hz
    cases hz
  · rename_i q1 np i hhh
    unfold am_th at x
    split at x
    · rename_i hx
      cases hx
    · rename_i np' i' hx
      cases hx
      split at x
      · rename_i l' hs
        have K := hn _ _ _ _ x hc0 hz0
        rw [Bool.or_eq_true] at hk
        rcases hk with hk | hk
        · have h1 := gl_ble hk
          have h2 := (am_set_some hs).1
          omega
        · obtain ⟨hc, hk⟩ := gl_and hk
          have hc := of_decide_eq_true hc
          obtain ⟨⟨b1, b2, b3⟩, hW⟩ := am_h1_go (qa := q) hw F hk hs K hl hr hf
          have hown : s.vm.findClass "AlmondCabinetLaw" = some m.cls := by rw [← hc]; exact F.2.2.2.2.1
          rcases b3 with ⟨rfl, b3⟩ | ⟨rfl, b3⟩
          · exact ac_catch (E := am_EN 0) (name := am_EN 0) hown [] ⟨q1.1, q1.2.1, q1.2.2.1, q1.2.2.2⟩ [] (by rw [htab, hhh]; rfl) (fun z hz => nomatch hz) (am_covers b1 b2) (by show q1.2.2.2 ≠ 0; omega) (by show (Cond.classLink _ q1.2.2.2 _).before args s = true; rw [b3]; exact am_word hw F am_hw.1 rfl) (cast1 0 (by decide)) hq hce hcl hW
          · exact ac_catch (E := am_EN 1) (name := am_EN 1) hown [] ⟨q1.1, q1.2.1, q1.2.2.1, q1.2.2.2⟩ [] (by rw [htab, hhh]; rfl) (fun z hz => nomatch hz) (am_covers b1 b2) (by show q1.2.2.2 ≠ 0; omega) (by show (Cond.classLink _ q1.2.2.2 _).before args s = true; rw [b3]; exact am_word hw F am_hw.2.1 rfl) (cast1 1 (by decide)) hq hce hcl hW
      · cases x
  · rename_i q1 q2 np i hhh
    unfold am_th at x
    split at x
    · rename_i hx
      cases hx
    · rename_i np' i' hx
      cases hx
      split at x
      · rename_i l' hs
        have K := hn _ _ _ _ x hc0 hz0
        rw [Bool.or_eq_true] at hk
        rcases hk with hk | hk
        · have h1 := gl_ble hk
          have h2 := (am_set_some hs).1
          omega
        · obtain ⟨hc, hk⟩ := gl_and hk
          have hc := of_decide_eq_true hc
          have hown : s.vm.findClass "AlmondCabinetLaw" = some m.cls := by rw [← hc]; exact F.2.2.2.2.1
          rw [Bool.or_eq_true] at hk
          rcases hk with hk | hk
          · obtain ⟨⟨b1, b2, b3⟩, hW⟩ := am_h1_go (qa := q) hw F hk hs K hl hr hf
            rcases b3 with ⟨rfl, b3⟩ | ⟨rfl, b3⟩
            · exact ac_catch (E := am_EN 0) (name := am_EN 0) hown [] ⟨q1.1, q1.2.1, q1.2.2.1, q1.2.2.2⟩ (tableOf [q2]) (by rw [htab, hhh]; rfl) (fun z hz => nomatch hz) (am_covers b1 b2) (by show q1.2.2.2 ≠ 0; omega) (by show (Cond.classLink _ q1.2.2.2 _).before args s = true; rw [b3]; exact am_word hw F am_hw.1 rfl) (cast1 0 (by decide)) hq hce hcl hW
            · exact ac_catch (E := am_EN 1) (name := am_EN 1) hown [] ⟨q1.1, q1.2.1, q1.2.2.1, q1.2.2.2⟩ (tableOf [q2]) (by rw [htab, hhh]; rfl) (fun z hz => nomatch hz) (am_covers b1 b2) (by show q1.2.2.2 ≠ 0; omega) (by show (Cond.classLink _ q1.2.2.2 _).before args s = true; rw [b3]; exact am_word hw F am_hw.2.1 rfl) (cast1 1 (by decide)) hq hce hcl hW
          · obtain ⟨hz, hk⟩ := gl_and hk
            obtain ⟨rfl, hz18⟩ := of_decide_eq_true hz
            obtain ⟨⟨b1, b2, b3⟩, hW⟩ := am_h1_go (qa := q) hw F hk hs K hl hr hf
            have b3 : q2.2.2.2 = 13 := by omega
            refine ac_catch (E := am_EN 1) (name := am_EN 1) hown [⟨q1.1, q1.2.1, q1.2.2.1, q1.2.2.2⟩] ⟨q2.1, q2.2.1, q2.2.2.1, q2.2.2.2⟩ [] (by rw [htab, hhh]; rfl) (fun z hz' => ?_) (am_covers b1 b2) (by show q2.2.2.2 ≠ 0; omega) (by show (Cond.classLink _ q2.2.2.2 _).before args s = true; rw [b3]; exact am_word hw F am_hw.2.1 rfl) (cast1 1 (by decide)) hq hce hcl hW
            rw [List.mem_singleton.mp hz']
            refine Or.inr ⟨by show q1.2.2.2 ≠ 0; omega, am_EN 0, by show (Cond.classLink _ q1.2.2.2 _).before args s = true; rw [hz18]; exact am_word hw F am_hw.1 rfl, ?_⟩
            obtain ⟨-, -, -, -, -, ⟨c1, c2, n1, n2, n3⟩, -⟩ := he
            have hal := F.2.2.2.2.2.1.alike
            exact ⟨c1, c2, by rw [hal.findClass]; exact n1, by rw [hal.findClass]; exact n2, by rw [hal.assignable]; exact n3⟩
      · cases x
  · cases hk
end AMV
