/-! ONE STEP: calls; all instructions; THE SIMULATION -/
section AMX
variable {S : State} {A0 : Array Value} {ad : Nat → Nat} {fv : Value} {dC : Nat → ClassId} {dI : Nat → Nat → Nat} {p : Program} {l : Launch} {e : Env} {R : Room} {s : State} {m : MethodId} {args : Array Value} {below : List Frame} {meth : Method} {c : Code} {k : Nat} {h0 : am_H} {Q : State → Prop} {P : am_P} {n : Nat} {r : am_Res}
variable {pc len : Nat} {ls st : List Value} {h : am_H} {next : Nat → List Value → List Value → am_H → Option am_Res}
variable {b a na d i : Nat} {v : Value}
theorem am_ce {a b b' x : Nat} (h1 : am_mok a = true) (h2 : am_np a = some x) (h3 : b' < b) : am_Ce a b b' x := by
  unfold am_mok at h1
  obtain ⟨g1, g2⟩ := gl_and h1
  obtain ⟨q1, q2, q3⟩ := of_decide_eq_true g1
  exact ⟨q1, q2, h2, am_in_mem (gl_and g2).1, q3, h3⟩
theorem am_mok_code {a : Nat} (h1 : am_mok a = true) (hh : am_hh a = []) : Cond.code (am_Y a) (am_B a) (am_ml a) (am_rt a) ∈ lw_tbl := by
  unfold am_mok at h1
  have := (gl_and (gl_and h1).2).2
  rw [hh] at this
  exact am_in_mem this
theorem am_mok_codeH {a : Nat} (h1 : am_mok a = true) (hh : am_hh a ≠ []) : Cond.codeWith (am_Y a) (am_B a) (am_ml a) (am_rt a) (am_hh a) ∈ lw_tbl := by
  unfold am_mok at h1
  have := (gl_and (gl_and h1).2).2
  split at this
  · rename_i q
    exact absurd q hh
  · exact am_in_mem this
theorem st_callS (hw : am_Wd S A0 ad fv dC dI) (he : am_We S ad fv l) (F : am_Fr S k p s m meth c) (hS : am_Sim S ad fv dC dI l P n) (hml : ∀ k, P.2.2.1 k = am_ml k) (hn : ∀ pc ls st h, next pc ls st h = some r → am_c h0 ≤ am_c h → h0.1.2.2 ≤ h.1.2.2 → am_WG S ad fv dC dI k p l e R s m args below meth c h0 (am_Z S ad fv dC dI below args s h0 r) pc ls st h) (hc0 : am_c h0 ≤ am_c h) (hz0 : h0.1.2.2 ≤ h.1.2.2) (hmo : ∀ pc ls st h, next pc ls st h = some r → am_le h r.2) (hrc : am_c r.2 - am_c h0 ≤ R.cells) (hrs : r.2.1.2.2 - h0.1.2.2 ≤ R.slots) (hfr : b + 8 ≤ R.frames) (hlo : 64 * b + 128 ≤ R.locals) (hd : decode (am_B k) pc = .ok (.invokestatic i, 3)) (hmo' : am_mok a = true) (hnp : am_np a = some na) (hh : am_hh a = []) (hm2 : Cond.static (am_Y a) ∈ lw_tbl)
    (hm3 : Cond.methodLink (am_Y k).cls i (am_Y a) ∈ lw_tbl ∨ (am_nt v = true ∧ ∃ g, Cond.methodLinkNest (am_Y k).cls i (am_Y a) g ∈ lw_tbl)) (hk : ∀ y, am_nt v = false → am_hchk k pc y (P.2.1 k pc y) = true) (x : am_do P (fun k b as h => am_ev 75 P n k b 0 (am_lcl P k as) [] h) next k pc 3 ls (am_call P.2.2.2 P.2.2.1 b a na d v ls st h) = some r) : am_WG S ad fv dC dI k p l e R s m args below meth c h0 (am_Z S ad fv dC dI below args s h0 r) pc ls st h := by
  obtain ⟨as, rs, hp, -, hwt, hal, hok, hb, hx⟩ := gl_call x
  obtain ⟨xs, e1, e2, e3⟩ := am_pop_eq na [] st as rs hp
  rw [List.append_nil] at e1
  subst e1
  rw [hml] at hal
  have hce := am_ce hmo' hnp hb
  rcases hx with ⟨v', h', hc, hx⟩ | ⟨y, h', hc, hnt, hx⟩
  · have z := am_ev_le2 n hc
    have z2 := hmo _ _ _ _ hx
    exact so_callS hw F hS hce hc (hml a) hok hal hh (am_mok_code hmo' hh) hm2 (hm3.imp id (fun q => q.2)) hd e2 e3 hwt hfr hlo (Nat.le_trans (Nat.sub_le_sub_right z2.1 _) hrc) (Nat.le_trans (Nat.sub_le_sub_right z2.2 _) hrs) hc0 hz0 z.1 z.2 rfl (hn _ _ _ _ hx (Nat.le_trans hc0 z.1) (Nat.le_trans hz0 z.2))
  · have z := am_ev_le2 n hc
    have hm4 : Cond.methodLink (am_Y k).cls i (am_Y a) ∈ lw_tbl := by
      rcases hm3 with q | q
      · exact q
      · rw [hnt] at q
        exact absurd q.1 (by decide)
    have z2 : am_le h' r.2 := by
      unfold am_th at hx
      split at hx
      · cases hx
        exact am_le_r _
      · split at hx
        · exact hmo _ _ _ _ hx
        · cases hx
    exact so_callSx hw F hS hce hc (hml a) hok hal hh (am_mok_code hmo' hh) hm2 hm4 hd e2 e3 hwt hfr hlo (Nat.le_trans (Nat.sub_le_sub_right z2.1 _) hrc) (Nat.le_trans (Nat.sub_le_sub_right z2.2 _) hrs) hc0 hz0 z.1 z.2 rfl (st_th hw he F hn (Nat.le_trans hc0 z.1) (Nat.le_trans hz0 z.2) (hk y hnt) hx)
theorem st_callSW (hw : am_Wd S A0 ad fv dC dI) (he : am_We S ad fv l) (F : am_Fr S k p s m meth c) (hS : am_Sim S ad fv dC dI l P n) (hml : ∀ k, P.2.2.1 k = am_ml k) (hn : ∀ pc ls st h, next pc ls st h = some r → am_c h0 ≤ am_c h → h0.1.2.2 ≤ h.1.2.2 → am_WG S ad fv dC dI k p l e R s m args below meth c h0 (am_Z S ad fv dC dI below args s h0 r) pc ls st h) (hc0 : am_c h0 ≤ am_c h) (hz0 : h0.1.2.2 ≤ h.1.2.2) (hmo : ∀ pc ls st h, next pc ls st h = some r → am_le h r.2) (hrc : am_c r.2 - am_c h0 ≤ R.cells) (hrs : r.2.1.2.2 - h0.1.2.2 ≤ R.slots) (hfr : b + 8 ≤ R.frames) (hlo : 64 * b + 128 ≤ R.locals) (hd : decode (am_B k) pc = .ok (.invokestatic i, 3)) (hmo' : am_mok a = true) (hnp : am_np a = some na) (hh : am_hh a ≠ []) (hm2 : Cond.static (am_Y a) ∈ lw_tbl)
    (hm3 : Cond.methodLink (am_Y k).cls i (am_Y a) ∈ lw_tbl) (hnt : am_nt v = true) (x : am_do P (fun k b as h => am_ev 75 P n k b 0 (am_lcl P k as) [] h) next k pc 3 ls (am_call P.2.2.2 P.2.2.1 b a na d v ls st h) = some r) : am_WG S ad fv dC dI k p l e R s m args below meth c h0 (am_Z S ad fv dC dI below args s h0 r) pc ls st h := by
  obtain ⟨as, rs, hp, -, hwt, hal, hok, hb, hx⟩ := gl_call x
  obtain ⟨xs, e1, e2, e3⟩ := am_pop_eq na [] st as rs hp
  rw [List.append_nil] at e1
  subst e1
  rw [hml] at hal
  have hce := am_ce hmo' hnp hb
  rcases hx with ⟨v', h', hc, hx⟩ | ⟨y, h', hc, hnt', hx⟩
  · have z := am_ev_le2 n hc
    have z2 := hmo _ _ _ _ hx
    exact so_callSW hw F hS hce hc (hml a) hok hal (am_mok_codeH hmo' hh) hm2 hm3 hd e2 e3 hwt hfr hlo (Nat.le_trans (Nat.sub_le_sub_right z2.1 _) hrc) (Nat.le_trans (Nat.sub_le_sub_right z2.2 _) hrs) hc0 hz0 z.1 z.2 rfl (hn _ _ _ _ hx (Nat.le_trans hc0 z.1) (Nat.le_trans hz0 z.2))
  · rw [hnt] at hnt'
    cases hnt'
theorem st_callV (hw : am_Wd S A0 ad fv dC dI) (he : am_We S ad fv l) (F : am_Fr S k p s m meth c) (hS : am_Sim S ad fv dC dI l P n) (hml : ∀ k, P.2.2.1 k = am_ml k) (hn : ∀ pc ls st h, next pc ls st h = some r → am_c h0 ≤ am_c h → h0.1.2.2 ≤ h.1.2.2 → am_WG S ad fv dC dI k p l e R s m args below meth c h0 (am_Z S ad fv dC dI below args s h0 r) pc ls st h) (hc0 : am_c h0 ≤ am_c h) (hz0 : h0.1.2.2 ≤ h.1.2.2) (hmo : ∀ pc ls st h, next pc ls st h = some r → am_le h r.2) (hrc : am_c r.2 - am_c h0 ≤ R.cells) (hrs : r.2.1.2.2 - h0.1.2.2 ≤ R.slots) (hfr : b + 8 ≤ R.frames) (hlo : 64 * b + 128 ≤ R.locals) (hd : decode (am_B k) pc = .ok (.invokevirtual i, 3)) (hna : 1 ≤ na) (hd1 : 1 ≤ d) (hd2 : d ≤ 13) (hCN : am_CN (d - 1) = (am_Y a).cls) (hmo' : am_mok a = true) (hnp : am_np a = some (na - 1)) (hh : am_hh a = []) (hm2 : Cond.instanceMethod (am_Y a) ∈ lw_tbl) (hm5 : Cond.selects (am_Y a).cls (am_Y a) (am_Y a) ∈ lw_tbl)
    (hm3 : Cond.methodLink (am_Y k).cls i (am_Y a) ∈ lw_tbl ∨ (am_nt v = true ∧ ∃ g, Cond.methodLinkNest (am_Y k).cls i (am_Y a) g ∈ lw_tbl)) (hk : ∀ y, am_nt v = false → am_hchk k pc y (P.2.1 k pc y) = true) (x : am_do P (fun k b as h => am_ev 75 P n k b 0 (am_lcl P k as) [] h) next k pc 3 ls (am_call P.2.2.2 P.2.2.1 b a na d v ls st h) = some r) : am_WG S ad fv dC dI k p l e R s m args below meth c h0 (am_Z S ad fv dC dI below args s h0 r) pc ls st h := by
  obtain ⟨as, rs, hp, ho, hwt, hal, hok, hb, hx⟩ := gl_call x
  obtain ⟨xs, e1, e2, e3⟩ := am_pop_eq na [] st as rs hp
  rw [List.append_nil] at e1
  subst e1
  obtain ⟨o, as', rfl, ho⟩ := ho (by omega)
  rw [hml] at hal
  rw [List.length_cons] at e3
  have e3 : as'.length = na - 1 := by omega
  have hce := am_ce hmo' hnp hb
  rcases hx with ⟨v', h', hc, hx⟩ | ⟨y, h', hc, hnt, hx⟩
  · have z := am_ev_le2 n hc
    have z2 := hmo _ _ _ _ hx
    exact so_callV hw F hS hce hc (hml a) hok hal hh (am_mok_code hmo' hh) hm2 hm5 (hm3.imp id (fun q => q.2)) hd (show (h.2.1 o).1 = d - 1 by omega) (by omega) hCN e2 e3 hwt hfr hlo (Nat.le_trans (Nat.sub_le_sub_right z2.1 _) hrc) (Nat.le_trans (Nat.sub_le_sub_right z2.2 _) hrs) hc0 hz0 z.1 z.2 rfl (hn _ _ _ _ hx (Nat.le_trans hc0 z.1) (Nat.le_trans hz0 z.2))
  · have z := am_ev_le2 n hc
    have hm4 : Cond.methodLink (am_Y k).cls i (am_Y a) ∈ lw_tbl := by
      rcases hm3 with q | q
      · exact q
      · rw [hnt] at q
        exact absurd q.1 (by decide)
    have z2 : am_le h' r.2 := by
      unfold am_th at hx
      split at hx
      · cases hx
        exact am_le_r _
      · split at hx
        · exact hmo _ _ _ _ hx
        · cases hx
    exact so_callVx hw F hS hce hc (hml a) hok hal hh (am_mok_code hmo' hh) hm2 hm5 hm4 hd (show (h.2.1 o).1 = d - 1 by omega) (by omega) hCN e2 e3 hwt hfr hlo (Nat.le_trans (Nat.sub_le_sub_right z2.1 _) hrc) (Nat.le_trans (Nat.sub_le_sub_right z2.2 _) hrs) hc0 hz0 z.1 z.2 rfl (st_th hw he F hn (Nat.le_trans hc0 z.1) (Nat.le_trans hz0 z.2) (hk y hnt) hx)
theorem st_callI (hw : am_Wd S A0 ad fv dC dI) (he : am_We S ad fv l) (F : am_Fr S k p s m meth c) (hS : am_Sim S ad fv dC dI l P n) (hml : ∀ k, P.2.2.1 k = am_ml k) (hn : ∀ pc ls st h, next pc ls st h = some r → am_c h0 ≤ am_c h → h0.1.2.2 ≤ h.1.2.2 → am_WG S ad fv dC dI k p l e R s m args below meth c h0 (am_Z S ad fv dC dI below args s h0 r) pc ls st h) (hc0 : am_c h0 ≤ am_c h) (hz0 : h0.1.2.2 ≤ h.1.2.2) (hmo : ∀ pc ls st h, next pc ls st h = some r → am_le h r.2) (hrc : am_c r.2 - am_c h0 ≤ R.cells) (hrs : r.2.1.2.2 - h0.1.2.2 ≤ R.slots) (hfr : b + 8 ≤ R.frames) (hlo : 64 * b + 128 ≤ R.locals) (hd : decode (am_B k) pc = .ok (.invokespecial i, 3)) (hna : 1 ≤ na) (hd1 : 1 ≤ d) (hd2 : d ≤ 13) (hmo' : am_mok a = true) (hnp : am_np a = some (na - 1)) (hh : am_hh a = []) (hrt : am_rt a = none) (hni : (am_Y a).name = "<init>") (hm2 : Cond.instanceMethod (am_Y a) ∈ lw_tbl)
    (hm3 : Cond.methodLink (am_Y k).cls i (am_Y a) ∈ lw_tbl ∨ ∃ g, Cond.methodLinkNest (am_Y k).cls i (am_Y a) g ∈ lw_tbl) (hnt : am_nt v = true) (x : am_do P (fun k b as h => am_ev 75 P n k b 0 (am_lcl P k as) [] h) next k pc 3 ls (am_call P.2.2.2 P.2.2.1 b a na d v ls st h) = some r) : am_WG S ad fv dC dI k p l e R s m args below meth c h0 (am_Z S ad fv dC dI below args s h0 r) pc ls st h := by
  obtain ⟨as, rs, hp, ho, hwt, hal, hok, hb, hx⟩ := gl_call x
  obtain ⟨xs, e1, e2, e3⟩ := am_pop_eq na [] st as rs hp
  rw [List.append_nil] at e1
  subst e1
  obtain ⟨o, as', rfl, ho⟩ := ho (by omega)
  rw [hml] at hal
  rw [List.length_cons] at e3
  have e3 : as'.length = na - 1 := by omega
  have hce := am_ce hmo' hnp hb
  rcases hx with ⟨v', h', hc, hx⟩ | ⟨y, h', hc, hnt', hx⟩
  · have z := am_ev_le2 n hc
    have z2 := hmo _ _ _ _ hx
    intro H locs lr hr
    obtain ⟨-, hof⟩ := am_HR_in hr (show (h.2.1 o).1 = d - 1 by omega) (by omega) (by omega)
    exact so_callI hw F hS hce hc (hml a) hok hal hh (am_mok_code hmo' hh) hrt hni hm2 hm3 hd hof e2 e3 hwt hfr hlo (Nat.le_trans (Nat.sub_le_sub_right z2.1 _) hrc) (Nat.le_trans (Nat.sub_le_sub_right z2.2 _) hrs) hc0 hz0 z.1 z.2 rfl (hn _ _ _ _ hx (Nat.le_trans hc0 z.1) (Nat.le_trans hz0 z.2)) H locs lr hr
  · rw [hnt] at hnt'
    cases hnt'
end AMX
