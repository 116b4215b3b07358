/-! the calls themselves -/
section AMD
variable {S : State} {A0 : Array Value} {ad : Nat → Nat} {fv : Value} {dC : Nat → ClassId} {dI : Nat → Nat → Nat} {p : Program} {l : Launch} {e : Env} {R : Room} {s : State} {m : MethodId} {args : Array Value} {below : List Frame} {meth : Method} {c : Code} {k : Nat} {h0 : am_H} {Q : State → Prop} {P : am_P} {n : Nat}
variable {pc : Nat} {ls : List Value} {h : am_H}
/-- what is known of a callee without looking at the heap -/
def am_Ce (k' b b' na : Nat) : Prop := am_pf k' = true ∧ ((am_Y k').cls ≠ "java/lang/invoke/MethodHandle" ∧ (am_Y k').cls ≠ "java/lang/invoke/VarHandle") ∧ (parseMethodDescriptor (am_Y k').desc).map (fun d => d.parameters.length) = some na ∧ Cond.initialized (am_Y k').cls ∈ lw_tbl ∧ am_ml k' ≤ 40 ∧ b' < b
theorem am_cw (hw : am_Wd S A0 ad fv dC dI) (F : am_Fr S k p s m meth c) {w : Cond} (hm : w ∈ lw_tbl) (hg : goodWord w = true) : (∀ x ∈ [w], x.before args s = true) ∧ GoodIn [w] [w] :=
  ⟨fun x hx => by rw [List.mem_singleton.mp hx]; exact am_word hw F hm hg, fun x hx => ⟨hx, by rw [List.mem_singleton.mp hx]; exact good_of_word hg⟩⟩
theorem am_roomC {k' b b' na mc ms : Nat} (hc : am_Ce k' b b' na) (hf : b + 8 ≤ R.frames) (hl : 64 * b + 128 ≤ R.locals) : (am_rm b' mc ms).frames + 1 ≤ R.frames ∧ 8 + (am_ml k' + 11) + (am_rm b' mc ms).locals ≤ R.locals := by
  obtain ⟨-, -, -, -, h1, h2⟩ := hc
  constructor
  · show b' + 8 + 1 ≤ R.frames
    omega
  · show 8 + (am_ml k' + 11) + (64 * b' + 128) ≤ R.locals
    omega
theorem am_preS (F : am_Fr S k p s m meth c) {H : Heap} (hr : am_HR S ad fv dC dI h H) {as : List Value} : ∀ U : State, U.heap = H → s.WarmedH U.vm → am_Pc S ad fv dC dI as h (as.map (am_val ad fv)).toArray U := by
  intro U hU hW
  refine ⟨rfl, State.WarmedH.trans F.2.2.2.2.2.1 hW, ?_, by rw [hU]; exact hr⟩
  rw [hU]
  have h1 := hr.2.1.2
  have h2 := hr.2.2.1
  omega
theorem am_recvC (hw : am_Wd S A0 ad fv dC dI) (F : am_Fr S k p s m meth c) {H : Heap} (hr : am_HR S ad fv dC dI h H) {o a : Nat} {C : String} (ha : a < 13) (hC : am_CN a = C) (hs : (h.2.1 o).1 = a) : o ≠ am_fm ∧ ∃ cell : Cell, H[ad o]? = some cell ∧ cell.vm.isStatics = false ∧ s.vm.findClass C = some cell.cls := by
  obtain ⟨-, ho⟩ := am_HR_in hr hs (by omega) (by omega)
  obtain ⟨cell, q1, q2⟩ := am_HR_at hr hs (by omega) (by omega)
  refine ⟨ho, cell, q1, q2.1.2.1, ?_⟩
  have h1 := (q2.2.1 (by rw [hs]; omega)).1
  rw [hs] at h1
  rw [h1, ← hC]
  exact (am_CA_mv F.2.2.2.2.2.1.alike (hw.2.2.2.2.1 a ha)).1
theorem am_pop_eq : ∀ (n : Nat) (acc st as r : List Value), am_pop n acc st = some (as, r) → ∃ xs, as = xs ++ acc ∧ st = xs.reverse ++ r ∧ xs.length = n
  | 0, acc, st, as, r, h => by
    cases h
    exact ⟨[], rfl, rfl, rfl⟩
  | n + 1, acc, v :: st, as, r, h => by
    unfold am_pop at h
    obtain ⟨xs, h1, h2, h3⟩ := am_pop_eq n (v :: acc) st as r h
    refine ⟨xs ++ [v], ?_, ?_, ?_⟩
    · rw [h1, List.append_assoc]
      rfl
    · rw [h2, List.reverse_append]
      rfl
    · rw [List.length_append, h3]
      rfl
  | _ + 1, _, [], _, _, h => by cases h
theorem am_stk_eq {as rs st : List Value} (h : st = as.reverse ++ rs) : st.map (am_val ad fv) = (as.map (am_val ad fv)).reverse ++ rs.map (am_val ad fv) := by
  rw [h, List.map_append, List.map_reverse]
theorem am_stk_eqV {as rs st : List Value} {o : Nat} (ho : o ≠ am_fm) (h : st = (.ref o :: as).reverse ++ rs) : st.map (am_val ad fv) = (as.map (am_val ad fv)).reverse ++ .ref (ad o) :: rs.map (am_val ad fv) := by
  rw [am_stk_eq h, List.map_cons, am_val_ref ho, List.reverse_cons, List.append_assoc]
  rfl
section
variable {k' b b' : Nat} {as rs st : List Value} {r : am_Res}
theorem so_callS (hw : am_Wd S A0 ad fv dC dI) (F : am_Fr S k p s m meth c) (hS : am_Sim S ad fv dC dI l P n) {i na : Nat} {v : Option Value} (hc : am_Ce k' b b' na) (he : am_ev 75 P n k' b' 0 (am_lcl P k' as) [] h = some r) (hml : P.2.2.1 k' = am_ml k') (ha : as.all am_okv = true) (hn : (am_al as).length ≤ am_ml k') (hh : am_hh k' = [])
    (hm1 : Cond.code (am_Y k') (am_B k') (am_ml k') (am_rt k') ∈ lw_tbl) (hm2 : Cond.static (am_Y k') ∈ lw_tbl) (hm3 : Cond.methodLink (am_Y k).cls i (am_Y k') ∈ lw_tbl ∨ ∃ g, Cond.methodLinkNest (am_Y k).cls i (am_Y k') g ∈ lw_tbl) (hd : decode (am_B k) pc = .ok (.invokestatic i, 3))
    (hst : st = as.reverse ++ rs) (hna : as.length = na) (hwt : am_wt rs ≤ 8) (hfr : b + 8 ≤ R.frames) (hlo : 64 * b + 128 ≤ R.locals) (hrc : am_c r.2 - am_c h0 ≤ R.cells) (hrs : r.2.1.2.2 - h0.1.2.2 ≤ R.slots) (hc0 : am_c h0 ≤ am_c h) (hz0 : h0.1.2.2 ≤ h.1.2.2) (hc1 : am_c h ≤ am_c r.2) (hz1 : h.1.2.2 ≤ r.2.1.2.2) (hv : r.1 = .inl v)
    (K : am_WG S ad fv dC dI k p l e R s m args below meth c h0 Q (pc + 3) ls (v.toList ++ rs) r.2) : am_WG S ad fv dC dI k p l e R s m args below meth c h0 Q pc ls st h := by
  intro H locs lr hr hl hf
  have hM := am_metR (am_met hw.2.2.2.2.2.2 hS he hml ha hn hc.1 hh) hv
  obtain ⟨hts, hG⟩ := am_cw (args := args) hw F hm1 rfl
  refine so_ret hv hl hf hc0 hz0 hc1 hz1 (a := (as.map (am_val ad fv)).toArray) ?_ K
  rcases hm3 with hm3 | ⟨g, hm3⟩
  · exact va_runS (As := as.map (am_val ad fv)) ⟨F.1, F.2.1, F.2.2.1, F.2.2.2.2.1, hts⟩ hM ⟨callB_of na hts hG rfl rfl rfl (am_word hw F hc.2.2.2.1 rfl) (am_word hw F hm3 rfl) ⟨hc.2.1.1, hc.2.1.2, hc.2.2.1⟩ (am_roomC hc hfr hlo), am_word hw F hm2 rfl⟩ ⟨am_Pc_blind, am_preS F hr⟩ rfl (by rw [List.length_map]; exact hna) hl.1 (am_stk_eq hst) (lv_room (by rw [am_cats hw.2.2.2.2.2.2]; exact hwt)) hd ⟨by omega, by omega⟩
  · exact va_runSN (As := as.map (am_val ad fv)) ⟨F.1, F.2.1, F.2.2.1, F.2.2.2.2.1, hts⟩ hM ⟨va_cnB na hts hG rfl rfl rfl (am_nestM hw F hm3) (am_word hw F hc.2.2.2.1 rfl) ⟨hc.2.1.1, hc.2.1.2, hc.2.2.1⟩ (am_roomC hc hfr hlo), am_word hw F hm2 rfl, trivial⟩ ⟨am_Pc_blind, am_preS F hr⟩ rfl (by rw [List.length_map]; exact hna) hl.1 (am_stk_eq hst) (lv_room (by rw [am_cats hw.2.2.2.2.2.2]; exact hwt)) hd ⟨by omega, by omega⟩
theorem so_callSW (hw : am_Wd S A0 ad fv dC dI) (F : am_Fr S k p s m meth c) (hS : am_Sim S ad fv dC dI l P n) {i na : Nat} {v : Option Value} (hc : am_Ce k' b b' na) (he : am_ev 75 P n k' b' 0 (am_lcl P k' as) [] h = some r) (hml : P.2.2.1 k' = am_ml k') (ha : as.all am_okv = true) (hn : (am_al as).length ≤ am_ml k')
    (hm1 : Cond.codeWith (am_Y k') (am_B k') (am_ml k') (am_rt k') (am_hh k') ∈ lw_tbl) (hm2 : Cond.static (am_Y k') ∈ lw_tbl) (hm3 : Cond.methodLink (am_Y k).cls i (am_Y k') ∈ lw_tbl) (hd : decode (am_B k) pc = .ok (.invokestatic i, 3))
    (hst : st = as.reverse ++ rs) (hna : as.length = na) (hwt : am_wt rs ≤ 8) (hfr : b + 8 ≤ R.frames) (hlo : 64 * b + 128 ≤ R.locals) (hrc : am_c r.2 - am_c h0 ≤ R.cells) (hrs : r.2.1.2.2 - h0.1.2.2 ≤ R.slots) (hc0 : am_c h0 ≤ am_c h) (hz0 : h0.1.2.2 ≤ h.1.2.2) (hc1 : am_c h ≤ am_c r.2) (hz1 : h.1.2.2 ≤ r.2.1.2.2) (hv : r.1 = .inl v)
    (K : am_WG S ad fv dC dI k p l e R s m args below meth c h0 Q (pc + 3) ls (v.toList ++ rs) r.2) : am_WG S ad fv dC dI k p l e R s m args below meth c h0 Q pc ls st h := by
  intro H locs lr hr hl hf
  have hM := am_metR (am_metH hw.2.2.2.2.2.2 hS he hml ha hn hc.1) hv
  obtain ⟨hts, hG⟩ := am_cw (args := args) hw F hm1 rfl
  refine so_ret hv hl hf hc0 hz0 hc1 hz1 (a := (as.map (am_val ad fv)).toArray) ?_ K
  refine vx_runSW (n := na) (As := as.map (am_val ad fv)) ⟨F.1, F.2.1, F.2.2.1, F.2.2.2.2.1, hts⟩ hM ⟨⟨rfl, rfl, (am_roomC hc hfr hlo).1, (am_roomC hc hfr hlo).2, pay_in hts hG, List.mem_cons_self⟩, hts _ List.mem_cons_self, am_word hw F hc.2.2.2.1 rfl, hc.2.1, fun sig hsig => ?_, am_word hw F hm3 rfl, am_word hw F hm2 rfl⟩ ⟨am_Pc_blind, am_preS F hr⟩ rfl (by rw [List.length_map]; exact hna) hl.1 (am_stk_eq hst) (lv_room (by rw [am_cats hw.2.2.2.2.2.2]; exact hwt)) hd ⟨by omega, by omega⟩
  have h2 := hc.2.2.1
  rw [hsig] at h2
  exact (Option.some.inj h2).symm
theorem so_callSx (hw : am_Wd S A0 ad fv dC dI) (F : am_Fr S k p s m meth c) (hS : am_Sim S ad fv dC dI l P n) {i na x : Nat} (hc : am_Ce k' b b' na) (he : am_ev 75 P n k' b' 0 (am_lcl P k' as) [] h = some r) (hml : P.2.2.1 k' = am_ml k') (ha : as.all am_okv = true) (hn : (am_al as).length ≤ am_ml k') (hh : am_hh k' = [])
    (hm1 : Cond.code (am_Y k') (am_B k') (am_ml k') (am_rt k') ∈ lw_tbl) (hm2 : Cond.static (am_Y k') ∈ lw_tbl) (hm3 : Cond.methodLink (am_Y k).cls i (am_Y k') ∈ lw_tbl) (hd : decode (am_B k) pc = .ok (.invokestatic i, 3))
    (hst : st = as.reverse ++ rs) (hna : as.length = na) (hwt : am_wt rs ≤ 8) (hfr : b + 8 ≤ R.frames) (hlo : 64 * b + 128 ≤ R.locals) (hrc : am_c r.2 - am_c h0 ≤ R.cells) (hrs : r.2.1.2.2 - h0.1.2.2 ≤ R.slots) (hc0 : am_c h0 ≤ am_c h) (hz0 : h0.1.2.2 ≤ h.1.2.2) (hc1 : am_c h ≤ am_c r.2) (hz1 : h.1.2.2 ≤ r.2.1.2.2) (hv : r.1 = .inr x)
    (K : ∀ (H' : Heap) (locs' : List Loc) (lr : Array Slot) (q : Addr) (ce : Cell), am_LR ad fv (am_ml k) ls lr → am_HR S ad fv dC dI r.2 H' → (∀ q ∈ locs', S.heap.size ≤ q.base) → H'[q]? = some ce → ce.vm = .none → s.vm.findClass (am_EN x) = some ce.cls → vx_W p l e R s m args below meth c H' locs' (am_c r.2 - am_c h0) (r.2.1.2.2 - h0.1.2.2) Q (F0 m pc lr (rs.map (am_val ad fv))) q) : am_WG S ad fv dC dI k p l e R s m args below meth c h0 Q pc ls st h := by
  intro H locs lr hr hl hf
  have hM := am_met hw.2.2.2.2.2.2 hS he hml ha hn hc.1 hh
  obtain ⟨hts, hG⟩ := am_cw (args := args) hw F hm1 rfl
  refine so_thr hv hf hc0 hz0 hc1 hz1 (a := (as.map (am_val ad fv)).toArray) ?_ (fun H' locs' q ce h1 h2 h3 h4 h5 => K H' locs' lr q ce hl h1 h2 h3 h4 h5)
  exact vx_runS (As := as.map (am_val ad fv)) ⟨F.1, F.2.1, F.2.2.1, F.2.2.2.2.1, hts⟩ hM ⟨callB_of na hts hG rfl rfl rfl (am_word hw F hc.2.2.2.1 rfl) (am_word hw F hm3 rfl) ⟨hc.2.1.1, hc.2.1.2, hc.2.2.1⟩ (am_roomC hc hfr hlo), am_word hw F hm2 rfl⟩ ⟨am_Pc_blind, am_preS F hr⟩ rfl (by rw [List.length_map]; exact hna) hl.1 (am_stk_eq hst) (lv_room (by rw [am_cats hw.2.2.2.2.2.2]; exact hwt)) hd ⟨by omega, by omega⟩
theorem so_callV (hw : am_Wd S A0 ad fv dC dI) (F : am_Fr S k p s m meth c) (hS : am_Sim S ad fv dC dI l P n) {i na o a : Nat} {v : Option Value} (hc : am_Ce k' b b' na) (he : am_ev 75 P n k' b' 0 (am_lcl P k' (.ref o :: as)) [] h = some r) (hml : P.2.2.1 k' = am_ml k') (ha : (Value.ref o :: as).all am_okv = true) (hn : (am_al (.ref o :: as)).length ≤ am_ml k') (hh : am_hh k' = [])
    (hm1 : Cond.code (am_Y k') (am_B k') (am_ml k') (am_rt k') ∈ lw_tbl) (hm2 : Cond.instanceMethod (am_Y k') ∈ lw_tbl) (hm4 : Cond.selects (am_Y k').cls (am_Y k') (am_Y k') ∈ lw_tbl) (hm3 : Cond.methodLink (am_Y k).cls i (am_Y k') ∈ lw_tbl ∨ ∃ g, Cond.methodLinkNest (am_Y k).cls i (am_Y k') g ∈ lw_tbl) (hd : decode (am_B k) pc = .ok (.invokevirtual i, 3))
    (ho : (h.2.1 o).1 = a) (ha13 : a < 13) (hCN : am_CN a = (am_Y k').cls)
    (hst : st = (.ref o :: as).reverse ++ rs) (hna : as.length = na) (hwt : am_wt rs ≤ 8) (hfr : b + 8 ≤ R.frames) (hlo : 64 * b + 128 ≤ R.locals) (hrc : am_c r.2 - am_c h0 ≤ R.cells) (hrs : r.2.1.2.2 - h0.1.2.2 ≤ R.slots) (hc0 : am_c h0 ≤ am_c h) (hz0 : h0.1.2.2 ≤ h.1.2.2) (hc1 : am_c h ≤ am_c r.2) (hz1 : h.1.2.2 ≤ r.2.1.2.2) (hv : r.1 = .inl v)
    (K : am_WG S ad fv dC dI k p l e R s m args below meth c h0 Q (pc + 3) ls (v.toList ++ rs) r.2) : am_WG S ad fv dC dI k p l e R s m args below meth c h0 Q pc ls st h := by
  intro H locs lr hr hl hf
  have hM := am_metR (am_met hw.2.2.2.2.2.2 hS he hml ha hn hc.1 hh) hv
  obtain ⟨hts, hG⟩ := am_cw (args := args) hw F hm1 rfl
  obtain ⟨hof, hcell⟩ := am_recvC hw F hr ha13 hCN ho
  have hpre : ∀ U : State, U.heap = H → s.WarmedH U.vm → am_Pc S ad fv dC dI (.ref o :: as) h (Value.ref (ad o) :: as.map (am_val ad fv)).toArray U := by
    intro U hU hW
    have := am_preS F hr (as := .ref o :: as) U hU hW
    rw [List.map_cons, am_val_ref hof] at this
    exact this
  refine so_ret hv hl hf hc0 hz0 hc1 hz1 (a := (Value.ref (ad o) :: as.map (am_val ad fv)).toArray) ?_ K
  rcases hm3 with hm3 | ⟨g, hm3⟩
  · exact va_runV (As := as.map (am_val ad fv)) (C := (am_Y k').cls) ⟨F.1, F.2.1, F.2.2.1, F.2.2.2.2.1, hts⟩ hM ⟨callB_of na hts hG rfl rfl rfl (am_word hw F hc.2.2.2.1 rfl) (am_word hw F hm3 rfl) ⟨hc.2.1.1, hc.2.1.2, hc.2.2.1⟩ (am_roomC hc hfr hlo), am_word hw F hm2 rfl, am_word hw F hm4 rfl⟩ ⟨am_Pc_blind, hcell, hpre⟩ rfl (by rw [List.length_map]; exact hna) hl.1 (am_stk_eqV hof hst) (lv_room (by rw [am_cats hw.2.2.2.2.2.2]; exact hwt)) hd ⟨by omega, by omega⟩
  · exact va_runVN (As := as.map (am_val ad fv)) (C := (am_Y k').cls) ⟨F.1, F.2.1, F.2.2.1, F.2.2.2.2.1, hts⟩ hM ⟨va_cnB na hts hG rfl rfl rfl (am_nestM hw F hm3) (am_word hw F hc.2.2.2.1 rfl) ⟨hc.2.1.1, hc.2.1.2, hc.2.2.1⟩ (am_roomC hc hfr hlo), am_word hw F hm2 rfl, am_word hw F hm4 rfl⟩ ⟨am_Pc_blind, hcell, hpre⟩ rfl (by rw [List.length_map]; exact hna) hl.1 (am_stk_eqV hof hst) (lv_room (by rw [am_cats hw.2.2.2.2.2.2]; exact hwt)) hd ⟨by omega, by omega⟩
theorem so_callVx (hw : am_Wd S A0 ad fv dC dI) (F : am_Fr S k p s m meth c) (hS : am_Sim S ad fv dC dI l P n) {i na o a x : Nat} (hc : am_Ce k' b b' na) (he : am_ev 75 P n k' b' 0 (am_lcl P k' (.ref o :: as)) [] h = some r) (hml : P.2.2.1 k' = am_ml k') (ha : (Value.ref o :: as).all am_okv = true) (hn : (am_al (.ref o :: as)).length ≤ am_ml k') (hh : am_hh k' = [])
    (hm1 : Cond.code (am_Y k') (am_B k') (am_ml k') (am_rt k') ∈ lw_tbl) (hm2 : Cond.instanceMethod (am_Y k') ∈ lw_tbl) (hm4 : Cond.selects (am_Y k').cls (am_Y k') (am_Y k') ∈ lw_tbl) (hm3 : Cond.methodLink (am_Y k).cls i (am_Y k') ∈ lw_tbl) (hd : decode (am_B k) pc = .ok (.invokevirtual i, 3))
    (ho : (h.2.1 o).1 = a) (ha13 : a < 13) (hCN : am_CN a = (am_Y k').cls)
    (hst : st = (.ref o :: as).reverse ++ rs) (hna : as.length = na) (hwt : am_wt rs ≤ 8) (hfr : b + 8 ≤ R.frames) (hlo : 64 * b + 128 ≤ R.locals) (hrc : am_c r.2 - am_c h0 ≤ R.cells) (hrs : r.2.1.2.2 - h0.1.2.2 ≤ R.slots) (hc0 : am_c h0 ≤ am_c h) (hz0 : h0.1.2.2 ≤ h.1.2.2) (hc1 : am_c h ≤ am_c r.2) (hz1 : h.1.2.2 ≤ r.2.1.2.2) (hv : r.1 = .inr x)
    (K : ∀ (H' : Heap) (locs' : List Loc) (lr : Array Slot) (q : Addr) (ce : Cell), am_LR ad fv (am_ml k) ls lr → am_HR S ad fv dC dI r.2 H' → (∀ q ∈ locs', S.heap.size ≤ q.base) → H'[q]? = some ce → ce.vm = .none → s.vm.findClass (am_EN x) = some ce.cls → vx_W p l e R s m args below meth c H' locs' (am_c r.2 - am_c h0) (r.2.1.2.2 - h0.1.2.2) Q (F0 m pc lr (rs.map (am_val ad fv))) q) : am_WG S ad fv dC dI k p l e R s m args below meth c h0 Q pc ls st h := by
  intro H locs lr hr hl hf
  have hM := am_met hw.2.2.2.2.2.2 hS he hml ha hn hc.1 hh
  obtain ⟨hts, hG⟩ := am_cw (args := args) hw F hm1 rfl
  obtain ⟨hof, hcell⟩ := am_recvC hw F hr ha13 hCN ho
  have hpre : ∀ U : State, U.heap = H → s.WarmedH U.vm → am_Pc S ad fv dC dI (.ref o :: as) h (Value.ref (ad o) :: as.map (am_val ad fv)).toArray U := by
    intro U hU hW
    have := am_preS F hr (as := .ref o :: as) U hU hW
    rw [List.map_cons, am_val_ref hof] at this
    exact this
  refine so_thr hv hf hc0 hz0 hc1 hz1 (a := (Value.ref (ad o) :: as.map (am_val ad fv)).toArray) ?_ (fun H' locs' q ce h1 h2 h3 h4 h5 => K H' locs' lr q ce hl h1 h2 h3 h4 h5)
  exact vx_runV (As := as.map (am_val ad fv)) (C := (am_Y k').cls) ⟨F.1, F.2.1, F.2.2.1, F.2.2.2.2.1, hts⟩ hM ⟨callB_of na hts hG rfl rfl rfl (am_word hw F hc.2.2.2.1 rfl) (am_word hw F hm3 rfl) ⟨hc.2.1.1, hc.2.1.2, hc.2.2.1⟩ (am_roomC hc hfr hlo), am_word hw F hm2 rfl, am_word hw F hm4 rfl⟩ ⟨am_Pc_blind, hcell, hpre⟩ rfl (by rw [List.length_map]; exact hna) hl.1 (am_stk_eqV hof hst) (lv_room (by rw [am_cats hw.2.2.2.2.2.2]; exact hwt)) hd ⟨by omega, by omega⟩
theorem so_callI (hw : am_Wd S A0 ad fv dC dI) (F : am_Fr S k p s m meth c) (hS : am_Sim S ad fv dC dI l P n) {i na o : Nat} {v : Option Value} (hc : am_Ce k' b b' na) (he : am_ev 75 P n k' b' 0 (am_lcl P k' (.ref o :: as)) [] h = some r) (hml : P.2.2.1 k' = am_ml k') (ha : (Value.ref o :: as).all am_okv = true) (hn : (am_al (.ref o :: as)).length ≤ am_ml k') (hh : am_hh k' = [])
    (hm1 : Cond.code (am_Y k') (am_B k') (am_ml k') (am_rt k') ∈ lw_tbl) (hrt : am_rt k' = none) (hni : (am_Y k').name = "<init>") (hm2 : Cond.instanceMethod (am_Y k') ∈ lw_tbl) (hm3 : Cond.methodLink (am_Y k).cls i (am_Y k') ∈ lw_tbl ∨ ∃ g, Cond.methodLinkNest (am_Y k).cls i (am_Y k') g ∈ lw_tbl) (hd : decode (am_B k) pc = .ok (.invokespecial i, 3)) (hof : o ≠ am_fm)
    (hst : st = (.ref o :: as).reverse ++ rs) (hna : as.length = na) (hwt : am_wt rs ≤ 8) (hfr : b + 8 ≤ R.frames) (hlo : 64 * b + 128 ≤ R.locals) (hrc : am_c r.2 - am_c h0 ≤ R.cells) (hrs : r.2.1.2.2 - h0.1.2.2 ≤ R.slots) (hc0 : am_c h0 ≤ am_c h) (hz0 : h0.1.2.2 ≤ h.1.2.2) (hc1 : am_c h ≤ am_c r.2) (hz1 : h.1.2.2 ≤ r.2.1.2.2) (hv : r.1 = .inl v)
    (K : am_WG S ad fv dC dI k p l e R s m args below meth c h0 Q (pc + 3) ls (v.toList ++ rs) r.2) : am_WG S ad fv dC dI k p l e R s m args below meth c h0 Q pc ls st h := by
  intro H locs lr hr hl hf
  have hM := am_metR (am_met hw.2.2.2.2.2.2 hS he hml ha hn hc.1 hh) hv
  rw [hrt] at hM hm1
  obtain ⟨hts, hG⟩ := am_cw (args := args) hw F hm1 rfl
  have hpre : ∀ U : State, U.heap = H → s.WarmedH U.vm → am_Pc S ad fv dC dI (.ref o :: as) h (Value.ref (ad o) :: as.map (am_val ad fv)).toArray U := by
    intro U hU hW
    have := am_preS F hr (as := .ref o :: as) U hU hW
    rw [List.map_cons, am_val_ref hof] at this
    exact this
  refine so_ret hv hl hf hc0 hz0 hc1 hz1 (a := (Value.ref (ad o) :: as.map (am_val ad fv)).toArray) ?_ K
  rcases hm3 with hm3 | ⟨g, hm3⟩
  · exact va_runI (As := as.map (am_val ad fv)) ⟨F.1, F.2.1, F.2.2.1, F.2.2.2.2.1, hts⟩ hM ⟨callB_of na hts hG rfl rfl rfl (am_word hw F hc.2.2.2.1 rfl) (am_word hw F hm3 rfl) ⟨hc.2.1.1, hc.2.1.2, hc.2.2.1⟩ (am_roomC hc hfr hlo), hni, am_word hw F hm2 rfl⟩ ⟨am_Pc_blind, hpre⟩ rfl (by rw [List.length_map]; exact hna) hl.1 (am_stk_eqV hof hst) (lv_room (by rw [am_cats hw.2.2.2.2.2.2]; exact hwt)) hd ⟨by omega, by omega⟩
  · exact va_runIN (As := as.map (am_val ad fv)) ⟨F.1, F.2.1, F.2.2.1, F.2.2.2.2.1, hts⟩ hM ⟨va_cnB na hts hG rfl rfl rfl (am_nestM hw F hm3) (am_word hw F hc.2.2.2.1 rfl) ⟨hc.2.1.1, hc.2.1.2, hc.2.2.1⟩ (am_roomC hc hfr hlo), hni, am_word hw F hm2 rfl⟩ ⟨am_Pc_blind, hpre⟩ rfl (by rw [List.length_map]; exact hna) hl.1 (am_stk_eqV hof hst) (lv_room (by rw [am_cats hw.2.2.2.2.2.2]; exact hwt)) hd ⟨by omega, by omega⟩
end
end AMD
