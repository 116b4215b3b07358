/-! calls: a method's contract out of its abstract run; the call of it -/
section AMC
variable {S : State} {A0 : Array Value} {ad : Nat → Nat} {fv : Value} {dC : Nat → ClassId} {dI : Nat → Nat → Nat}
theorem am_al_len (hv : fv = .null ∨ ∃ a, fv = .ref a) : ∀ as : List Value, as.all am_okv = true → (lg_sl (as.map (am_val ad fv))).length = (am_al as).length
  | [], _ => rfl
  | v :: r, h => by
    rw [List.all_cons, Bool.and_eq_true] at h
    have ih := am_al_len hv r h.2
    unfold lg_sl at ih ⊢
    rw [List.map_cons, List.flatMap_cons, List.length_append, ih]
    cases v with
    | int x => simp only [am_val, am_al, Value.category]; simp; omega
    | long x => simp only [am_val, am_al, Value.category]; simp; omega
    | ref i =>
      rw [if_neg (by rw [am_val_cat hv]; show ¬ (1 : Nat) = 2; decide)]
      simp only [am_al, List.length_cons, List.length_nil]
      omega
    | _ => cases h.1
theorem am_al_args (hv : fv = .null ∨ ∃ a, fv = .ref a) : ∀ (as : List Value) (j i : Nat) (v : Value), as.all am_okv = true → (am_al as)[i]? = some v → v ≠ am_u → (j + i, am_val ad fv v) ∈ lv_args j (as.map (am_val ad fv))
  | [], _, _, _, _, h, _ => by cases h
  | w :: r, j, i, v, ha, h, hu => by
    rw [List.all_cons, Bool.and_eq_true] at ha
    rw [List.map_cons]
    unfold lv_args
    have one : (am_al (w :: r) = w :: am_al r) → w.category = 1 → (j + i, am_val ad fv v) ∈ (j, am_val ad fv w) :: lv_args (if (am_val ad fv w).category = 2 then j + 2 else j + 1) (r.map (am_val ad fv)) := by
      intro e1 e2
      rw [e1] at h
      cases i with
      | zero =>
        cases h
        exact List.mem_cons_self
      | succ i =>
        rw [List.getElem?_cons_succ] at h
        rw [if_neg (by rw [am_val_cat hv, e2]; decide)]
        have := am_al_args hv r (j + 1) i v ha.2 h hu
        rw [show j + 1 + i = j + (i + 1) by omega] at this
        exact List.mem_cons_of_mem _ this
    cases w with
    | int x => exact one rfl rfl
    | ref x => exact one rfl rfl
    | long x =>
      have e1 : am_al (.long x :: r) = .long x :: am_u :: am_al r := rfl
      rw [e1] at h
      match i, h with
      | 0, h => cases h; exact List.mem_cons_self
      | 1, h => cases h; exact absurd rfl hu
      | i + 2, h =>
        rw [List.getElem?_cons_succ, List.getElem?_cons_succ] at h
        rw [if_pos (by rw [am_val_cat hv]; rfl)]
        have := am_al_args hv r (j + 2) i v ha.2 h hu
        rw [show j + 2 + i = j + (i + 2) by omega] at this
        exact List.mem_cons_of_mem _ this
    | _ => cases ha.1
theorem am_LR_entry (hv : fv = .null ∨ ∃ a, fv = .ref a) {n : Nat} {as : List Value} {lr : Array Slot} (ha : as.all am_okv = true) (hn : (am_al as).length ≤ n) (h : lv_has lr n (lv_args 0 (as.map (am_val ad fv)))) : am_LR ad fv n (am_pad n (am_al as)) lr := by
  refine ⟨h.1, h.2.1, by unfold am_pad; rw [List.length_append, List.length_replicate]; omega, fun i v hi hu => ?_⟩
  unfold am_pad at hi
  by_cases hl : i < (am_al as).length
  · rw [List.getElem?_append_left hl] at hi
    have := h.2.2 _ (am_al_args hv as 0 i v ha hi hu)
    rw [Nat.zero_add] at this
    exact this
  · rw [List.getElem?_append_right (by omega)] at hi
    have := List.mem_replicate.mp (List.mem_of_getElem? hi)
    exact absurd this.2 hu
/-- the start of a contract: abstract arguments, abstract heap -/
def am_Pc (S : State) (ad : Nat → Nat) (fv : Value) (dC : Nat → ClassId) (dI : Nat → Nat → Nat) (as : List Value) (h : am_H) : Array Value → State → Prop := fun a U => a = (as.map (am_val ad fv)).toArray ∧ S.WarmedH U.vm ∧ S.heap.size ≤ U.heap.size ∧ am_HR S ad fv dC dI h U.heap
theorem am_Pc_blind {as : List Value} {h : am_H} : FrameBlind (am_Pc S ad fv dC dI as h) := fun _ _ _ _ q => q
def am_rm (b mc ms : Nat) : Room := { frames := b + 8, cells := mc, slots := ms, locals := 64 * b + 128 }
/-- the walk of every method's body, as far as n steps of the abstract machine go -/
def am_Sim (S : State) (ad : Nat → Nat) (fv : Value) (dC : Nat → ClassId) (dI : Nat → Nat → Nat) (l : Launch) (P : am_P) (n : Nat) : Prop :=
  ∀ (k b pc : Nat) (ls st : List Value) (h : am_H) (r : am_Res), am_ev 75 P n k b pc ls st h = some r → ∀ (p : Program) (e : Env) (R : Room) (s : State) (m : MethodId) (args : Array Value) (below : List Frame) (meth : Method) (c : Code) (h0 : am_H),
    am_Fr S k p s m meth c → b + 8 ≤ R.frames → 64 * b + 128 ≤ R.locals → am_c r.2 - am_c h0 ≤ R.cells → r.2.1.2.2 - h0.1.2.2 ≤ R.slots → am_c h0 ≤ am_c h → h0.1.2.2 ≤ h.1.2.2 →
    am_WG S ad fv dC dI k p l e R s m args below meth c h0 (am_Z S ad fv dC dI below args s h0 r) pc ls st h
theorem am_body {l : Launch} {P : am_P} {n : Nat} (hv : fv = .null ∨ ∃ a, fv = .ref a) (hS : am_Sim S ad fv dC dI l P n) {k b : Nat} {as : List Value} {h : am_H} {r : am_Res} (he : am_ev 75 P n k b 0 (am_lcl P k as) [] h = some r) (hml : P.2.2.1 k = am_ml k) (ha : as.all am_okv = true) (hn : (am_al as).length ≤ am_ml k)
    {p : Program} {e : Env} {s : State} {m : MethodId} {args : Array Value} {below : List Frame} {meth : Method} {c : Code} (F : am_Fr S k p s m meth c) (hp : am_Pc S ad fv dC dI as h args s) :
    W p l e (am_rm b (am_c r.2 - am_c h) (r.2.1.2.2 - h.1.2.2)) s m args below meth c s.heap [] 0 0 (vx_MQ below (am_Qc S ad fv dC dI r) (am_XC S ad fv dC dI r) args s (am_c r.2 - am_c h) (r.2.1.2.2 - h.1.2.2) (am_fr S)) (entryFrame m args (am_ml k)) := by
  obtain ⟨rfl, hW, hz, hr⟩ := hp
  have hl := lv_entry (as.map (am_val ad fv)) (n := am_ml k) (by rw [am_al_len hv as ha]; exact hn)
  rw [lg_entry_eq]
  have := hS k b 0 _ [] h r he p e (am_rm b (am_c r.2 - am_c h) (r.2.1.2.2 - h.1.2.2)) s m ((as.map (am_val ad fv)).toArray) below meth c h F (Nat.le_refl _) (Nat.le_refl _) (Nat.le_refl _) (Nat.le_refl _) (Nat.le_refl _) (Nat.le_refl _) s.heap [] _ hr (by unfold am_lcl; rw [hml]; exact am_LR_entry hv ha hn hl) (fun q hq => nomatch hq)
  rw [Nat.sub_self, Nat.sub_self] at this
  exact this
/-- the contract of a method without handlers -/
theorem am_met {l : Launch} {P : am_P} {n : Nat} (hv : fv = .null ∨ ∃ a, fv = .ref a) (hS : am_Sim S ad fv dC dI l P n) {k b : Nat} {as : List Value} {h : am_H} {r : am_Res} (he : am_ev 75 P n k b 0 (am_lcl P k as) [] h = some r) (hml : P.2.2.1 k = am_ml k) (ha : as.all am_okv = true) (hn : (am_al as).length ≤ am_ml k) (hy : am_pf k = true) (hh : am_hh k = []) :
    vx_Met l (am_Y k) [Cond.code (am_Y k) (am_B k) (am_ml k) (am_rt k)] (am_rm b (am_c r.2 - am_c h) (r.2.1.2.2 - h.1.2.2)) (am_Pc S ad fv dC dI as h) (am_Qc S ad fv dC dI r) (am_XC S ad fv dC dI r) (am_c r.2 - am_c h) (r.2.1.2.2 - h.1.2.2) (am_fr S) := by
  refine am_ofW (am_pf_ok hy) rfl ?_
  intro p e s m args below meth c s₁ B hml' htab hp
  have F : am_Fr S k p s m meth c := by
    obtain ⟨-, hW, hz, hr⟩ := id hp
    refine ⟨B.exec, B.bytes, hml', B.returns, findClass_of_methodNamed B.named, hW, B.notSynchronized, (name_of_methodNamed B.named B.method).1, ?_, hz, hr.1⟩
    rw [hh]
    exact List.eq_nil_iff_forall_not_mem.mpr htab
  exact am_body hv hS he hml ha hn F hp
/-- .. with handlers -/
theorem am_metH {l : Launch} {P : am_P} {n : Nat} (hv : fv = .null ∨ ∃ a, fv = .ref a) (hS : am_Sim S ad fv dC dI l P n) {k b : Nat} {as : List Value} {h : am_H} {r : am_Res} (he : am_ev 75 P n k b 0 (am_lcl P k as) [] h = some r) (hml : P.2.2.1 k = am_ml k) (ha : as.all am_okv = true) (hn : (am_al as).length ≤ am_ml k) (hy : am_pf k = true) :
    vx_Met l (am_Y k) [Cond.codeWith (am_Y k) (am_B k) (am_ml k) (am_rt k) (am_hh k)] (am_rm b (am_c r.2 - am_c h) (r.2.1.2.2 - h.1.2.2)) (am_Pc S ad fv dC dI as h) (am_Qc S ad fv dC dI r) (am_XC S ad fv dC dI r) (am_c r.2 - am_c h) (r.2.1.2.2 - h.1.2.2) (am_fr S) := by
  refine am_ofWH (am_pf_ok hy) rfl ?_
  intro p e s m args below meth c s₁ B hml' hp
  have F : am_Fr S k p s m meth c := by
    obtain ⟨-, hW, hz, hr⟩ := id hp
    refine ⟨B.exec, B.bytes, hml', B.returns, findClass_of_methodNamed B.named, hW, B.notSynchronized, (name_of_methodNamed B.named B.method).1, ?_, hz, hr.1⟩
    exact vx_table (x := am_Y k) B (atoms_spec (ws := [Cond.codeWith (am_Y k) (am_B k) (am_ml k) (am_rt k) (am_hh k)]) B.pre _ List.mem_cons_self)
  exact am_body hv hS he hml ha hn F hp
/-- what has returned hasn't thrown -/
theorem am_metR {l : Launch} {y : MethodName} {ws : List Cond} {rm : Room} {Pc : Array Value → State → Prop} {mc ms : Nat} {free : Addr → Prop} {r : am_Res} {v : Option Value} (h : vx_Met l y ws rm Pc (am_Qc S ad fv dC dI r) (am_XC S ad fv dC dI r) mc ms free) (hv : r.1 = .inl v) : Met l y ws rm Pc (am_Qc S ad fv dC dI r) mc ms free := by
  refine MetFree.mono h (fun _ _ q => q) (fun _ _ _ _ _ q => q) ?_
  intro a s o t _ hq
  rcases hq with hq | ⟨q, -, E, ce, L, ⟨n, hn, -⟩, -⟩
  · exact hq
  · rw [hv] at hn
    cases hn
end AMC
section AMC2
variable {S : State} {A0 : Array Value} {ad : Nat → Nat} {fv : Value} {dC : Nat → ClassId} {dI : Nat → Nat → Nat} {p : Program} {l : Launch} {e : Env} {R : Room} {s : State} {m : MethodId} {args : Array Value} {below : List Frame} {meth : Method} {c : Code} {k : Nat} {h0 : am_H} {Q : State → Prop}
variable {pc : Nat} {ls st : List Value} {h : am_H}
/-- behind a call that has returned -/
theorem so_ret {H : Heap} {locs : List Loc} {lr : Array Slot} {rs : List Value} {r : am_Res} {v : Option Value} {st0 : List Value} {a : Array Value} (hv : r.1 = .inl v) (hl : am_LR ad fv (am_ml k) ls lr) (hf : ∀ q ∈ locs, S.heap.size ≤ q.base) (hc : am_c h0 ≤ am_c h) (hz : h0.1.2.2 ≤ h.1.2.2) (hc1 : am_c h ≤ am_c r.2) (hz1 : h.1.2.2 ≤ r.2.1.2.2)
    (hr : va_Run p l e R s m args below meth c H locs (am_c h - am_c h0) (h.1.2.2 - h0.1.2.2) (am_c r.2 - am_c h) (r.2.1.2.2 - h.1.2.2) (F0 m pc lr st0) (rs.map (am_val ad fv)) (am_Qc S ad fv dC dI r a) (am_fr S))
    (K : am_WG S ad fv dC dI k p l e R s m args below meth c h0 Q (pc + 3) ls (v.toList ++ rs) r.2) : W p l e R s m args below meth c H locs (am_c h - am_c h0) (h.1.2.2 - h0.1.2.2) Q (F0 m pc lr st0) := by
  intro T hT X
  obtain ⟨v', st₀, t, T', L, h0', X', hL, e1, e2, ⟨w, hw, ho, hr'⟩, st⟩ := hr T hT X
  cases hv.symm.trans hw
  cases ho
  have K' := K t.heap (locs ++ L) lr hr' hl (fun q hq => by
    rcases List.mem_append.mp hq with z | z
    · exact hf q z
    · exact hL q z)
  rw [show am_c h - am_c h0 + (am_c r.2 - am_c h) = am_c r.2 - am_c h0 by omega, show h.1.2.2 - h0.1.2.2 + (r.2.1.2.2 - h.1.2.2) = r.2.1.2.2 - h0.1.2.2 by omega] at X'
  obtain ⟨t2, a1, b1⟩ := K' T' e1 X'
  refine ⟨t2, st t2 ?_, b1⟩
  have : (v.map (am_val ad fv)).toList ++ rs.map (am_val ad fv) = (v.toList ++ rs).map (am_val ad fv) := by cases v <;> rfl
  rw [this]
  exact a1
/-- behind a call that may have thrown, and has: from there on -/
theorem so_thr {H : Heap} {locs : List Loc} {lr : Array Slot} {rs : List Value} {r : am_Res} {n : Nat} {st0 : List Value} {a : Array Value} (hv : r.1 = .inr n) (hf : ∀ q ∈ locs, S.heap.size ≤ q.base) (hc : am_c h0 ≤ am_c h) (hz : h0.1.2.2 ≤ h.1.2.2) (hc1 : am_c h ≤ am_c r.2) (hz1 : h.1.2.2 ≤ r.2.1.2.2)
    (hr : vx_Run p l e R s m args below meth c H locs (am_c h - am_c h0) (h.1.2.2 - h0.1.2.2) (am_c r.2 - am_c h) (r.2.1.2.2 - h.1.2.2) (F0 m pc lr st0) (rs.map (am_val ad fv)) (am_Qc S ad fv dC dI r a) (am_XC S ad fv dC dI r) (am_fr S))
    (K : ∀ (H' : Heap) (locs' : List Loc) (q : Addr) (ce : Cell), am_HR S ad fv dC dI r.2 H' → (∀ q ∈ locs', S.heap.size ≤ q.base) → H'[q]? = some ce → ce.vm = .none → s.vm.findClass (am_EN n) = some ce.cls → vx_W p l e R s m args below meth c H' locs' (am_c r.2 - am_c h0) (r.2.1.2.2 - h0.1.2.2) Q (F0 m pc lr (rs.map (am_val ad fv))) q) :
    W p l e R s m args below meth c H locs (am_c h - am_c h0) (h.1.2.2 - h0.1.2.2) Q (F0 m pc lr st0) := by
  intro T hT X
  rcases hr T hT X with ⟨v', st₀, t, T', L, h0', X', hL, e1, e2, ⟨w, hw, -⟩, -⟩ | ⟨q, st₀, t, T', L, E, ce, h0', X', hL, e1, e2, ⟨n', hn', hE, hr'⟩, hce, hcv, hcl, st⟩
  · rw [hv] at hw
    cases hw
  · cases hv.symm.trans hn'
    subst hE
    rw [show am_c h - am_c h0 + (am_c r.2 - am_c h) = am_c r.2 - am_c h0 by omega, show h.1.2.2 - h0.1.2.2 + (r.2.1.2.2 - h.1.2.2) = r.2.1.2.2 - h0.1.2.2 by omega] at X'
    obtain ⟨t2, a1, b1⟩ := K t.heap (locs ++ L) q ce hr' (fun z hz => by
      rcases List.mem_append.mp hz with y | y
      · exact hf z y
      · exact hL z y) hce hcv hcl T' e1 X'
    exact ⟨t2, st.trans a1, b1⟩
end AMC2
