/-! steps: ends, Object's constructor, statics, throws -/
/-- statics, strings and exceptions at the law's start -/
def am_We (S : State) (ad : Nat → Nat) (fv : Value) (l : Launch) : Prop :=
  (∀ t, 1 ≤ t → t < 18 → va_Z (am_sT t).1 (am_sT t).2.1 (am_sT t).2.2.1 (am_val ad fv (am_sT t).2.2.2) (fun q => S.heap.size ≤ q) S S.heap) ∧
  (∀ q ∈ am_sQ, vk_R (am_sI q).1 (am_sI q).2.1 (am_sI q).2.2 (ad q) S) ∧ (∀ i ∈ am_sE, ∃ sa, vk_R "AlmondCabinet" i (am_sM i) sa S) ∧
  vx_Zq Bundle.tN "UNASSIGNED_STACK" Bundle.steD (fun q => S.heap.size ≤ q) S S.heap ∧ vx_Zq Bundle.tN "SUPPRESSED_SENTINEL" Bundle.listD (fun q => S.heap.size ≤ q) S S.heap ∧
  va_Nc "java/lang/IllegalArgumentException" "java/util/NoSuchElementException" S ∧ l.stackTraces = false
def am_Qc (S : State) (ad : Nat → Nat) (fv : Value) (dC : Nat → ClassId) (dI : Nat → Nat → Nat) (r : am_Res) : Array Value → State → Outcome → State → Prop := fun _ _ o t => ∃ v, r.1 = .inl v ∧ o = .returned (v.map (am_val ad fv)) ∧ am_HR S ad fv dC dI r.2 t.heap
def am_XC (S : State) (ad : Nat → Nat) (fv : Value) (dC : Nat → ClassId) (dI : Nat → Nat → Nat) (r : am_Res) : String → State → State → Prop := fun E _ t => ∃ n, r.1 = .inr n ∧ E = am_EN n ∧ am_HR S ad fv dC dI r.2 t.heap
def am_fr (S : State) : Addr → Prop := fun q => S.heap.size ≤ q
def am_Z (S : State) (ad : Nat → Nat) (fv : Value) (dC : Nat → ClassId) (dI : Nat → Nat → Nat) (below : List Frame) (args : Array Value) (s : State) (h0 : am_H) (r : am_Res) : State → Prop :=
  vx_MQ below (am_Qc S ad fv dC dI r) (am_XC S ad fv dC dI r) args s (am_c r.2 - am_c h0) (r.2.1.2.2 - h0.1.2.2) (am_fr S)
section AMO6
variable {S : State} {A0 : Array Value} {ad : Nat → Nat} {fv : Value} {dC : Nat → ClassId} {dI : Nat → Nat → Nat} {p : Program} {l : Launch} {e : Env} {R : Room} {s : State} {m : MethodId} {args : Array Value} {below : List Frame} {meth : Method} {c : Code} {k : Nat} {h0 : am_H} {Q : State → Prop}
variable {pc : Nat} {ls st : List Value} {h : am_H}
theorem so_iret (F : am_Fr S k p s m meth c) {x : Int32} (hrt : am_rt k = some .int) (hd : decode (am_B k) pc = .ok (.ireturn, 1)) : am_WG S ad fv dC dI k p l e R s m args below meth c h0 (am_Z S ad fv dC dI below args s h0 (.inl (some (.int x)), h)) pc ls [.int x] h :=
  fun H locs lr hr hl hf => vx_ret (W.iret F.1 F.2.1 (F.2.2.2.1.trans hrt) (fun t ht _ => ⟨some (.int x), rfl, rfl, by rw [ht]; exact hr⟩) hf hd F.2.2.2.2.2.2.1)
theorem so_zret (F : am_Fr S k p s m meth c) {x : Int32} {ty : FieldType} (hrt : am_rt k = some ty) (hn : narrow ty (.int x) = .int x) (hd : decode (am_B k) pc = .ok (.ireturn, 1)) : am_WG S ad fv dC dI k p l e R s m args below meth c h0 (am_Z S ad fv dC dI below args s h0 (.inl (some (.int x)), h)) pc ls [.int x] h :=
  fun H locs lr hr hl hf => vx_ret (W.zret F.1 F.2.1 (F.2.2.2.1.trans hrt) hn (fun t ht _ => ⟨some (.int x), rfl, rfl, by rw [ht]; exact hr⟩) hf hd F.2.2.2.2.2.2.1)
theorem so_vret (F : am_Fr S k p s m meth c) (hrt : am_rt k = none) (hd : decode (am_B k) pc = .ok (.return_, 1)) : am_WG S ad fv dC dI k p l e R s m args below meth c h0 (am_Z S ad fv dC dI below args s h0 (.inl none, h)) pc ls [] h :=
  fun H locs lr hr hl hf => vx_ret (W.vret F.1 F.2.1 (F.2.2.2.1.trans hrt) (fun t ht _ => ⟨none, rfl, rfl, by rw [ht]; exact hr⟩) hf hd F.2.2.2.2.2.2.1)
theorem am_cats (hv : fv = .null ∨ ∃ a, fv = .ref a) : ∀ st : List Value, ((st.map (am_val ad fv)).map fun v => v.category).sum = am_wt st
  | [] => rfl
  | v :: r => by
    show (am_val ad fv v).category + ((r.map (am_val ad fv)).map fun v => v.category).sum = v.category + am_wt r
    rw [am_val_cat hv, am_cats hv r]
theorem so_obj (hw : am_Wd S A0 ad fv dC dI) (F : am_Fr S k p s m meth c) {i o : Nat} (hd : decode (am_B k) pc = .ok (.invokespecial i, 3)) (hm1 : Cond.methodLink (am_Y k).cls i Lib.objectInit ∈ lw_tbl) (hm2 : Cond.instanceMethod Lib.objectInit ∈ lw_tbl) (hm3 : Cond.code Lib.objectInit ⟨#[0xb1]⟩ 1 none ∈ lw_tbl) (ho : o ≠ am_fm) (hfr : 1 ≤ R.frames) (hlo : 20 ≤ R.locals) (hwt : am_wt st ≤ 8)
    (K : am_WG S ad fv dC dI k p l e R s m args below meth c h0 Q (pc + 3) ls st h) : am_WG S ad fv dC dI k p l e R s m args below meth c h0 Q pc ls (.ref o :: st) h := by
  intro H locs lr hr hl hf
  rw [List.map_cons, am_val_ref ho]
  refine W.objInit F.1 F.2.1 F.2.2.2.2.1 (am_word hw F hm1 rfl) (am_word hw F hm2 rfl) (am_word hw F hm3 rfl) rfl (by rw [F.2.2.1]; exact hl.1) rfl hd hfr ?_ (K H locs lr hr hl hf)
  show 2 * 0 + ((st.map (am_val ad fv)).map fun v => v.category).sum + 12 ≤ R.locals
  rw [am_cats hw.2.2.2.2.2.2]
  omega
/-- the heap never shrinks -/
theorem am_szW {H : Heap} {locs : List Loc} {cells slots : Nat} {g : JFrame} (K : s.heap.size ≤ H.size → W p l e R s m args below meth c H locs cells slots Q g) : W p l e R s m args below meth c H locs cells slots Q g := fun T hT X => K (by rw [← hT]; exact X.same.2.1) T hT X
theorem so_stat (hw : am_Wd S A0 ad fv dC dI) (he : am_We S ad fv l) (F : am_Fr S k p s m meth c) {i t : Nat} (h1 : 1 ≤ t) (h2 : t < 18) (hd : decode (am_B k) pc = .ok (.getstatic i, 3)) (hm : Cond.fieldLink (am_Y k).cls i (am_sT t).1 (am_sT t).2.1 (am_sT t).2.2.1 ∈ lw_tbl ∨ ∃ g, Cond.fieldLinkNest (am_Y k).cls i (am_sT t).1 (am_sT t).2.1 (am_sT t).2.2.1 g ∈ lw_tbl)
    (K : am_WG S ad fv dC dI k p l e R s m args below meth c h0 Q (pc + 3) ls ((am_sT t).2.2.2 :: st) h) : am_WG S ad fv dC dI k p l e R s m args below meth c h0 Q pc ls st h := by
  intro H locs lr hr hl hf
  refine am_szW fun hsz => ?_
  have hZ := am_vaZ F (he.1 t h1 h2)
  have hS := am_vaS F hr hsz hf
  rcases hm with hm | ⟨g, hm⟩
  · exact va_gets F.1 F.2.1 hZ hS F.2.2.2.2.1 (am_word hw F hm rfl) (fun _ q => q) hd (K H locs lr hr hl hf)
  · exact va_getsN F.1 F.2.1 hZ hS F.2.2.2.2.1 (am_nest hw F hm) (fun _ q => q) hd (K H locs lr hr hl hf)
theorem am_cast_moved {E T : String} {a a' : Array Value} {u U : State} (hal : u.vm.Alike U.vm) (h : (Cond.castable E T).before a u = true) : (Cond.castable E T).before a' U = true := by
  obtain ⟨c1, c2, h1, h2, h3⟩ := Cond.castable_spec h
  simp only [Cond.before, Cond.holds, Cond.value]
  rw [hal.findClass, hal.findClass, h1, h2]
  simp [hal.assignable, h3]
theorem am_atS (hw : am_Wd S A0 ad fv dC dI) (F : am_Fr S k p s m meth c) {L : List Cond} {E : String} (hL : ∀ w ∈ L, w ∈ lw_tbl ∧ (goodWord w = true ∨ am_dc w = true ∨ w = .castable E E)) : ∀ w ∈ L, w.before args s = true := by
  intro w hm
  obtain ⟨h1, h2 | h2 | h2⟩ := hL w hm
  · exact am_word hw F h1 h2
  · cases w with
    | declares x => exact va_tabs rfl (rfl : (S.setVm s.vm).vm = s.vm) (by rw [Cond.declares_setVm F.2.2.2.2.2.1.alike]; exact hw.1 _ h1)
    | _ => cases h2
  · subst h2
    exact am_cast_moved F.2.2.2.2.2.1.alike (hw.1 _ h1)
theorem am_Zq (F : am_Fr S k p s m meth c) {C n d : String} (hZ : vx_Zq C n d (fun q => S.heap.size ≤ q) S S.heap) : vx_Zq C n d (fun q => S.heap.size ≤ q) s s.heap :=
  (vx_Zq.moved (U := s) F.2.2.2.2.2.1.alike hZ).kept (fun a ha hq => F.2.2.2.2.2.2.2.2.2.2 a ha)
theorem so_throw (hw : am_Wd S A0 ad fv dC dI) (he : am_We S ad fv l) (F : am_Fr S k p s m meth c) {ik is n : Nat} (hn : n < 2) (hown : (am_Y k).cls = "AlmondCabinet") (hhh : am_hh k = []) (his : is ∈ am_sE) (hm1 : Cond.classLink "AlmondCabinet" ik (am_EN n) ∈ lw_tbl) (hm2 : Cond.initialized (am_EN n) ∈ lw_tbl)
    (d0 : decode (am_B k) pc = .ok (.new ik, 3)) (d3 : decode (am_B k) (pc + 3) = .ok (.dup, 1))
    (hd : (decode (am_B k) (pc + 4) = .ok (.ldc is, 2) ∧ decode (am_B k) (pc + 6) = .ok (.invokespecial (am_EI n), 3) ∧ decode (am_B k) (pc + 9) = .ok (.athrow, 1)) ∨ (decode (am_B k) (pc + 4) = .ok (.ldc_w is, 3) ∧ decode (am_B k) (pc + 7) = .ok (.invokespecial (am_EI n), 3) ∧ decode (am_B k) (pc + 10) = .ok (.athrow, 1)))
    (hfr : 5 < R.frames) (hlo : am_wt st + 82 ≤ R.locals) (hc : am_c h0 ≤ am_c h) (hz : h0.1.2.2 ≤ h.1.2.2) (hrc : am_c h - am_c h0 + 1 ≤ R.cells) (hrs : h.1.2.2 - h0.1.2.2 + 6 ≤ R.slots) :
    am_WG S ad fv dC dI k p l e R s m args below meth c h0 (am_Z S ad fv dC dI below args s h0 (.inr n, am_gc h 6)) pc ls st h := by
  intro H locs lr hr hl hf
  refine am_szW fun hsz => ?_
  obtain ⟨-, -, e3, e4, e5, -, e7⟩ := he
  obtain ⟨sa, hsa⟩ := e3 is his
  have hF5 : s.vm.findClass "AlmondCabinet" = some m.cls := by rw [← hown]; exact F.2.2.2.2.1
  have htab : ∀ q, ∀ x ∈ c.exceptionTable.toList, covers x q = false := by
    intro q x hx
    rw [F.2.2.2.2.2.2.2.2.1, hhh] at hx
    cases hx
  have hXC : ∀ E, E = am_EN n → ∀ t : State, s.vm.Alike t.vm → H.size ≤ t.heap.size → (∀ q : Nat, q < H.size → t.heap[q]? = H[q]?) → am_XC S ad fv dC dI (.inr n, am_gc h 6) E s t := fun E hE t _ h1 h2 => ⟨n, rfl, hE, am_HR_gc hr h1 h2⟩
  have hcw : am_c h - am_c h0 + 1 ≤ am_c (am_gc h 6) - am_c h0 := by
    have : am_c (am_gc h 6) = am_c h + 1 := rfl
    omega
  have hsw : h.1.2.2 - h0.1.2.2 + 6 ≤ (am_gc h 6).1.2.2 - h0.1.2.2 := by
    have : (am_gc h 6).1.2.2 = h.1.2.2 + 6 := rfl
    omega
  have hcat := am_cats (ad := ad) hw.2.2.2.2.2.2 st
  obtain ⟨b0, b1, b2, b5, bf⟩ := am_thrB n hn
  rcases hd with ⟨d4, d6, d9⟩ | ⟨d4, d7, d10⟩
  · exact ac_throwS (A := fun q => S.heap.size ≤ q) F.1 F.2.1 e7 b0 b1 b2 b5 hF5 bf (am_word hw F hm1 rfl) (am_word hw F hm2 rfl) (hsa.warm F.2.2.2.2.2.1) (am_atS hw F (am_thr n hn)) (am_thrG ik n hn) (am_Zq F e4) (am_Zq F e5) (am_vaS F hr hsz hf) (by rw [F.2.2.1]; exact hl.1) d0 d3 d4 d6 d9 (htab _) hfr (by rw [hcat]; exact hlo) hrc hrs F.2.2.2.2.2.2.1 (hXC _ rfl) hf hcw hsw
  · exact ac_throwSW (A := fun q => S.heap.size ≤ q) F.1 F.2.1 e7 b0 b1 b2 b5 hF5 bf (am_word hw F hm1 rfl) (am_word hw F hm2 rfl) (hsa.warm F.2.2.2.2.2.1) (am_atS hw F (am_thr n hn)) (am_thrG ik n hn) (am_Zq F e4) (am_Zq F e5) (am_vaS F hr hsz hf) (by rw [F.2.2.1]; exact hl.1) d0 d3 d4 d7 d10 (htab _) hfr (by rw [hcat]; exact hlo) hrc hrs F.2.2.2.2.2.2.1 (hXC _ rfl) hf hcw hsw
end AMO6
