/-! steps: stores, switches -/
def am_tg : List (Int32 × Nat) → Nat → Int32 → Nat
  | [], d, _ => d
  | (v, p) :: r, d, x => if x = v then p else am_tg r d x
theorem am_sw_tg {next : Nat → List Value → List Value → am_H → Option am_Res} {x : Int32} {d : Nat} {ls st : List Value} {h : am_H} : ∀ sw, am_sw next x d ls st h sw = next (am_tg sw d x) ls st h
  | [] => rfl
  | (v, p) :: r => by
    unfold am_sw am_tg
    by_cases hx : x = v
    · rw [if_pos hx, decide_eq_true hx, cond_true]
    · rw [if_neg hx, decide_eq_false hx, cond_false]
      exact am_sw_tg r
def am_lkok (pc : Nat) : List (Int × Int) → List (Int32 × Nat) → Bool
  | [], [] => true
  | (a, o) :: r, (v, p) :: q => decide (v.toInt = a) && (decide ((pc : Int) + o = (p : Int)) && am_lkok pc r q)
  | _, _ => false
theorem am_lk_tg {pc d : Nat} {x : Int32} {df : Int} (hd : (pc : Int) + df = (d : Int)) : ∀ (ps : List (Int × Int)) (sw : List (Int32 × Nat)), am_lkok pc ps sw = true → (pc : Int) + Op.lookupswitch.offset ps df x.toInt = (am_tg sw d x : Int)
  | [], [], _ => hd
  | (a, o) :: r, (v, q) :: w, h => by
    unfold am_lkok at h
    rw [Bool.and_eq_true, Bool.and_eq_true, decide_eq_true_iff, decide_eq_true_iff] at h
    unfold am_tg Op.lookupswitch.offset
    by_cases hx : x = v
    · rw [if_pos hx, if_pos (by rw [hx]; exact h.1.symm)]
      exact h.2.1
    · rw [if_neg hx, if_neg (fun e => hx (Int32.toInt_inj.mp (by rw [h.1]; exact e.symm)))]
      exact am_lk_tg hd r w h.2.2
  | [], _ :: _, h => by cases h
  | _ :: _, [], h => by cases h
def am_tbok (pc : Nat) : Int → List Int → List (Int32 × Nat) → Bool
  | _, [], [] => true
  | lo, o :: r, (v, p) :: q => decide (v.toInt = lo) && (decide ((pc : Int) + o = (p : Int)) && am_tbok pc (lo + 1) r q)
  | _, _, _ => false
theorem am_tb_out {pc d : Nat} {x : Int32} : ∀ (lo : Int) (os : List Int) (sw : List (Int32 × Nat)), am_tbok pc lo os sw = true → (x.toInt < lo ∨ lo + os.length ≤ x.toInt) → am_tg sw d x = d
  | _, [], [], _, _ => rfl
  | lo, o :: r, (v, q) :: w, h, hx => by
    unfold am_tbok at h
    rw [Bool.and_eq_true, Bool.and_eq_true, decide_eq_true_iff, decide_eq_true_iff] at h
    rw [List.length_cons] at hx
    unfold am_tg
    rw [if_neg (fun e => by rw [e, h.1] at hx; omega)]
    exact am_tb_out (lo + 1) r w h.2.2 (by omega)
  | _, [], _ :: _, h, _ => by cases h
  | _, _ :: _, [], h, _ => by cases h
theorem am_tb_in {pc d : Nat} {x : Int32} : ∀ (lo : Int) (os : List Int) (sw : List (Int32 × Nat)), am_tbok pc lo os sw = true → lo ≤ x.toInt → x.toInt < lo + os.length → ∃ o, os[(x.toInt - lo).toNat]? = some o ∧ (pc : Int) + o = (am_tg sw d x : Int)
  | lo, [], [], _, h1, h2 => by simp at h2; omega
  | lo, o :: r, (v, q) :: w, h, h1, h2 => by
    unfold am_tbok at h
    rw [Bool.and_eq_true, Bool.and_eq_true, decide_eq_true_iff, decide_eq_true_iff] at h
    rw [List.length_cons] at h2
    unfold am_tg
    by_cases hx : x = v
    · refine ⟨o, ?_, by rw [if_pos hx]; exact h.2.1⟩
      rw [hx, h.1, Int.sub_self]
      rfl
    · rw [if_neg hx]
      have hne : x.toInt ≠ lo := fun e => hx (Int32.toInt_inj.mp (by rw [h.1]; exact e))
      obtain ⟨o', q1, q2⟩ := am_tb_in (d := d) (x := x) (lo + 1) r w h.2.2 (by omega) (by omega)
      refine ⟨o', ?_, q2⟩
      rw [show (x.toInt - lo).toNat = (x.toInt - (lo + 1)).toNat + 1 by omega, List.getElem?_cons_succ]
      exact q1
  | _, [], _ :: _, h, _, _ => by cases h
  | _, _ :: _, [], h, _, _ => by cases h
section AMO2
variable {S : State} {A0 : Array Value} {ad : Nat → Nat} {fv : Value} {dC : Nat → ClassId} {dI : Nat → Nat → Nat} {p : Program} {l : Launch} {e : Env} {R : Room} {s : State} {m : MethodId} {args : Array Value} {below : List Frame} {meth : Method} {c : Code} {k : Nat} {h0 : am_H} {Q : State → Prop}
variable {pc : Nat} {ls st : List Value} {h : am_H}
theorem so_lookup (F : am_Fr S k p s m meth c) {df : Int} {ps : Array (Int × Int)} {len d : Nat} {sw : List (Int32 × Nat)} {x : Int32} (hd : decode (am_B k) pc = .ok (.lookupswitch df ps, len)) (hp : (ps.toList.zip (ps.toList.drop 1)).all (fun (a, next) => a.1 < next.1) = true) (h1 : (pc : Int) + df = (d : Int)) (h2 : am_lkok pc ps.toList sw = true)
    (K : am_WG S ad fv dC dI k p l e R s m args below meth c h0 Q (am_tg sw d x) ls st h) : am_WG S ad fv dC dI k p l e R s m args below meth c h0 Q pc ls (.int x :: st) h :=
  fun H locs lr hr hl hf => lv_lookup F.1 F.2.1 hd hp rfl (am_lk_tg h1 _ _ h2) (K H locs lr hr hl hf)
theorem so_table (F : am_Fr S k p s m meth c) {df lo hi : Int} {os : Array Int} {len d : Nat} {sw : List (Int32 × Nat)} {x : Int32} (hd : decode (am_B k) pc = .ok (.tableswitch df lo hi os, len)) (h1 : (pc : Int) + df = (d : Int)) (h2 : am_tbok pc lo os.toList sw = true) (h3 : hi + 1 = lo + os.toList.length)
    (K : am_WG S ad fv dC dI k p l e R s m args below meth c h0 Q (am_tg sw d x) ls st h) : am_WG S ad fv dC dI k p l e R s m args below meth c h0 Q pc ls (.int x :: st) h := by
  intro H locs lr hr hl hf
  by_cases hx : x.toInt < lo ∨ hi < x.toInt
  · refine lv_tableOut F.1 F.2.1 hd hx h1 ?_
    have := K H locs lr hr hl hf
    rw [am_tb_out lo _ sw h2 (by omega)] at this
    exact this
  · obtain ⟨o, q1, q2⟩ := am_tb_in (d := d) (x := x) lo _ sw h2 (by omega) (by omega)
    exact lv_tableIn F.1 F.2.1 hd (by omega) (by omega) (by rw [← Array.getElem?_toList]; exact q1) q2 (K H locs lr hr hl hf)
theorem so_istore_n (hv : fv = .null ∨ ∃ a, fv = .ref a) (F : am_Fr S k p s m meth c) {j : Fin 4} {i : Nat} {x : Int32} {l' : List Value} (hd : decode (am_B k) pc = .ok (.istore_n j, 1)) (hj : (j : Nat) = i) (hs : am_set ls i (.int x) = some l')
    (K : am_WG S ad fv dC dI k p l e R s m args below meth c h0 Q (pc + 1) l' st h) : am_WG S ad fv dC dI k p l e R s m args below meth c h0 Q pc ls (.int x :: st) h :=
  fun H locs lr hr hl hf => lv_istore_n F.1 F.2.1 hd hj (am_LR_has hl) (by rw [← hl.2.2.1]; exact (am_set_some hs).1) rfl (fun lr' h' => K H locs lr' hr (am_LR_set hv hl hs (Or.inr rfl) h') hf)
theorem so_istore (hv : fv = .null ∨ ∃ a, fv = .ref a) (F : am_Fr S k p s m meth c) {i : Nat} {x : Int32} {l' : List Value} (hd : decode (am_B k) pc = .ok (.istore i, 2)) (hs : am_set ls i (.int x) = some l')
    (K : am_WG S ad fv dC dI k p l e R s m args below meth c h0 Q (pc + 2) l' st h) : am_WG S ad fv dC dI k p l e R s m args below meth c h0 Q pc ls (.int x :: st) h :=
  fun H locs lr hr hl hf => lv_istore F.1 F.2.1 hd (am_LR_has hl) (by rw [← hl.2.2.1]; exact (am_set_some hs).1) rfl (fun lr' h' => K H locs lr' hr (am_LR_set hv hl hs (Or.inr rfl) h') hf)
theorem so_astore_n (hv : fv = .null ∨ ∃ a, fv = .ref a) (F : am_Fr S k p s m meth c) {j : Fin 4} {i o : Nat} {l' : List Value} (ho : o ≠ am_fm) (hd : decode (am_B k) pc = .ok (.astore_n j, 1)) (hj : (j : Nat) = i) (hs : am_set ls i (.ref o) = some l')
    (K : am_WG S ad fv dC dI k p l e R s m args below meth c h0 Q (pc + 1) l' st h) : am_WG S ad fv dC dI k p l e R s m args below meth c h0 Q pc ls (.ref o :: st) h := by
  intro H locs lr hr hl hf
  rw [List.map_cons, am_val_ref ho]
  exact lv_astore_n F.1 F.2.1 hd hj (am_LR_has hl) (by rw [← hl.2.2.1]; exact (am_set_some hs).1) rfl (fun lr' h' => K H locs lr' hr (am_LR_set hv hl hs (Or.inr (am_val_ref ho).symm) h') hf)
theorem so_astore (hv : fv = .null ∨ ∃ a, fv = .ref a) (F : am_Fr S k p s m meth c) {i o : Nat} {l' : List Value} (ho : o ≠ am_fm) (hd : decode (am_B k) pc = .ok (.astore i, 2)) (hs : am_set ls i (.ref o) = some l')
    (K : am_WG S ad fv dC dI k p l e R s m args below meth c h0 Q (pc + 2) l' st h) : am_WG S ad fv dC dI k p l e R s m args below meth c h0 Q pc ls (.ref o :: st) h := by
  intro H locs lr hr hl hf
  rw [List.map_cons, am_val_ref ho]
  exact lv_astore F.1 F.2.1 hd (am_LR_has hl) (by rw [← hl.2.2.1]; exact (am_set_some hs).1) rfl (fun lr' h' => K H locs lr' hr (am_LR_set hv hl hs (Or.inr (am_val_ref ho).symm) h') hf)
theorem so_lstore_n (hv : fv = .null ∨ ∃ a, fv = .ref a) (F : am_Fr S k p s m meth c) {j : Fin 4} {i : Nat} {x : Int64} {l' : List Value} (hd : decode (am_B k) pc = .ok (.lstore_n j, 1)) (hj : (j : Nat) = i) (hs : am_set ls i (.long x) = some l') (hi : i + 1 < ls.length)
    (K : am_WG S ad fv dC dI k p l e R s m args below meth c h0 Q (pc + 1) (l'.set (i + 1) am_u) st h) : am_WG S ad fv dC dI k p l e R s m args below meth c h0 Q pc ls (.long x :: st) h :=
  fun H locs lr hr hl hf => lv_lstore_n F.1 F.2.1 hd hj (am_LR_has hl) (by rw [← hl.2.2.1]; exact hi) rfl (fun lr' h' => K H locs lr' hr (am_LR_set2 hv hl hs h') hf)
theorem so_lstore (hv : fv = .null ∨ ∃ a, fv = .ref a) (F : am_Fr S k p s m meth c) {i : Nat} {x : Int64} {l' : List Value} (hd : decode (am_B k) pc = .ok (.lstore i, 2)) (hs : am_set ls i (.long x) = some l') (hi : i + 1 < ls.length)
    (K : am_WG S ad fv dC dI k p l e R s m args below meth c h0 Q (pc + 2) (l'.set (i + 1) am_u) st h) : am_WG S ad fv dC dI k p l e R s m args below meth c h0 Q pc ls (.long x :: st) h :=
  fun H locs lr hr hl hf => lv_lstore F.1 F.2.1 hd (am_LR_has hl) (by rw [← hl.2.2.1]; exact hi) rfl (fun lr' h' => K H locs lr' hr (am_LR_set2 hv hl hs h') hf)
theorem so_iinc (hv : fv = .null ∨ ∃ a, fv = .ref a) (F : am_Fr S k p s m meth c) {i : Nat} {n : Int} {x y : Int32} {l' : List Value} (hd : decode (am_B k) pc = .ok (.iinc i n, 3)) (hy : y = Int32.ofInt n) (hx : ls[i]? = some (.int x)) (hs : am_set ls i (.int (x + y)) = some l')
    (K : am_WG S ad fv dC dI k p l e R s m args below meth c h0 Q (pc + 3) l' st h) : am_WG S ad fv dC dI k p l e R s m args below meth c h0 Q pc ls st h := by
  intro H locs lr hr hl hf
  obtain ⟨q, hq⟩ := List.getElem?_of_mem (am_lvl_mem (ad := ad) (fv := fv) (ls := ls) (q := (i, .int x)) |>.mpr ⟨.int x, hx, (fun e => by cases e), rfl⟩)
  subst hy
  exact lv_iinc F.1 F.2.1 hd (am_LR_has hl) hq rfl (by rw [← hl.2.2.1]; exact (am_set_some hs).1) rfl (fun lr' h' => K H locs lr' hr (am_LR_set hv hl hs (Or.inr rfl) h') hf)
end AMO2
