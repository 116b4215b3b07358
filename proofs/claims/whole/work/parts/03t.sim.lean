/-! ONE STEP: every instruction; THE SIMULATION -/
section AMY
variable {S : State} {A0 : Array Value} {ad : Nat → Nat} {fv : Value} {dC : Nat → ClassId} {dI : Nat → Nat → Nat} {p : Program} {l : Launch} {e : Env} {R : Room} {s : State} {m : MethodId} {args : Array Value} {below : List Frame} {meth : Method} {c : Code} {k : Nat} {h0 : am_H} {Q : State → Prop} {P : am_P} {n : Nat} {r : am_Res}
variable {pc : Nat} {ls st : List Value} {h : am_H} {next : Nat → List Value → List Value → am_H → Option am_Res}

set_option maxHeartbeats 4000000 in
theorem am_step {b : Nat} (hw : am_Wd S A0 ad fv dC dI) (he : am_We S ad fv l) (F : am_Fr S k p s m meth c) (hS : am_Sim S ad fv dC dI l P n) (hml : ∀ k, P.2.2.1 k = am_ml k) (hn : ∀ pc ls st h, next pc ls st h = some r → am_c h0 ≤ am_c h → h0.1.2.2 ≤ h.1.2.2 → am_WG S ad fv dC dI k p l e R s m args below meth c h0 (am_Z S ad fv dC dI below args s h0 r) pc ls st h) (hc0 : am_c h0 ≤ am_c h) (hz0 : h0.1.2.2 ≤ h.1.2.2) (hmo : ∀ pc ls st h, next pc ls st h = some r → am_le h r.2) (hrc : am_c r.2 - am_c h0 ≤ R.cells) (hrs : r.2.1.2.2 - h0.1.2.2 ≤ R.slots) (hfr : b + 8 ≤ R.frames) (hlo : 64 * b + 128 ≤ R.locals) (ins : Instr) {len op a j d : Nat} {v : Value} {sw : List (Int32 × Nat)} (hd : decode (am_B k) pc = .ok (ins, len)) (hok : am_ok1 k pc ins len op a j d v sw = true) (hk : op = 23 → am_nt v = false → ∀ y, am_hchk k pc y (P.2.1 k pc y) = true)
    (x : am_do P (fun k b as h => am_ev 75 P n k b 0 (am_lcl P k as) [] h) next k pc len ls (am_op 75 P.2.2.2 P.2.2.1 b (pc + len) op a j d v sw ls st h) = some r) : am_WG S ad fv dC dI k p l e R s m args below meth c h0 (am_Z S ad fv dC dI below args s h0 r) pc ls st h := by
  have hfr8 : 8 ≤ R.frames := by omega
  have hlo8 : 128 ≤ R.locals := by omega
  have hv := hw.2.2.2.2.2.2
  cases ins with
  | iconst q =>
    obtain ⟨rfl, rfl, hv2⟩ := of_decide_eq_true hok
    exact so_push_iconst F hd hv2 (hn _ _ _ _ x hc0 hz0)
  | bipush q =>
    obtain ⟨rfl, rfl, hv2⟩ := of_decide_eq_true hok
    exact so_push_bipush F hd hv2 (hn _ _ _ _ x hc0 hz0)
  | sipush q =>
    obtain ⟨rfl, rfl, hv2⟩ := of_decide_eq_true hok
    exact so_push_sipush F hd hv2 (hn _ _ _ _ x hc0 hz0)
  | lconst q =>
    obtain ⟨rfl, rfl, hv2⟩ := of_decide_eq_true hok
    exact so_push_lconst F hd hv2 (hn _ _ _ _ x hc0 hz0)
  | ldc i =>
    obtain ⟨g1, g2⟩ := gl_and hok
    obtain ⟨rfl, rfl⟩ := of_decide_eq_true g1
    cases v with
    | int y => exact so_push_ldc hw F hd (am_in_mem g2) (hn _ _ _ _ x hc0 hz0)
    | ref q =>
      obtain ⟨q1, q2, q3, q4⟩ := of_decide_eq_true g2
      have hR := he.2.1 q q1
      rw [q3, q4] at hR
      exact so_push_str F q2 hR hd (hn _ _ _ _ x hc0 hz0)
    | _ => exact Bool.noConfusion g2
  | ldc_w i =>
    obtain ⟨g1, g2⟩ := gl_and hok
    obtain ⟨rfl, rfl⟩ := of_decide_eq_true g1
    cases v with
    | int y => exact so_push_ldcw hw F hd (am_in_mem g2) (hn _ _ _ _ x hc0 hz0)
    | ref q =>
      obtain ⟨q1, q2, q3, q4⟩ := of_decide_eq_true g2
      have hR := he.2.1 q q1
      rw [q3, q4] at hR
      exact so_push_strw F q2 hR hd (hn _ _ _ _ x hc0 hz0)
    | _ => exact Bool.noConfusion g2
  | ldc2_w i =>
    obtain ⟨g1, g2⟩ := gl_and hok
    obtain ⟨rfl, rfl⟩ := of_decide_eq_true g1
    cases v with
    | long y => exact so_push_ldc2 hw F hd (am_in_mem g2) (hn _ _ _ _ x hc0 hz0)
    | _ => exact Bool.noConfusion g2
  | getstatic i =>
    obtain ⟨g1, g2⟩ := gl_and hok
    obtain ⟨rfl, rfl, q1, q2, rfl⟩ := of_decide_eq_true g1
    exact so_stat hw he F q1 q2 hd ((Bool.or_eq_true _ _ ▸ g2 : _ ∨ _).imp am_in_mem (fun q => ⟨_, am_in_mem q⟩)) (hn _ _ _ _ x hc0 hz0)
  | iload q =>
    obtain ⟨rfl, rfl, rfl, rfl⟩ := of_decide_eq_true hok
    obtain ⟨w, w1, w2, x⟩ := gl_load x
    obtain ⟨o, rfl⟩ := gl_is0 w2
    exact so_load (fun hl2 K2 => lv_iload F.1 F.2.1 hd hl2 K2) w1 (fun z => nomatch z) (hn _ _ _ _ x hc0 hz0)
  | iload_n q =>
    obtain ⟨rfl, rfl, rfl, rfl⟩ := of_decide_eq_true hok
    obtain ⟨w, w1, w2, x⟩ := gl_load x
    obtain ⟨o, rfl⟩ := gl_is0 w2
    exact so_load (fun hl2 K2 => lv_iload_n F.1 F.2.1 hd rfl hl2 K2) w1 (fun z => nomatch z) (hn _ _ _ _ x hc0 hz0)
  | istore q =>
    obtain ⟨rfl, rfl, rfl, rfl⟩ := of_decide_eq_true hok
    obtain ⟨w, q2, l2, rfl, w1, w2, x2⟩ := gl_store1 (by decide) x
    obtain ⟨o, rfl⟩ := gl_is0 w1
    exact so_istore hv F hd w2 (hn _ _ _ _ x2 hc0 hz0)
  | istore_n q =>
    obtain ⟨rfl, rfl, rfl, rfl⟩ := of_decide_eq_true hok
    obtain ⟨w, q2, l2, rfl, w1, w2, x2⟩ := gl_store1 (by decide) x
    obtain ⟨o, rfl⟩ := gl_is0 w1
    exact so_istore_n hv F hd rfl w2 (hn _ _ _ _ x2 hc0 hz0)
  | aload q =>
    obtain ⟨rfl, rfl, rfl, rfl⟩ := of_decide_eq_true hok
    obtain ⟨w, w1, w2, x⟩ := gl_load x
    obtain ⟨o, rfl, ho⟩ := gl_is1 w2
    exact so_load (fun hl2 K2 => by rw [am_val_ref ho] at hl2 K2; exact lv_aload F.1 F.2.1 hd hl2 K2) w1 (fun z => nomatch z) (hn _ _ _ _ x hc0 hz0)
  | aload_n q =>
    obtain ⟨rfl, rfl, rfl, rfl⟩ := of_decide_eq_true hok
    obtain ⟨w, w1, w2, x⟩ := gl_load x
    obtain ⟨o, rfl, ho⟩ := gl_is1 w2
    exact so_load (fun hl2 K2 => by rw [am_val_ref ho] at hl2 K2; exact lv_aload_n F.1 F.2.1 hd rfl hl2 K2) w1 (fun z => nomatch z) (hn _ _ _ _ x hc0 hz0)
  | astore q =>
    obtain ⟨rfl, rfl, rfl, rfl⟩ := of_decide_eq_true hok
    obtain ⟨w, q2, l2, rfl, w1, w2, x2⟩ := gl_store1 (by decide) x
    obtain ⟨o, rfl, ho⟩ := gl_is1 w1
    exact so_astore hv F ho hd w2 (hn _ _ _ _ x2 hc0 hz0)
  | astore_n q =>
    obtain ⟨rfl, rfl, rfl, rfl⟩ := of_decide_eq_true hok
    obtain ⟨w, q2, l2, rfl, w1, w2, x2⟩ := gl_store1 (by decide) x
    obtain ⟨o, rfl, ho⟩ := gl_is1 w1
    exact so_astore_n hv F ho hd rfl w2 (hn _ _ _ _ x2 hc0 hz0)
  | lload q =>
    obtain ⟨rfl, rfl, rfl, rfl⟩ := of_decide_eq_true hok
    obtain ⟨w, w1, w2, x⟩ := gl_load x
    obtain ⟨o, rfl⟩ := gl_is2 w2
    exact so_load (fun hl2 K2 => lv_lload F.1 F.2.1 hd hl2 K2) w1 (fun z => nomatch z) (hn _ _ _ _ x hc0 hz0)
  | lload_n q =>
    obtain ⟨rfl, rfl, rfl, rfl⟩ := of_decide_eq_true hok
    obtain ⟨w, w1, w2, x⟩ := gl_load x
    obtain ⟨o, rfl⟩ := gl_is2 w2
    exact so_load (fun hl2 K2 => lv_lload_n F.1 F.2.1 hd rfl hl2 K2) w1 (fun z => nomatch z) (hn _ _ _ _ x hc0 hz0)
  | lstore q =>
    obtain ⟨rfl, rfl, rfl, rfl⟩ := of_decide_eq_true hok
    obtain ⟨w, q2, l2, rfl, w1, w2, w3, x2⟩ := gl_store2 x
    obtain ⟨o, rfl⟩ := gl_is2 w1
    exact so_lstore hv F hd w2 w3 (hn _ _ _ _ x2 hc0 hz0)
  | lstore_n q =>
    obtain ⟨rfl, rfl, rfl, rfl⟩ := of_decide_eq_true hok
    obtain ⟨w, q2, l2, rfl, w1, w2, w3, x2⟩ := gl_store2 x
    obtain ⟨o, rfl⟩ := gl_is2 w1
    exact so_lstore_n hv F hd rfl w2 w3 (hn _ _ _ _ x2 hc0 hz0)
  | iinc q z =>
    obtain ⟨rfl, rfl, rfl, rfl⟩ := of_decide_eq_true hok
    have x : am_do P _ next k pc 3 ls (am_iinc (pc + 3) a (.int (Int32.ofInt z)) ls st h) = some r := x
    unfold am_iinc at x
    split at x
    · rename_i y y2 hy hz
      cases hz
      split at x
      · rename_i l2 hl2
        exact so_iinc hv F hd rfl hy hl2 (hn _ _ _ _ x hc0 hz0)
      · exact gl_no x
    · exact gl_no x
  | iadd =>
    obtain ⟨rfl, rfl, rfl⟩ := of_decide_eq_true hok
    exact st_iadd F hn hc0 hz0 hd x
  | isub =>
    obtain ⟨rfl, rfl, rfl⟩ := of_decide_eq_true hok
    exact st_isub F hn hc0 hz0 hd x
  | imul =>
    obtain ⟨rfl, rfl, rfl⟩ := of_decide_eq_true hok
    exact st_imul F hn hc0 hz0 hd x
  | iand =>
    obtain ⟨rfl, rfl, rfl⟩ := of_decide_eq_true hok
    exact st_iand F hn hc0 hz0 hd x
  | ior =>
    obtain ⟨rfl, rfl, rfl⟩ := of_decide_eq_true hok
    exact st_ior F hn hc0 hz0 hd x
  | ixor =>
    obtain ⟨rfl, rfl, rfl⟩ := of_decide_eq_true hok
    exact st_ixor F hn hc0 hz0 hd x
  | ishl =>
    obtain ⟨rfl, rfl, rfl⟩ := of_decide_eq_true hok
    exact st_ishl F hn hc0 hz0 hd x
  | ishr =>
    obtain ⟨rfl, rfl, rfl⟩ := of_decide_eq_true hok
    exact st_ishr F hn hc0 hz0 hd x
  | iushr =>
    obtain ⟨rfl, rfl, rfl⟩ := of_decide_eq_true hok
    exact st_iushr F hn hc0 hz0 hd x
  | idiv =>
    obtain ⟨rfl, rfl, rfl⟩ := of_decide_eq_true hok
    exact st_idiv F hn hc0 hz0 hd x
  | irem =>
    obtain ⟨rfl, rfl, rfl⟩ := of_decide_eq_true hok
    exact st_irem F hn hc0 hz0 hd x
  | ineg =>
    obtain ⟨rfl, rfl, rfl⟩ := of_decide_eq_true hok
    exact st_ineg F hn hc0 hz0 hd x
  | i2b =>
    obtain ⟨rfl, rfl, rfl⟩ := of_decide_eq_true hok
    exact st_i2b F hn hc0 hz0 hd x
  | i2c =>
    obtain ⟨rfl, rfl, rfl⟩ := of_decide_eq_true hok
    exact st_i2c F hn hc0 hz0 hd x
  | i2l =>
    obtain ⟨rfl, rfl, rfl⟩ := of_decide_eq_true hok
    exact st_i2l F hn hc0 hz0 hd x
  | l2i =>
    obtain ⟨rfl, rfl, rfl⟩ := of_decide_eq_true hok
    exact st_l2i F hn hc0 hz0 hd x
  | ladd =>
    obtain ⟨rfl, rfl, rfl⟩ := of_decide_eq_true hok
    exact st_ladd F hn hc0 hz0 hd x
  | lsub =>
    obtain ⟨rfl, rfl, rfl⟩ := of_decide_eq_true hok
    exact st_lsub F hn hc0 hz0 hd x
  | land =>
    obtain ⟨rfl, rfl, rfl⟩ := of_decide_eq_true hok
    exact st_land F hn hc0 hz0 hd x
  | lor =>
    obtain ⟨rfl, rfl, rfl⟩ := of_decide_eq_true hok
    exact st_lor F hn hc0 hz0 hd x
  | lshl =>
    obtain ⟨rfl, rfl, rfl⟩ := of_decide_eq_true hok
    exact st_lshl F hn hc0 hz0 hd x
  | lushr =>
    obtain ⟨rfl, rfl, rfl⟩ := of_decide_eq_true hok
    exact st_lushr F hn hc0 hz0 hd x
  | lcmp =>
    obtain ⟨rfl, rfl⟩ := of_decide_eq_true hok
    exact st_lcmp F hn hc0 hz0 hd x
  | pop =>
    obtain ⟨rfl, rfl, rfl⟩ := of_decide_eq_true hok
    exact st_pop hv F hn hc0 hz0 hd x
  | dup =>
    obtain ⟨rfl, rfl, rfl⟩ := of_decide_eq_true hok
    exact st_dup hv F hn hc0 hz0 hd x
  | dup2 =>
    obtain ⟨rfl, rfl, rfl⟩ := of_decide_eq_true hok
    exact st_dup2 hv F hn hc0 hz0 hd x
  | goto off =>
    obtain ⟨rfl, rfl, ht⟩ := of_decide_eq_true hok
    have x : next a ls st h = some r := x
    exact fun H locs lr hr hl hf => lv_goto F.1 F.2.1 hd ht (hn _ _ _ _ x hc0 hz0 H locs lr hr hl hf)
  | if_icmp y off =>
    obtain ⟨rfl, rfl, rfl, ht⟩ := of_decide_eq_true hok
    cases y with
    | eq => exact st_icmp_eq F hn hc0 hz0 hd ht x
    | ne => exact st_icmp_ne F hn hc0 hz0 hd ht x
    | lt => exact st_icmp_lt F hn hc0 hz0 hd ht x
    | ge => exact st_icmp_ge F hn hc0 hz0 hd ht x
    | gt => exact st_icmp_gt F hn hc0 hz0 hd ht x
    | le => exact st_icmp_le F hn hc0 hz0 hd ht x
  | ifCond y off =>
    obtain ⟨rfl, rfl, rfl, ht⟩ := of_decide_eq_true hok
    cases y with
    | eq => exact st_if_eq F hn hc0 hz0 hd ht x
    | ne => exact st_if_ne F hn hc0 hz0 hd ht x
    | lt => exact st_if_lt F hn hc0 hz0 hd ht x
    | ge => exact st_if_ge F hn hc0 hz0 hd ht x
    | gt => exact st_if_gt F hn hc0 hz0 hd ht x
    | le => exact st_if_le F hn hc0 hz0 hd ht x
  | lookupswitch df ps =>
    obtain ⟨rfl, q1, q2, q3⟩ := of_decide_eq_true hok
    exact st_look F hn hc0 hz0 hd q2 q1 q3 x
  | tableswitch df lo hi os =>
    obtain ⟨rfl, q1, q2, q3⟩ := of_decide_eq_true hok
    exact st_tabl F hn hc0 hz0 hd q1 q2 q3 x
  | getfield i =>
    obtain ⟨g1, g2⟩ := gl_and hok
    obtain ⟨rfl, rfl, q1, q2, q3⟩ := of_decide_eq_true g1
    exact st_getf hw F hn hc0 hz0 hd q1 q2 q3 ((Bool.or_eq_true _ _ ▸ g2 : _ ∨ _).imp am_in_mem (fun q => ⟨_, am_in_mem q⟩)) x
  | putfield i =>
    obtain ⟨g1, g2⟩ := gl_and hok
    obtain ⟨rfl, rfl, q1, q2, q3, q4⟩ := of_decide_eq_true g1
    exact st_putf hw F hn hc0 hz0 hd q1 q2 q3 q4 ((Bool.or_eq_true _ _ ▸ g2 : _ ∨ _).imp (fun q => ⟨am_in_mem (gl_and q).1, of_decide_eq_true (gl_and q).2⟩) (fun q => ⟨of_decide_eq_true (gl_and q).1, _, am_in_mem (gl_and q).2⟩)) x
  | iaload =>
    obtain ⟨rfl, rfl, rfl, rfl⟩ := of_decide_eq_true hok
    exact st_ald (fun q1 q2 K => so_iald F q1 q2 hd K) hn hc0 hz0 x
  | baload =>
    obtain ⟨rfl, rfl, rfl | rfl, rfl⟩ := of_decide_eq_true hok
    · exact st_ald (fun q1 q2 K => so_bald F q1 q2 hd K) hn hc0 hz0 x
    · exact st_ald (fun q1 q2 K => so_zald F q1 q2 hd K) hn hc0 hz0 x
  | laload =>
    obtain ⟨rfl, rfl, rfl, rfl⟩ := of_decide_eq_true hok
    exact st_ald (fun q1 q2 K => so_lald F q1 q2 hd K) hn hc0 hz0 x
  | aaload =>
    obtain ⟨rfl, rfl, ha, rfl⟩ := of_decide_eq_true hok
    exact st_ald (fun q1 q2 K => so_aald F ha q1 q2 hd K) hn hc0 hz0 x
  | iastore =>
    obtain ⟨rfl, rfl, rfl⟩ := of_decide_eq_true hok
    exact st_astI (by decide) (by decide) (fun q0 q1 q2 K => so_iast hw F q0 q1 q2 hd K) hn hc0 hz0 x
  | bastore =>
    obtain ⟨rfl, rfl, rfl | rfl⟩ := of_decide_eq_true hok
    · exact st_astI (by decide) (by decide) (fun q0 q1 q2 K => so_bast hw F q0 q1 q2 hd K) hn hc0 hz0 x
    · exact st_astI (by decide) (by decide) (fun q0 q1 q2 K => so_zast hw F q0 q1 q2 hd K) hn hc0 hz0 x
  | lastore =>
    obtain ⟨rfl, rfl, rfl⟩ := of_decide_eq_true hok
    exact st_astL hw F hn hc0 hz0 hd x
  | aastore =>
    obtain ⟨rfl, rfl, rfl⟩ := of_decide_eq_true hok
    exact st_astA hw F hn hc0 hz0 hd x
  | arraylength =>
    obtain ⟨rfl, rfl⟩ := of_decide_eq_true hok
    exact st_len F hn hc0 hz0 hd x
  | new i =>
    rcases (Bool.or_eq_true _ _ ▸ hok : _ ∨ _) with g | g
    · obtain ⟨g1, g2⟩ := gl_and g
      obtain ⟨rfl, rfl, q1, q2, rfl⟩ := of_decide_eq_true g1
      obtain ⟨g2, g3⟩ := gl_and g2
      obtain ⟨g3, g4⟩ := gl_and g3
      exact st_new hw F hn hc0 hz0 hmo hrc hrs q1 q2 hd (am_in_mem g2) (am_in_mem g3) (am_in_mem g4) x
    · obtain ⟨g1, g2⟩ := gl_and g
      obtain ⟨rfl, rfl, q1, q2, q3, q4, q5, q6⟩ := of_decide_eq_true g1
      obtain ⟨g2, g3⟩ := gl_and g2
      exact st_throw hw he F hc0 hz0 hrc hrs q1 q2 q3 q4 (am_in_mem g2) (am_in_mem g3) hd q5 q6 hfr8 hlo8 x
  | newarray q =>
    obtain ⟨g1, g2⟩ := gl_and hok
    obtain ⟨rfl, rfl, q1⟩ := of_decide_eq_true g1
    exact st_newa hw F hn hc0 hz0 hmo hrc hrs q1 hd (am_in_mem g2) x
  | anewarray i =>
    obtain ⟨g1, g2⟩ := gl_and hok
    obtain ⟨rfl, rfl, rfl⟩ := of_decide_eq_true g1
    obtain ⟨g2, g3⟩ := gl_and g2
    exact st_anew hw F hn hc0 hz0 hmo hrc hrs hd (am_in_mem g2) (am_in_mem g3) x
  | invokevirtual i =>
    obtain ⟨g1, g2⟩ := gl_and hok
    obtain ⟨rfl, rfl, q1, q2, q3, q4, q5, q6⟩ := of_decide_eq_true g1
    obtain ⟨g2, g3⟩ := gl_and g2
    obtain ⟨g3, g4⟩ := gl_and g3
    obtain ⟨g4, g5⟩ := gl_and g4
    exact st_callV hw he F hS hml hn hc0 hz0 hmo hrc hrs hfr hlo hd q1 q2 q3 q4 g2 q6 q5 (am_in_mem g3) (am_in_mem g4) ((Bool.or_eq_true _ _ ▸ g5 : _ ∨ _).imp am_in_mem (fun q => ⟨(gl_and q).1, _, am_in_mem (gl_and q).2⟩)) (fun y q => hk rfl q y) x
  | invokestatic i =>
    rcases (Bool.or_eq_true _ _ ▸ hok : _ ∨ _) with g | g
    · obtain ⟨g1, g2⟩ := gl_and g
      obtain ⟨rfl, rfl, rfl, q1⟩ := of_decide_eq_true g1
      obtain ⟨g2, g3⟩ := gl_and g2
      obtain ⟨g3, g4⟩ := gl_and g3
      split at g4
      · rename_i hh
        exact st_callS hw he F hS hml hn hc0 hz0 hmo hrc hrs hfr hlo hd g2 q1 hh (am_in_mem g3) ((Bool.or_eq_true _ _ ▸ g4 : _ ∨ _).imp am_in_mem (fun q => ⟨(gl_and q).1, _, am_in_mem (gl_and q).2⟩)) (fun y q => hk rfl q y) x
      · rename_i hh
        exact st_callSW hw he F hS hml hn hc0 hz0 hmo hrc hrs hfr hlo hd g2 q1 (by rw [hh]; exact fun z => nomatch z) (am_in_mem g3) (am_in_mem (gl_and g4).2) (gl_and g4).1 x
    · obtain ⟨g1, g2⟩ := gl_and g
      obtain ⟨rfl, rfl⟩ := of_decide_eq_true g1
      obtain ⟨g2, g3⟩ := gl_and g2
      obtain ⟨g3, g4⟩ := gl_and g3
      obtain ⟨g4, g5⟩ := gl_and g4
      exact st_copy hw F hn hc0 hz0 hd (am_in_mem g2) (am_in_mem g3) (am_in_mem g4) (am_in_mem g5) hfr8 hlo8 x
  | invokespecial i =>
    rcases (Bool.or_eq_true _ _ ▸ hok : _ ∨ _) with g | g
    · obtain ⟨g1, g2⟩ := gl_and g
      obtain ⟨rfl, rfl, q1, q2, q3, q4, q5, q6, q7, q8⟩ := of_decide_eq_true g1
      obtain ⟨g2, g3⟩ := gl_and g2
      obtain ⟨g3, g4⟩ := gl_and g3
      exact st_callI hw he F hS hml hn hc0 hz0 hmo hrc hrs hfr hlo hd q1 q2 q3 g2 q5 q4 q6 q7 (am_in_mem g3) ((Bool.or_eq_true _ _ ▸ g4 : _ ∨ _).imp am_in_mem (fun q => ⟨_, am_in_mem q⟩)) q8 x
    · obtain ⟨g1, g2⟩ := gl_and g
      obtain ⟨rfl, rfl⟩ := of_decide_eq_true g1
      obtain ⟨g2, g3⟩ := gl_and g2
      obtain ⟨g3, g4⟩ := gl_and g3
      exact st_obj hw F hn hc0 hz0 hd (am_in_mem g2) (am_in_mem g3) (am_in_mem g4) hfr8 hlo8 x
  | ireturn =>
    obtain ⟨rfl, rfl, q1⟩ := of_decide_eq_true hok
    exact st_ret F hd q1 x
  | return_ =>
    obtain ⟨rfl, rfl, rfl, q1⟩ := of_decide_eq_true hok
    exact st_vret F hd q1 x
  | _ => exact Bool.noConfusion hok
end AMY
/-- THE SIMULATION: what the abstract machine does, the real one does -/
theorem am_sim {S : State} {A0 : Array Value} {ad : Nat → Nat} {fv : Value} {dC : Nat → ClassId} {dI : Nat → Nat → Nat} {l : Launch} {P : am_P} (hw : am_Wd S A0 ad fv dC dI) (he : am_We S ad fv l) (hok : ∀ k pc q, P.1 k pc = some q → am_ok k pc q = true) (hml : ∀ k, P.2.2.1 k = am_ml k)
    (hk : ∀ k pc q, P.1 k pc = some q → q.2.2.1 = 23 → am_nt q.2.2.2.2.2.2.1 = false → ∀ y, am_hchk k pc y (P.2.1 k pc y) = true) : ∀ n, am_Sim S ad fv dC dI l P n
  | 0 => fun _ _ _ _ _ _ _ x => nomatch x
  | n + 1 => by
    have ih := am_sim hw he hok hml hk n
    intro k b pc ls st h r x p e R s m args below meth c h0 F hfr hlo hrc hrs hc0 hz0
    rw [am_ev] at x
    unfold am_stp at x
    cases hq : P.1 k pc with
    | none => rw [hq] at x; exact nomatch x
    | some q =>
      rw [hq] at x
      have h1 := hok k pc q hq
      unfold am_ok at h1
      obtain ⟨g1, g2⟩ := gl_and h1
      have hmo : ∀ (pc : Nat) (ls st : List Value) (h : am_H), am_ev 75 P n k b pc ls st h = some r → am_le h r.2 := fun _ _ _ _ z => am_ev_le2 n z
      exact am_step hw he F ih hml (fun pc ls st h z y1 y2 => ih k b pc ls st h r z p e R s m args below meth c h0 F hfr hlo hrc hrs y1 y2) hc0 hz0 hmo hrc hrs hfr hlo q.1 (of_decide_eq_true g1) g2 (hk k pc q hq) x
