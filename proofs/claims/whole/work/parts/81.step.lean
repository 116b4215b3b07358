/-! THE LAW: what holds at its loop's head; a call of each kind -/
abbrev lw_l (x4 : Int32) (w5 w6 : Value) : List Value := [.ref 0, .ref 75, .ref 147, .ref 185, .int x4, w5, w6]
def LwS (S : s_S) (sw : Bool) (I : Nat → Nat → Int32) : Prop := sC S sw I ∧ sM S I ∧ sG S ∧ vI I
def LwG (g N : Nat) (sw lv : Bool) (I : Nat → Nat → Int32) (L : Nat → Nat → Int64) (x4 : Int32) (w5 w6 : Value) (P : Nat) : Prop := ∃ g' S' sw' lv' I' L' w5' w6', am_R 300 105 P (lw_l x4 w5 w6) [] (am_hp g N sw lv I L) = am_R 300 105 2768 (lw_l x4 w5' w6') [] (am_hp g' N sw' lv' I' L') ∧ LwS S' sw' I' ∧ I' 0 = I 0 ∧ g ≤ g' ∧ g' ≤ g + 1
/-- a call of the class, its longs written too -/
def KCL (g N : Nat) (sw lv : Bool) (I : Nat → Nat → Int32) (x : Option am_Res) (o : a_O) (S' : s_S) : Prop := ∃ I' L', sC S' sw I' ∧ (∀ a, 147 ≤ a → I' a = I a) ∧ match o with
  | .inl v => x = some (.inl (some (.int v)), am_hp g N sw lv I' L')
  | .inr c => x = some (.inr c, am_hp (g + 1) N sw lv I' L')
/-- .. through the law's own method -/
def WC (fb : Int32 → Int64) (kk : Nat → Nat) (g N : Nat) (sw lv : Bool) (I : Nat → Nat → Int32) (x : Option am_Res) (o : a_O) (S' : s_S) : Prop := ∃ I' L' g' k, x = some (.inl (some (.int k)), am_hp g' N sw lv I' L') ∧ sC S' sw I' ∧ (∀ a, 147 ≤ a → I' a = I a) ∧ g ≤ g' ∧ g' ≤ g + 1 ∧ match o with
  | .inl v => k = 0 ∧ L' 185 0 = fb v
  | .inr c => k = Int32.ofNat (kk c)
def fb_b (v : Int32) : Int64 := cond (decide (v = 0)) 0 1
def okO (P : Nat → Prop) (o : a_O) : Prop := ∀ c, o = .inr c → P c
def okS (P : Nat → Prop) (o : a_O × s_S) : Prop := okO P o.1
theorem okO_l {P : Nat → Prop} {v : Int32} : okO P (.inl v) := fun c h => by cases h
theorem okO_r {P : Nat → Prop} {c : Nat} (h : P c) : okO P (.inr c) := fun d e => by cases e; exact h
theorem okO_c {P : Nat → Prop} {g : Bool} {a b : a_O} (ha : okO P a) (hb : okO P b) : okO P (cond g a b) := by cases g <;> assumption
theorem okS_c {P : Nat → Prop} {g : Bool} {a b : a_O × s_S} (ha : okS P a) (hb : okS P b) : okS P (cond g a b) := by cases g <;> assumption
theorem okS_p {P : Nat → Prop} {a : a_O} {S : s_S} (h : okO P a) : okS P (a, S) := h
section STEP
variable {g N : Nat} {sw lv : Bool} {I : Nat → Nat → Int32} {L : Nat → Nat → Int64} {S S' : s_S} {x4 : Int32} {w5 w6 : Value} {P P1 P2 ka ba kb bb : Nat} {la lb : List Value} {o : a_O} {kk : Nat → Nat} {fb : Int32 → Int64}
theorem KCL_of {X : Option am_Res} (h : KC g N sw lv L I X o S') : KCL g N sw lv I X o S' := by
  obtain ⟨I', h1, h2, h3⟩ := h
  refine ⟨I', L, h1, h2, ?_⟩
  cases o with
  | inl v => exact h3
  | inr c => exact h3
theorem hd_1000 (h : sG S) : t_d (sT S) ≤ 1000 := Int32.le_trans h.1.2.2.1 (by decide)
/-- int answers, nothing thrown -/
theorem LA_of (hL : LwS S sw I)
    (z1 : am_R 300 105 P (lw_l x4 w5 w6) [] (am_hp g N sw lv I L) = am_bd (am_R ka ba 0 la [] (am_hp g N sw lv I L)) (fun v h => am_R 300 105 P1 (lw_l x4 w5 w6) (v.toList ++ []) h) (fun c h => some (.inr c, h)))
    (z2 : ∀ (I1 : Nat → Nat → Int32) (y0 : Int32), I1 0 = I 0 → am_R 300 105 P1 (lw_l x4 w5 w6) [.int y0] (am_hp g N sw lv I1 L) = am_bd (am_R kb bb 0 lb [] (am_hp g N sw lv I1 L)) (fun v h => am_R 300 105 P2 (lw_l x4 w5 w6) (v.toList ++ [.int y0]) h) (fun c h => some (.inr c, h)))
    (z3 : ∀ (I2 : Nat → Nat → Int32) (y : Int32), am_R 300 105 P2 (lw_l x4 w5 w6) [.int y, .int y] (am_hp g N sw lv I2 L) = am_R 300 105 2768 (lw_l x4 w5 w6) [] (am_hp g N sw lv I2 L))
    (hka : iv_bad ka = false) (hkb : iv_bad kb = false)
    (hC : KC g N sw lv L I (am_R ka ba 0 la [] (am_hp g N sw lv I L)) o S')
    (hM : ∀ I1 : Nat → Nat → Int32, sM S I1 → KM g N sw lv L I1 kk (am_R kb bb 0 lb [] (am_hp g N sw lv I1 L)) o S')
    (hG : sG S') (ho : okO (fun _ => False) o) : LwG g N sw lv I L x4 w5 w6 P := by
  obtain ⟨l1, l2, l3, l4⟩ := hL
  cases o with
  | inr c => exact (ho c rfl).elim
  | inl v =>
    obtain ⟨I1, c1, c2, c3⟩ := hC
    have c3' : am_R ka ba 0 la [] (am_hp g N sw lv I L) = some (.inl (some (.int v)), am_hp g N sw lv I1 L) := c3
    obtain ⟨v1, v2⟩ := vI_run hka l4 c3'
    obtain ⟨u, I2, m1, m2, m3, m4⟩ := hM I1 (sM_fr l2 c2)
    have m4' : u = v ∧ I2 147 4 = 0 := m4
    obtain ⟨rfl, -⟩ := m4'
    obtain ⟨v3, v4⟩ := vI_run hkb v1 m1
    refine ⟨g, S', sw, lv, I2, L, w5, w6, ?_, ⟨sC_fr c1 m3, m2, hG, v3⟩, v4.trans v2, Nat.le_refl _, Nat.le_succ _⟩
    rw [z1, c3', am_bd_ok, am_tl, z2 I1 u v2, m1, am_bd_ok, am_tl, z3]
/-- no answers -/
theorem LV_of (hL : LwS S sw I)
    (z1 : am_R 300 105 P (lw_l x4 w5 w6) [] (am_hp g N sw lv I L) = am_bd (am_R ka ba 0 la [] (am_hp g N sw lv I L)) (fun v h => am_R 300 105 P1 (lw_l x4 w5 w6) (v.toList ++ []) h) (fun c h => some (.inr c, h)))
    (z2 : ∀ (I1 : Nat → Nat → Int32), am_R 300 105 P1 (lw_l x4 w5 w6) [] (am_hp g N sw lv I1 L) = am_bd (am_R kb bb 0 lb [] (am_hp g N sw lv I1 L)) (fun v h => am_R 300 105 P2 (lw_l x4 w5 w6) (v.toList ++ []) h) (fun c h => some (.inr c, h)))
    (z3 : ∀ (I2 : Nat → Nat → Int32), am_R 300 105 P2 (lw_l x4 w5 w6) [] (am_hp g N sw lv I2 L) = am_R 300 105 2768 (lw_l x4 w5 w6) [] (am_hp g N sw lv I2 L))
    (hka : iv_bad ka = false) (hkb : iv_bad kb = false)
    (hC : ∃ I', am_R ka ba 0 la [] (am_hp g N sw lv I L) = some (.inl none, am_hp g N sw lv I' L) ∧ sC S' sw I' ∧ ∀ a, 147 ≤ a → I' a = I a)
    (hM : ∀ I1 : Nat → Nat → Int32, sM S I1 → ∃ I', am_R kb bb 0 lb [] (am_hp g N sw lv I1 L) = some (.inl none, am_hp g N sw lv I' L) ∧ sM S' I' ∧ ∀ a, a < 147 → I' a = I1 a)
    (hG : sG S') : LwG g N sw lv I L x4 w5 w6 P := by
  obtain ⟨l1, l2, l3, l4⟩ := hL
  obtain ⟨I1, c1, c2, c3⟩ := hC
  obtain ⟨v1, v2⟩ := vI_run hka l4 c1
  obtain ⟨I2, m1, m2, m3⟩ := hM I1 (sM_fr l2 c3)
  obtain ⟨v3, v4⟩ := vI_run hkb v1 m1
  refine ⟨g, S', sw, lv, I2, L, w5, w6, ?_, ⟨sC_fr c2 m3, m2, hG, v3⟩, v4.trans v2, Nat.le_refl _, Nat.le_succ _⟩
  rw [z1, c1, am_bd_ok, am_tn, z2 I1, m1, am_bd_ok, am_tn, z3]
/-- answers, or a throw -/
theorem LB_of (hL : LwS S sw I)
    (z1 : am_R 300 105 P (lw_l x4 w5 w6) [] (am_hp g N sw lv I L) = am_bd (am_R ka ba 0 la [] (am_hp g N sw lv I L)) (fun v h => am_R 300 105 P1 (lw_l x4 w5 w6) (v.toList ++ []) h) (fun _ _ => none))
    (z2 : ∀ (g1 : Nat) (I1 : Nat → Nat → Int32) (L1 : Nat → Nat → Int64) (y0 : Int32), I1 0 = I 0 → am_R 300 105 P1 (lw_l x4 w5 w6) [.int y0] (am_hp g1 N sw lv I1 L1) = am_bd (am_R kb bb 0 lb [] (am_hp g1 N sw lv I1 L1)) (fun v h => am_R 300 105 P2 (lw_l x4 (.int y0) w6) (v.toList ++ []) h) (fun c h => some (.inr c, h)))
    (z3 : ∀ (g1 : Nat) (I2 : Nat → Nat → Int32) (L1 : Nat → Nat → Int64) (k b : Int32), I2 147 4 = k → (k = 0 → L1 185 0 = fb b) → am_R 300 105 P2 (lw_l x4 (.int k) w6) [.int b] (am_hp g1 N sw lv I2 L1) = am_R 300 105 2768 (lw_l x4 (.int k) (.int b)) [] (am_hp g1 N sw lv I2 L1))
    (hka : iv_bad ka = false) (hkb : iv_bad kb = false)
    (hC : WC fb kk g N sw lv I (am_R ka ba 0 la [] (am_hp g N sw lv I L)) o S')
    (hM : ∀ (g1 : Nat) (I1 : Nat → Nat → Int32) (L1 : Nat → Nat → Int64), sM S I1 → KM g1 N sw lv L1 I1 kk (am_R kb bb 0 lb [] (am_hp g1 N sw lv I1 L1)) o S')
    (hG : sG S') (ho : okO (fun c => kk c = 1 ∨ kk c = 2) o) : LwG g N sw lv I L x4 w5 w6 P := by
  obtain ⟨l1, l2, l3, l4⟩ := hL
  obtain ⟨I1, L1, g1, k, c1, c2, c3, c4, c5, c6⟩ := hC
  obtain ⟨v1, v2⟩ := vI_run hka l4 c1
  obtain ⟨u, I2, m1, m2, m3, m4⟩ := hM g1 I1 L1 (sM_fr l2 c3)
  obtain ⟨v3, v4⟩ := vI_run hkb v1 m1
  refine ⟨g1, S', sw, lv, I2, L1, .int k, .int u, ?_, ⟨sC_fr c2 m3, m2, hG, v3⟩, v4.trans v2, c4, c5⟩
  rw [z1, c1, am_bd_ok, am_tl, z2 g1 I1 L1 k v2, m1, am_bd_ok, am_tl]
  cases o with
  | inl v =>
    have c6' : k = 0 ∧ L1 185 0 = fb v := c6
    have m4' : u = v ∧ I2 147 4 = 0 := m4
    exact z3 g1 I2 L1 k u (m4'.2.trans c6'.1.symm) (fun _ => by rw [m4'.1]; exact c6'.2)
  | inr c =>
    have c6' : k = Int32.ofNat (kk c) := c6
    have m4' : I2 147 4 = Int32.ofNat (kk c) := m4
    refine z3 g1 I2 L1 k u (m4'.trans c6'.symm) (fun z => ?_)
    have h12 := ho c rfl
    rw [c6'] at z
    have := (nb_eq (b := 0) (by omega) (by decide)).mp z
    omega
theorem WC_of {kw bw p1 p2 : Nat} {lw : List Value} {X : Option am_Res}
    (z : am_R kw bw 0 lw [] (am_hp g N sw lv I L) = am_bd X (fun v h => am_R kw bw p2 lw (v.toList ++ [.int 0, .ref 185]) h) (fun c h => am_th (am_hd kw p1 c) (fun p l t h => am_R kw bw p l t h) lw c h))
    (zv : ∀ (I1 : Nat → Nat → Int32) (L1 : Nat → Nat → Int64) (y : Int32), am_R kw bw p2 lw [.int y, .int 0, .ref 185] (am_hp g N sw lv I1 L1) = some (.inl (some (.int 0)), am_hp g N sw lv I1 (am_up L1 185 (vp_updL (L1 185) 0 (fb y)))))
    (zt : ∀ (c : Nat) (I1 : Nat → Nat → Int32) (L1 : Nat → Nat → Int64), o = .inr c → am_th (am_hd kw p1 c) (fun p l t h => am_R kw bw p l t h) lw c (am_hp (g + 1) N sw lv I1 L1) = some (.inl (some (.int (Int32.ofNat (kk c)))), am_hp (g + 1) N sw lv I1 L1))
    (hC : KCL g N sw lv I X o S') : WC fb kk g N sw lv I (am_R kw bw 0 lw [] (am_hp g N sw lv I L)) o S' := by
  obtain ⟨I1, L1, c1, c2, c3⟩ := hC
  cases o with
  | inl v =>
    have c3' : X = some (.inl (some (.int v)), am_hp g N sw lv I1 L1) := c3
    refine ⟨I1, am_up L1 185 (vp_updL (L1 185) 0 (fb v)), g, 0, ?_, c1, c2, Nat.le_refl _, Nat.le_succ _, rfl, ?_⟩
    · rw [z, c3', am_bd_ok, am_tl, zv]
    · rw [up_same]
      exact pk_uLs
  | inr c =>
    have c3' : X = some (.inr c, am_hp (g + 1) N sw lv I1 L1) := c3
    refine ⟨I1, L1, g + 1, Int32.ofNat (kk c), ?_, c1, c2, Nat.le_succ _, Nat.le_refl _, rfl⟩
    rw [z, c3', am_bd_thr, zt c I1 L1 rfl]
end STEP
