/-! THE WHOLE STATE: what the text tells, the row, acts, what is seen, refusals, the tape, the place of the fault, the image -/
abbrev s_A : Type := Nat × (Nat → tr_T)
abbrev s_W : Type := Nat × (Nat → Nat) × (Nat → Nat) × (Nat → Bool)
abbrev s_I : Type := tr_T × s_A × s_W × (Nat → Int32)
abbrev s_S : Type := (e_E × Nat × tr_T) × s_A × s_W × (Nat → Int32) × (Nat × (Nat → Nat)) × Int32 × Option s_I
abbrev sE (S : s_S) : e_E := S.1.1
abbrev sB (S : s_S) : Nat := S.1.2.1
abbrev sT (S : s_S) : tr_T := S.1.2.2
abbrev sA (S : s_S) : s_A := S.2.1
abbrev sW (S : s_S) : s_W := S.2.2.1
abbrev sF (S : s_S) : Nat → Int32 := S.2.2.2.1
abbrev sP (S : s_S) : Nat × (Nat → Nat) := S.2.2.2.2.1
abbrev sX (S : s_S) : Int32 := S.2.2.2.2.2.1
abbrev sI (S : s_S) : Option s_I := S.2.2.2.2.2.2
/-- acts, in the class and in the reference -/
def aC (ac : Nat) (A : s_A) (I : Nat → Nat → Int32) : Prop := ∃ nx, nx < 40 ∧ I ac 1 = Int32.ofNat A.1 ∧ I ac 2 = Int32.ofNat nx ∧ ∀ i, i < A.1 → pC (ac + 1) (9 * ((nx + 40 - A.1 + i) % 40)) (A.2 i) I
def aM (pa j : Nat) (A : s_A) (I : Nat → Nat → Int32) : Prop := I 147 j = Int32.ofNat A.1 ∧ ∀ i, i < A.1 → pM pa (42 * i) (A.2 i) I
/-- what is seen -/
def wCs (se : Nat) (W : s_W) (I : Nat → Nat → Int32) : Prop := I se 3 = Int32.ofNat W.1 ∧ ∀ i, i < W.1 → I (se + 1) i = Int32.ofNat (W.2.1 i) ∧ I (se + 2) i = Int32.ofNat (W.2.2.1 i) ∧ I (se + 3) i = cond (W.2.2.2 i) 1 0
def wMs (j q d p : Nat) (W : s_W) (I : Nat → Nat → Int32) : Prop := I 147 j = Int32.ofNat W.1 ∧ ∀ i, i < W.1 → I q i = Int32.ofNat (W.2.1 i) ∧ I d i = Int32.ofNat (W.2.2.1 i) ∧ I p i = cond (W.2.2.2 i) 1 0
/-- the tape -/
def tC (P : Nat × (Nat → Nat)) (I : Nat → Nat → Int32) : Prop := I 77 1 = Int32.ofNat P.1 ∧ ∀ i, i < P.1 → I 78 i = (Int32.ofNat (P.2 i)).toInt8.toInt32
def tM (P : Nat × (Nat → Nat)) (I : Nat → Nat → Int32) : Prop := I 147 16 = Int32.ofNat P.1 ∧ ∀ i, i < P.1 → I 161 i = Int32.ofNat (P.2 i)
/-- the image -/
def iC (x : Option s_I) (I : Nat → Nat → Int32) : Prop := match x with
  | none => I 126 0 = 0
  | some y => I 126 0 = 1 ∧ rC 127 y.1 I ∧ aC 137 y.2.1 I ∧ wCs 139 y.2.2.1 I ∧ ∀ k, k < 3 → I 143 k = y.2.2.2 k
def iM (x : Option s_I) (I : Nat → Nat → Int32) : Prop := match x with
  | none => I 147 51 = 0
  | some y => I 147 51 = 1 ∧ pM 179 0 y.1 I ∧ aM 180 52 y.2.1 I ∧ wMs 53 181 182 184 y.2.2.1 I ∧ ∀ k, k < 3 → I 183 k = y.2.2.2 k
/-- what always holds -/
def gT (n : Nat) (T : tr_T) : Prop := t_ok T ∧ t_n T = n ∧ t_d T ≤ 999 ∧ t_pos T
def gA (n : Nat) (A : s_A) : Prop := A.1 ≤ 40 ∧ ∀ i, i < A.1 → gT n (A.2 i)
def gW (W : s_W) : Prop := W.1 ≤ 8 ∧ ∀ i, i < W.1 → W.2.1 i < 6 ∧ W.2.2.1 i ≤ 20
def sG (S : s_S) : Prop := gT (t_n (sT S)) (sT S) ∧ gA (t_n (sT S)) (sA S) ∧ gW (sW S) ∧ ((sP S).1 ≤ 700 ∧ ∀ i, i < (sP S).1 → (sP S).2 i < 256) ∧ e_pos (sE S) ∧ ∀ y, sI S = some y → gT (t_n (sT S)) y.1 ∧ gA (t_n (sT S)) y.2.1 ∧ gW y.2.2.1
def sC (S : s_S) (sw : Bool) (I : Nat → Nat → Int32) : Prop := cC (sE S) (sB S) (sT S) sw I ∧ aC 119 (sA S) I ∧ wCs 121 (sW S) I ∧ (∀ k, k < 3 → I 125 k = sF S k) ∧ tC (sP S) I ∧ I 75 1 = sX S ∧ iC (sI S) I
def sM (S : s_S) (I : Nat → Nat → Int32) : Prop := cM (sE S) (sB S) (sT S) I ∧ aM 167 35 (sA S) I ∧ wMs 36 172 173 175 (sW S) I ∧ (∀ k, k < 3 → I 160 k = sF S k) ∧ tM (sP S) I ∧ I 147 25 = sX S ∧ iM (sI S) I
section STATE
variable {g N : Nat} {sw lv : Bool} {I I' : Nat → Nat → Int32} {L : Nat → Nat → Int64} {S : s_S}
theorem pC_fr {a o : Nat} {T : tr_T} (h : pC a o T I) (e : I' a = I a) : pC a o T I' := by
  unfold pC
  rw [e]
  exact h
theorem aC_fr {ac : Nat} {A : s_A} (h : aC ac A I) (e1 : I' ac = I ac) (e2 : I' (ac + 1) = I (ac + 1)) : aC ac A I' := by
  obtain ⟨nx, h1, h2, h3, h4⟩ := h
  refine ⟨nx, h1, ?_, ?_, fun i hi => pC_fr (h4 i hi) e2⟩
  · rw [e1]
    exact h2
  · rw [e1]
    exact h3
theorem aM_fr {pa j : Nat} {A : s_A} (h : aM pa j A I) (e1 : I' 147 j = I 147 j) (e2 : I' pa = I pa) : aM pa j A I' := ⟨by rw [e1]; exact h.1, fun i hi => pM_fr (h.2 i hi) e2⟩
theorem wCs_fr {se : Nat} {W : s_W} (h : wCs se W I) (e : ∀ a, se ≤ a → a ≤ se + 3 → I' a = I a) : wCs se W I' := by
  unfold wCs
  rw [e se (by omega) (by omega), e (se + 1) (by omega) (by omega), e (se + 2) (by omega) (by omega), e (se + 3) (by omega) (by omega)]
  exact h
theorem wMs_fr {j q d p : Nat} {W : s_W} (h : wMs j q d p W I) (e1 : I' 147 j = I 147 j) (e2 : I' q = I q) (e3 : I' d = I d) (e4 : I' p = I p) : wMs j q d p W I' := by
  unfold wMs
  rw [e1, e2, e3, e4]
  exact h
theorem iC_fr {x : Option s_I} (h : iC x I) (e : ∀ a, 126 ≤ a → a ≤ 143 → I' a = I a) : iC x I' := by
  cases x with
  | none =>
    show I' 126 0 = 0
    rw [e 126 (by decide) (by decide)]
    exact h
  | some y =>
    obtain ⟨h1, h2, h3, h4, h5⟩ := h
    refine ⟨?_, rC_fr h2 (fun a p q => e a (by omega) (by omega)), aC_fr h3 (e 137 (by decide) (by decide)) (e 138 (by decide) (by decide)), wCs_fr h4 (fun a p q => e a (by omega) (by omega)), ?_⟩
    · rw [e 126 (by decide) (by decide)]
      exact h1
    · rw [e 143 (by decide) (by decide)]
      exact h5
theorem iM_fr {x : Option s_I} (h : iM x I) (e : ∀ a, 179 ≤ a → a ≤ 184 → I' a = I a) (e2 : ∀ j, 51 ≤ j → j ≤ 53 → I' 147 j = I 147 j) : iM x I' := by
  cases x with
  | none =>
    show I' 147 51 = 0
    rw [e2 51 (by decide) (by decide)]
    exact h
  | some y =>
    obtain ⟨h1, h2, h3, h4, h5⟩ := h
    refine ⟨?_, pM_fr h2 (e 179 (by decide) (by decide)), aM_fr h3 (e2 52 (by decide) (by decide)) (e 180 (by decide) (by decide)), wMs_fr h4 (e2 53 (by decide) (by decide)) (e 181 (by decide) (by decide)) (e 182 (by decide) (by decide)) (e 184 (by decide) (by decide)), ?_⟩
    · rw [e2 51 (by decide) (by decide)]
      exact h1
    · rw [e 183 (by decide) (by decide)]
      exact h5
theorem tC_fr {P : Nat × (Nat → Nat)} (h : tC P I) (e1 : I' 77 = I 77) (e2 : I' 78 = I 78) : tC P I' := by
  unfold tC
  rw [e1, e2]
  exact h
theorem tM_fr {P : Nat × (Nat → Nat)} (h : tM P I) (e1 : I' 147 16 = I 147 16) (e2 : I' 161 = I 161) : tM P I' := by
  unfold tM
  rw [e1, e2]
  exact h
theorem sC_zf (h : sC S sw I) (z : zf I I') : sC S sw I' := by
  obtain ⟨h1, h2, h3, h4, h5, h6, h7⟩ := h
  refine ⟨cC_zf h1 z, aC_fr h2 (z 119 (by decide)) (z 120 (by decide)), wCs_fr h3 (fun a p q => z a (by omega)), ?_, tC_fr h5 (z 77 (by decide)) (z 78 (by decide)), ?_, iC_fr h7 (fun a p q => z a (by omega))⟩
  · rw [z 125 (by decide)]
    exact h4
  · rw [z 75 (by decide)]
    exact h6
/-- the class's state goes on where these addresses are as they were -/
theorem sC_of {T' : tr_T} {A' : s_A} {W' : s_W} {F' : Nat → Int32} {P' : Nat × (Nat → Nat)} {X' : Int32} (h : sC S sw I) (hr : rC 99 T' I') (ha : aC 119 A' I') (hw : wCs 121 W' I') (hf : ∀ k, k < 3 → I' 125 k = F' k) (hp : tC P' I') (hx : I' 75 1 = X') (e : ∀ a, 79 ≤ a ∧ a < 88 ∨ 88 < a ∧ a < 98 ∨ 126 ≤ a ∧ a ≤ 143 → I' a = I a) : sC ((sE S, sB S, T'), A', W', F', P', X', sI S) sw I' := by
  obtain ⟨h1, h2, h3, h4, h5, h6, h7⟩ := h
  refine ⟨⟨qC_fr h1.1 (fun a p1 p2 => e a (by cases sw <;> simp only [cond_true, cond_false] at p1 p2 <;> omega)), hr, ?_, h1.2.2.2⟩, ha, hw, hf, hp, hx, iC_fr h7 (fun a p q => e a (by omega))⟩
  show I' (cond sw 89 79) 1 = _
  rw [e (cond sw 89 79) (by cases sw <;> decide)]
  exact h1.2.2.1
theorem sC_fr (h : sC S sw I) (e : ∀ a, a < 147 → I' a = I a) : sC S sw I' := by
  obtain ⟨h1, h2, h3, h4, h5, h6, h7⟩ := h
  refine sC_of (S := S) ⟨h1, h2, h3, h4, h5, h6, h7⟩ (rC_fr h1.2.1 (fun a p q => e a (by omega))) (aC_fr h2 (e 119 (by decide)) (e 120 (by decide))) (wCs_fr h3 (fun a p q => e a (by omega))) ?_ (tC_fr h5 (e 77 (by decide)) (e 78 (by decide))) ?_ (fun a q => e a (by omega))
  · rw [e 125 (by decide)]
    exact h4
  · rw [e 75 (by decide)]
    exact h6
/-- the reference's state goes on where these addresses are as they were -/
theorem sM_of {T' : tr_T} {A' : s_A} {W' : s_W} {F' : Nat → Int32} {P' : Nat × (Nat → Nat)} {X' : Int32} (h : sM S I) (hr : rM T' I') (hn : t_n T' = t_n (sT S)) (h37 : I' 147 37 = -1) (ha : aM 167 35 A' I') (hw : wMs 36 172 173 175 W' I') (hf : ∀ k, k < 3 → I' 160 k = F' k) (hp : tM P' I') (hx : I' 147 25 = X') (e : ∀ a, 151 ≤ a ∧ a ≤ 159 ∨ 179 ≤ a ∧ a ≤ 184 → I' a = I a) (e2 : ∀ j, 51 ≤ j → j ≤ 53 → I' 147 j = I 147 j) : sM ((sE S, sB S, T'), A', W', F', P', X', sI S) I' := by
  obtain ⟨h1, h2, h3, h4, h5, h6, h7⟩ := h
  refine ⟨⟨qM_fr h1.1 (fun a p q => e a (by omega)), hr, h37, fun j hj => ?_⟩, ha, hw, hf, hp, hx, iM_fr h7 (fun a p q => e a (by omega)) e2⟩
  rw [e 152 (by decide)]
  exact h1.2.2.2 j (by
    have hj2 : j < t_n T' := hj
    omega)
theorem sM_zM (h : sM S I) (z : zM I I') (hr : rM (sT S) I') (h37 : I' 147 37 = -1) : sM S I' := by
  obtain ⟨h1, h2, h3, h4, h5, h6, h7⟩ := h
  refine sM_of (S := S) ⟨h1, h2, h3, h4, h5, h6, h7⟩ hr rfl h37 (aM_fr h2 (z.2 35 (by decide) (by decide) (by decide) (by decide) (by decide) (by decide)) (z.1 167 (by decide) (by decide))) (wMs_fr h3 (z.2 36 (by decide) (by decide) (by decide) (by decide) (by decide) (by decide)) (z.1 172 (by decide) (by decide)) (z.1 173 (by decide) (by decide)) (z.1 175 (by decide) (by decide))) ?_ (tM_fr h5 (z.2 16 (by decide) (by decide) (by decide) (by decide) (by decide) (by decide)) (z.1 161 (by decide) (by decide))) ?_ (fun a q => z.1 a (by omega) (by omega)) (fun j p q => z.2 j (by omega) (by omega) (by omega) (by omega) (by omega) (by omega))
  · rw [z.1 160 (by decide) (by decide)]
    exact h4
  · rw [z.2 25 (by decide) (by decide) (by decide) (by decide) (by decide) (by decide)]
    exact h6
theorem sM_fr (h : sM S I) (e : ∀ a, 147 ≤ a → I' a = I a) : sM S I' := by
  obtain ⟨h1, h2, h3, h4, h5, h6, h7⟩ := h
  have e7 : I' 147 = I 147 := e 147 (by decide)
  have hr : rM (sT S) I' := rM_fr h1.2.1 (fun a q => e a (by omega)) (by rw [e7]) (by rw [e7])
  refine sM_of (S := S) ⟨h1, h2, h3, h4, h5, h6, h7⟩ hr rfl (by rw [e7]; exact h1.2.2.1) (aM_fr h2 (by rw [e7]) (e 167 (by decide))) (wMs_fr h3 (by rw [e7]) (e 172 (by decide)) (e 173 (by decide)) (e 175 (by decide))) ?_ (tM_fr h5 (by rw [e7]) (e 161 (by decide))) (by rw [e7]; exact h6) (fun a q => e a (by omega)) (fun j _ _ => by rw [e7])
  rw [e 160 (by decide)]
  exact h4
/-- a call, in the class -/
def KC (g N : Nat) (sw lv : Bool) (L : Nat → Nat → Int64) (I : Nat → Nat → Int32) (x : Option am_Res) (o : a_O) (S' : s_S) : Prop := ∃ I', sC S' sw I' ∧ (∀ a, 147 ≤ a → I' a = I a) ∧ match o with
  | .inl v => x = some (.inl (some (.int v)), am_hp g N sw lv I' L)
  | .inr c => x = some (.inr c, am_hp (g + 1) N sw lv I' L)
/-- a call, in the reference -/
def KM (g N : Nat) (sw lv : Bool) (L : Nat → Nat → Int64) (I : Nat → Nat → Int32) (k : Nat → Nat) (x : Option am_Res) (o : a_O) (S' : s_S) : Prop := ∃ v I', x = some (.inl (some (.int v)), am_hp g N sw lv I' L) ∧ sM S' I' ∧ (∀ a, a < 147 → I' a = I a) ∧ match o with
  | .inl u => v = u ∧ I' 147 4 = 0
  | .inr c => I' 147 4 = Int32.ofNat (k c)
theorem KC_of {x : Option am_Res} {o : a_O} (h : sC S sw I) (q : oC g N sw lv L I x o) : KC g N sw lv L I x o S := by
  obtain ⟨J, z, e⟩ := q
  refine ⟨J, sC_zf h z, fun a p => z a (by omega), ?_⟩
  cases o with
  | inl v => exact e
  | inr c => exact e
theorem KM_of {k : Nat → Nat} {x : Option am_Res} {o : a_O} (h : sM S I) (q : oM g N sw lv L (sT S) I k x o) : KM g N sw lv L I k x o S := by
  obtain ⟨v, J, e, r, z, h37, m⟩ := q
  refine ⟨v, J, e, sM_zM h z r h37, fun a p => z.1 a (by omega) (by omega), ?_⟩
  cases o with
  | inl u => exact m
  | inr c => exact m
theorem KC_v {x : Option am_Res} {v : Int32} {S' : s_S} {J : Nat → Nat → Int32} (h : sC S' sw J) (f : ∀ a, 147 ≤ a → J a = I a) (e : x = some (.inl (some (.int v)), am_hp g N sw lv J L)) : KC g N sw lv L I x (.inl v) S' := ⟨J, h, f, e⟩
theorem KC_t {x : Option am_Res} {c : Nat} (h : sC S sw I) (e : x = some (.inr c, am_hp (g + 1) N sw lv I L)) : KC g N sw lv L I x (.inr c) S := ⟨I, h, fun _ _ => rfl, e⟩
theorem KM_v {k : Nat → Nat} {x : Option am_Res} {v : Int32} {S' : s_S} {J : Nat → Nat → Int32} (h : sM S' J) (f : ∀ a, a < 147 → J a = I a) (h4 : J 147 4 = 0) (e : x = some (.inl (some (.int v)), am_hp g N sw lv J L)) : KM g N sw lv L I k x (.inl v) S' := ⟨v, J, e, h, f, rfl, h4⟩
theorem KM_t (h : sM S I) {k : Nat → Nat} {c : Nat} {v : Int32} {x : Option am_Res} (e : x = some (.inl (some (.int v)), am_hp g N sw lv (am_up (am_up I 147 (upd (I 147) 4 0)) 147 (upd (upd (I 147) 4 0) 4 (Int32.ofNat (k c)))) L)) : KM g N sw lv L I k x (.inr c) S := KM_of h (oM_t h.1 e)
theorem sM_4 (h : sM S I) (x : Int32) : sM S (am_up I 147 (upd (I 147) 4 x)) := sM_zM h (zM_4 x) (cM_4 h.1 x).2.1 (cM_4 h.1 x).2.2.1
end STATE
