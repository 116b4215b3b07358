/-! PARSING: codes, states, small steps -/
abbrev s_K : Type := Nat × (Nat → Int32)
def kadd (k : s_K) (x : Int32) : s_K := (k.1 + 1, fun i => if i = k.1 then x else k.2 i)
def kap (k : s_K) : List Int32 → s_K
  | [] => k
  | x :: l => kap (kadd k x) l
theorem kap_ap : ∀ (a b : List Int32) (k : s_K), kap k (a ++ b) = kap (kap k a) b
  | [], _, _ => rfl
  | x :: a, b, k => kap_ap a b (kadd k x)
theorem kap_1 : ∀ (l : List Int32) (k : s_K), (kap k l).1 = k.1 + l.length
  | [], _ => rfl
  | x :: l, k => by
    show (kap (kadd k x) l).1 = k.1 + (l.length + 1)
    rw [kap_1 l]
    show k.1 + 1 + l.length = _
    omega
/-- the reference's codes -/
def mc (x : Int32) : Int32 := cond (decide (-8 < x)) x (cond (decide (x = -8)) (-28) (cond (decide (x = -9)) (-27) (cond (decide (x = -10)) (-26) (cond (decide (x = -11)) (-24) (cond (decide (x = -12)) (-25) (cond (decide (x = -13)) (-20) (cond (decide (x = -14)) (-21) (cond (decide (x = -15)) (-22) (-23)))))))))
def kC (rc : Nat) (k : s_K) (I : Nat → Nat → Int32) : Prop := I rc 11 = Int32.ofNat k.1 ∧ ∀ i, i < k.1 → I (rc + 8) i = k.2 i
def kMs (w : Bool) (k : s_K) (I : Nat → Nat → Int32) : Prop := I 147 26 = cond w 1 0 ∧ I 151 (cond w 7 6) = Int32.ofNat k.1 ∧ ∀ i, i < k.1 → I (cond w 159 158) (700 + i) = mc (k.2 i)
/-- an end: a fault and its place, or the place and the codes -/
abbrev p_R : Type := (Nat × Nat) ⊕ (Nat × List Int32)
def pG (X : x_X) (rc q : Nat) (k : s_K) (I : Nat → Nat → Int32) : Prop := cT X q I ∧ I 76 1 = 0 ∧ kC rc k I
def pF (X : x_X) (rc f pl : Nat) (I : Nat → Nat → Int32) : Prop := (∃ q, q ≤ X.1 ∧ cT X q I) ∧ I 76 1 = Int32.ofNat f ∧ I 76 2 = Int32.ofNat pl ∧ ∃ m, m ≤ 700 ∧ I rc 11 = Int32.ofNat m
def fP (rc : Nat) (I I' : Nat → Nat → Int32) : Prop := (∀ a, a ≠ 76 → a ≠ 77 → a ≠ rc → a ≠ rc + 8 → I' a = I a) ∧ I' 77 1 = I 77 1 ∧ (∀ j, j ≠ 11 → I' rc j = I rc j) ∧ ∀ j, j ≠ 1 → j ≠ 2 → I' 76 j = I 76 j
theorem fP_rfl {rc : Nat} {I : Nat → Nat → Int32} : fP rc I I := ⟨fun _ _ _ _ _ => rfl, rfl, fun _ _ => rfl, fun _ _ _ => rfl⟩
theorem fP_tr {rc : Nat} {I I' I'' : Nat → Nat → Int32} (h1 : fP rc I I') (h2 : fP rc I' I'') : fP rc I I'' := ⟨fun a p q r s => (h2.1 a p q r s).trans (h1.1 a p q r s), h2.2.1.trans h1.2.1, fun j p => (h2.2.2.1 j p).trans (h1.2.2.1 j p), fun j p q => (h2.2.2.2 j p q).trans (h1.2.2.2 j p q)⟩
def pE (X : x_X) (rc : Nat) (k : s_K) (r : p_R) (I' : Nat → Nat → Int32) : Prop := match r with
  | .inl fp => pF X rc fp.1 fp.2 I'
  | .inr qc => pG X rc qc.1 (kap k qc.2) I'
def mG (X : x_X) (w : Bool) (q : Nat) (k : s_K) (I : Nat → Nat → Int32) : Prop := mT X q I ∧ I 147 23 = 0 ∧ kMs w k I
def mF (f pl : Nat) (I : Nat → Nat → Int32) : Prop := I 147 23 = Int32.ofNat f ∧ I 147 24 = Int32.ofNat pl
def fDm (w : Bool) (I I' : Nat → Nat → Int32) : Prop := (∀ a, a ≠ 147 → a ≠ 151 → a ≠ cond w 159 158 → I' a = I a) ∧ (∀ j, j < 17 ∨ j = 18 ∨ 24 < j → I' 147 j = I 147 j) ∧ (∀ j, j ≠ cond w 7 6 → I' 151 j = I 151 j) ∧ ∀ i, i < 700 → I' (cond w 159 158) i = I (cond w 159 158) i
theorem fDm_rfl {w : Bool} {I : Nat → Nat → Int32} : fDm w I I := ⟨fun _ _ _ _ => rfl, fun _ _ => rfl, fun _ _ => rfl, fun _ _ => rfl⟩
theorem fDm_tr {w : Bool} {I I' I'' : Nat → Nat → Int32} (h1 : fDm w I I') (h2 : fDm w I' I'') : fDm w I I'' := ⟨fun a p q r => (h2.1 a p q r).trans (h1.1 a p q r), fun j p => (h2.2.1 j p).trans (h1.2.1 j p), fun j p => (h2.2.2.1 j p).trans (h1.2.2.1 j p), fun i p => (h2.2.2.2 i p).trans (h1.2.2.2 i p)⟩
def mE (X : x_X) (w : Bool) (k : s_K) (r : p_R) (I' : Nat → Nat → Int32) : Prop := match r with
  | .inl fp => mF fp.1 fp.2 I'
  | .inr qc => mG X w qc.1 (kap k qc.2) I'
/-- heights: how codes run on a stack of at most m -/
def bl (w : Bool) (m : Nat) : List Int32 → Nat → Option Nat
  | [], s => some s
  | x :: l, s => cond (decide (-8 < x)) (cond (decide (s + 1 ≤ m) && (decide (0 ≤ x) || decide (-1 - x < Int32.ofNat (cond w 7 5)))) (bl w m l (s + 1)) none) (cond (decide (x = -8)) (cond (decide (1 ≤ s)) (bl w m l s) none) (cond (decide (2 ≤ s)) (bl w m l (s - 1)) none))
theorem bl_ap (w : Bool) (m : Nat) : ∀ (a b : List Int32) (s : Nat), bl w m (a ++ b) s = (bl w m a s).bind (bl w m b)
  | [], _, _ => rfl
  | x :: a, b, s => by
    show bl w m (x :: (a ++ b)) s = _
    unfold bl
    rw [bl_ap w m a b, bl_ap w m a b, bl_ap w m a b]
    cases decide (-8 < x) with
    | true => cases (decide (s + 1 ≤ m) && (decide (0 ≤ x) || decide (-1 - x < Int32.ofNat (cond w 7 5)))) <;> rfl
    | false =>
      cases decide (x = -8) with
      | true => cases decide (1 ≤ s) <;> rfl
      | false => cases decide (2 ≤ s) <;> rfl
theorem bl_up (w : Bool) {m m' j : Nat} (h : m + j ≤ m') : ∀ (a : List Int32) (s t : Nat), bl w m a s = some t → bl w m' a (s + j) = some (t + j)
  | [], s, t, e => by
    cases e
    rfl
  | x :: a, s, t, e => by
    unfold bl at e ⊢
    cases hx : decide (-8 < x) with
    | true =>
      rw [hx] at e
      cases hc : (decide (s + 1 ≤ m) && (decide (0 ≤ x) || decide (-1 - x < Int32.ofNat (cond w 7 5)))) with
      | false =>
        rw [hc] at e
        cases e
      | true =>
        rw [hc] at e
        rw [Bool.and_eq_true, decide_eq_true_iff] at hc
        rw [decide_eq_true (by omega : s + j + 1 ≤ m'), hc.2]
        have := bl_up w h a (s + 1) t e
        rw [show s + 1 + j = s + j + 1 by omega] at this
        exact this
    | false =>
      rw [hx] at e
      cases hy : decide (x = -8) with
      | true =>
        rw [hy] at e
        cases hc : decide (1 ≤ s) with
        | false =>
          rw [hc] at e
          cases e
        | true =>
          rw [hc] at e
          rw [decide_eq_true (by have := of_decide_eq_true hc; omega : 1 ≤ s + j)]
          exact bl_up w h a s t e
      | false =>
        rw [hy] at e
        cases hc : decide (2 ≤ s) with
        | false =>
          rw [hc] at e
          cases e
        | true =>
          rw [hc] at e
          have h2 := of_decide_eq_true hc
          rw [decide_eq_true (by omega : 2 ≤ s + j)]
          have := bl_up w h a (s - 1) t e
          rw [show s - 1 + j = s + j - 1 by omega] at this
          exact this
/-- what an end says -/
def gd (X : x_X) (w : Bool) (q m s : Nat) (r : p_R) : Prop := match r with
  | .inl fp => 0 < fp.1 ∧ fp.1 < 100 ∧ fp.2 ≤ X.1
  | .inr qc => q ≤ qc.1 ∧ qc.1 ≤ X.1 ∧ qc.2.length ≤ qc.1 - q ∧ bl w m qc.2 s = some 1
theorem blt_t {a b : Nat} (h : a < b) : Nat.blt a b = true := Nat.ble_eq_true_of_le h
section PARS
variable {g N : Nat} {sw lv : Bool} {I : Nat → Nat → Int32} {L : Nat → Nat → Int64} {X : x_X} {q : Nat} {rc : Nat} {w : Bool} {k : s_K}
theorem kC_add {x : Int32} (h : kC rc k I) : kC rc (kadd k x) (am_up (am_up I (rc + 8) (upd (I (rc + 8)) k.1 x)) rc (upd (I rc) 11 (Int32.ofNat (k.1 + 1)))) := by
  refine ⟨by rw [up_same, upd_same]; rfl, fun i hi => ?_⟩
  have hi2 : i < k.1 + 1 := hi
  rw [up_ne (by omega), up_same]
  show upd (I (rc + 8)) k.1 x i = if i = k.1 then x else k.2 i
  by_cases e : i = k.1
  · rw [if_pos e, e, upd_same]
  · rw [if_neg e, upd_ne e]
    exact h.2 i (by omega)
/-- a code is added -/
theorem C_addc {α : Type} (F : (Nat → Nat → Int32) → α) {z : α} {x : Int32} (h : kC rc k I) (hk : k.1 < 700) : cond (decide (700 ≤ I rc 11)) (F I) (cond (am_inb (I rc 11) 700) (F (am_up (am_up I (rc + 8) (upd (I (rc + 8)) (Int32.toNatClampNeg (I rc 11)) x)) rc (upd (I rc) 11 (I rc 11 + 1)))) z) = F (am_up (am_up I (rc + 8) (upd (I (rc + 8)) k.1 x)) rc (upd (I rc) 11 (Int32.ofNat (k.1 + 1)))) := by
  rw [h.1, show decide ((700 : Int32) ≤ Int32.ofNat k.1) = decide (700 ≤ k.1) from nb_dle (a := 700) (by decide) (by omega), d_f (by omega : ¬ 700 ≤ k.1), nb_inb hk (by omega), nb_tn (by omega), nb_s]
  rfl
theorem C_addg {α : Type} (F : (Nat → Nat → Int32) → α) {z : α} {x : Int32} {m : Nat} (hm : m ≤ 700) (h : I rc 11 = Int32.ofNat m) : ∃ I', cond (decide (700 ≤ I rc 11)) (F I) (cond (am_inb (I rc 11) 700) (F (am_up (am_up I (rc + 8) (upd (I (rc + 8)) (Int32.toNatClampNeg (I rc 11)) x)) rc (upd (I rc) 11 (I rc 11 + 1)))) z) = F I' ∧ (∃ m, m ≤ 700 ∧ I' rc 11 = Int32.ofNat m) ∧ (∀ a, a ≠ rc → a ≠ rc + 8 → I' a = I a) ∧ ∀ j, j ≠ 11 → I' rc j = I rc j := by
  rw [h, show decide ((700 : Int32) ≤ Int32.ofNat m) = decide (700 ≤ m) from nb_dle (a := 700) (by decide) (by omega)]
  by_cases q : 700 ≤ m
  · rw [d_t q]
    exact ⟨I, rfl, ⟨m, hm, h⟩, fun _ _ _ => rfl, fun _ _ => rfl⟩
  · rw [d_f q, nb_inb (show m < 700 by omega) (by omega), nb_tn (by omega), nb_s]
    refine ⟨_, rfl, ⟨m + 1, by omega, by rw [up_same, upd_same]⟩, fun a p1 p2 => by rw [up_ne p1, up_ne p2], fun j p => by rw [up_same, upd_ne p]⟩
def layI (w : Bool) (m : Nat) (x : Int32) (I : Nat → Nat → Int32) : Nat → Nat → Int32 := am_up (am_up I (cond w 159 158) (upd (I (cond w 159 158)) (700 + m) x)) 151 (upd (I 151) (cond w 7 6) (Int32.ofNat (m + 1)))
theorem M_layc {α : Type} (F : (Nat → Nat → Int32) → α) {z : α} {x : Int32} (h : kMs w k I) (h23 : I 147 23 = 0) (hk : k.1 < 700) : cond (decide (I 147 23 = 0)) (cond (decide (I 147 26 = 0)) (cond (decide (I 147 26 = 0)) (cond (am_inb (700 + (I 151 6)) 1400) (F (am_up (am_up I 158 (upd (I 158) (Int32.toNatClampNeg (700 + (I 151 6))) x)) 151 (upd (I 151) 6 ((I 151 6) + 1)))) z) (cond (am_inb (700 + (I 151 6)) 1400) (F (am_up (am_up I 159 (upd (I 159) (Int32.toNatClampNeg (700 + (I 151 6))) x)) 151 (upd (I 151) 6 ((I 151 6) + 1)))) z)) (cond (decide (I 147 26 = 0)) (cond (am_inb (700 + (I 151 7)) 1400) (F (am_up (am_up I 158 (upd (I 158) (Int32.toNatClampNeg (700 + (I 151 7))) x)) 151 (upd (I 151) 7 ((I 151 7) + 1)))) z) (cond (am_inb (700 + (I 151 7)) 1400) (F (am_up (am_up I 159 (upd (I 159) (Int32.toNatClampNeg (700 + (I 151 7))) x)) 151 (upd (I 151) 7 ((I 151 7) + 1)))) z))) (F I) = F (layI w k.1 x I) := by
  obtain ⟨h1, h2, -⟩ := h
  have e7 : (700 : Int32) + Int32.ofNat k.1 = Int32.ofNat (700 + k.1) := nb_add 700 k.1
  rw [h23, d_t rfl, h1]
  unfold layI
  cases w with
  | true =>
    have h2' : I 151 7 = Int32.ofNat k.1 := h2
    rw [h2', e7, nb_inb (show 700 + k.1 < 1400 by omega) (by omega), nb_tn (show 700 + k.1 < 100000 by omega), nb_s]
    rfl
  | false =>
    have h2' : I 151 6 = Int32.ofNat k.1 := h2
    rw [h2', e7, nb_inb (show 700 + k.1 < 1400 by omega) (by omega), nb_tn (show 700 + k.1 < 100000 by omega), nb_s]
    rfl
theorem kMs_add {c : Int32} (h : kMs w k I) : kMs w (kadd k c) (layI w k.1 (mc c) I) := by
  obtain ⟨h1, h2, h3⟩ := h
  have hne : (cond w 159 158 : Nat) ≠ 151 := by cases w <;> decide
  have hne7 : (147 : Nat) ≠ cond w 159 158 := by cases w <;> decide
  unfold layI
  refine ⟨by rw [up_ne (by decide), up_ne hne7]; exact h1, by rw [up_same, upd_same]; rfl, fun i hi => ?_⟩
  have hi2 : i < k.1 + 1 := hi
  rw [up_ne hne, up_same]
  show upd _ (700 + k.1) (mc c) (700 + i) = mc (if i = k.1 then c else k.2 i)
  by_cases e : i = k.1
  · rw [if_pos e, e, upd_same]
  · rw [if_neg e, upd_ne (by omega)]
    exact h3 i (by omega)
theorem fDm_lay {m : Nat} {x : Int32} : fDm w I (layI w m x I) := by
  have hne : (cond w 159 158 : Nat) ≠ 151 := by cases w <;> decide
  have hne7 : (147 : Nat) ≠ cond w 159 158 := by cases w <;> decide
  unfold layI
  refine ⟨fun a _ p q => by rw [up_ne p, up_ne q], fun j _ => by rw [up_ne (by decide), up_ne hne7], fun j p => by rw [up_same, upd_ne p], fun i p => by rw [up_ne hne, up_same, upd_ne (by omega)]⟩
theorem mG_lay {c : Int32} (h : mG X w q k I) : mG X w q (kadd k c) (layI w k.1 (mc c) I) := by
  have hne7 : (147 : Nat) ≠ cond w 159 158 := by cases w <;> decide
  have h161 : (161 : Nat) ≠ cond w 159 158 := by cases w <;> decide
  refine ⟨mT_fr h.1 (fun j _ _ => by unfold layI; rw [up_ne (by decide), up_ne hne7]) (by unfold layI; rw [up_ne (by decide), up_ne h161]), by unfold layI; rw [up_ne (by decide), up_ne hne7]; exact h.2.1, kMs_add h.2.2⟩
theorem pG_add {c : Int32} (hr : am_isc rc) (h : pG X rc q k I) : pG X rc q (kadd k c) (am_up (am_up I (rc + 8) (upd (I (rc + 8)) k.1 c)) rc (upd (I rc) 11 (Int32.ofNat (k.1 + 1)))) := by
  have h1 : rc + 8 ≠ 77 ∧ rc ≠ 77 ∧ rc + 8 ≠ 78 ∧ rc ≠ 78 ∧ rc + 8 ≠ 76 ∧ rc ≠ 76 := by rcases hr with rfl | rfl <;> decide
  refine ⟨cT_fr h.1 (by rw [up_ne (by omega), up_ne (by omega)]) (by rw [up_ne (by omega), up_ne (by omega)]), by rw [up_ne (by omega), up_ne (by omega)]; exact h.2.1, kC_add h.2.2⟩
theorem fP_of {I' : Nat → Nat → Int32} (hr : am_isc rc) (e1 : ∀ a, a ≠ rc → a ≠ rc + 8 → I' a = I a) (e2 : ∀ j, j ≠ 11 → I' rc j = I rc j) : fP rc I I' := by
  have h1 : rc + 8 ≠ 77 ∧ rc ≠ 77 ∧ rc + 8 ≠ 76 ∧ rc ≠ 76 := by rcases hr with rfl | rfl <;> decide
  exact ⟨fun a _ _ p q => e1 a p q, by rw [e1 77 (by omega) (by omega)], e2, fun j _ _ => by rw [e1 76 (by omega) (by omega)]⟩
theorem fP_adc (hr : am_isc rc) {m : Nat} {x y : Int32} : fP rc I (am_up (am_up I (rc + 8) (upd (I (rc + 8)) m x)) rc (upd (I rc) 11 y)) := fP_of hr (fun a p q => by rw [up_ne p, up_ne q]) (fun j p => by rw [up_same, upd_ne p])
/-- a step of the class -/
theorem P_step (hx : x_ok X) (hr : am_isc rc) (hs : sO I) (hq : q ≤ X.1) (h : pG X rc q k I) : ∃ I', am_R 61 8 0 [.ref 77, am_u] [] (am_hp g N sw lv I L) = some (.inl none, am_hp g N sw lv I' L) ∧ pG X rc (x_E X q) k I' ∧ fP rc I I' ∧ sO I' := by
  have h1 : rc + 8 ≠ 77 ∧ rc ≠ 77 := by rcases hr with rfl | rfl <;> decide
  obtain ⟨I', a1, a2, a3, a4⟩ := C_step (g := g) (N := N) (sw := sw) (lv := lv) (L := L) hx hs (x_E_le hq).2.1 h.1.1 h.1.2.1
  refine ⟨I', a1, ⟨a2, by rw [a3 76 (by decide)]; exact h.2.1, ?_⟩, ⟨fun a _ p _ _ => a3 a p, a4, fun j _ => by rw [a3 rc (by omega)], fun j _ _ => by rw [a3 76 (by decide)]⟩, sO_lo hs (fun a p => a3 a (by omega))⟩
  exact ⟨by rw [a3 rc (by omega)]; exact h.2.2.1, by rw [a3 (rc + 8) (by omega)]; exact h.2.2.2⟩
theorem M_stp (hx : x_ok X) (hs : sO I) (hq : q ≤ X.1) (h : mG X w q k I) : ∃ I', am_R 145 2 0 [.ref 147, am_u] [] (am_hp g N sw lv I L) = some (.inl none, am_hp g N sw lv I' L) ∧ mG X w (x_E X q) k I' ∧ fDm w I I' ∧ sO I' := by
  obtain ⟨I', a1, a2, a3, a4⟩ := M_step (g := g) (N := N) (sw := sw) (lv := lv) (L := L) hx (x_E_le hq).2.1 h.1.1 h.1.2.1
  obtain ⟨k1, k2, k3⟩ := h.2.2
  have a18 : I' 147 18 = I 147 18 := a2.1.1.trans h.1.1.1.symm
  refine ⟨I', a1, ⟨a2, by rw [a4 23 (by decide)]; exact h.2.1, ⟨by rw [a4 26 (by decide)]; exact k1, by rw [a3 151 (by decide)]; exact k2, by rw [a3 _ (by cases w <;> decide)]; exact k3⟩⟩, ⟨fun a p _ _ => a3 a p, fun j p => ?_, fun j _ => by rw [a3 151 (by decide)], fun i _ => by rw [a3 _ (by cases w <;> decide)]⟩, sO_lo hs (fun a p => a3 a (by omega))⟩
  by_cases e : j = 18
  · rw [e]
    exact a18
  · exact a4 j (by omega)
/-- which operator stands here -/
def oh (X : x_X) (q : Nat) : Int32 := cond (decide (x_K X q = 1)) (cond (wd (st_l 44) X q) (-9) (cond (wd (st_l 42) X q) (-10) (-17))) (cond (decide (x_K X q = 42)) (-15) (cond (decide (x_K X q = 43)) (-13) (cond (decide (x_K X q = 45)) (-14) (cond (decide (x_K X q = 47)) (-16) (cond (decide (x_K X q = 60)) (-11) (cond (decide (x_K X q = 61)) (-12) (-17)))))))
theorem x_K_lt (hx : x_ok X) (hq : q ≤ X.1) : x_K X q < 256 := by
  have h1 := x_S_le (X := X) hq
  unfold x_K x_Ks
  by_cases v : X.1 ≤ x_S X q
  · rw [d_t v]
    decide
  · rw [d_f v]
    have hb2 := hx.2 (x_S X q) (by omega)
    cases x_lt X (x_S X q) with
    | true => exact (by decide : 1 < 256)
    | false =>
      cases x_dg X (x_S X q) with
      | true => exact (by decide : 2 < 256)
      | false =>
        cases x_mk (X.2 (x_S X q)) with
        | true => exact hb2
        | false => exact (by decide : 3 < 256)
theorem C_oh (hx : x_ok X) (hs : sO I) (hq : q ≤ X.1) (h : cT X q I) : am_R 77 8 0 [.ref 76] [] (am_hp g N sw lv I L) = some (.inl (some (.int (oh X q))), am_hp g N sw lv I L) := by
  have hK := x_K_lt hx hq
  have hd : ∀ m : Nat, m < 256 → decide (Int32.ofNat (x_K X q) = Int32.ofNat m) = decide (x_K X q = m) := fun m hm => nb_deq (by omega) (by omega)
  obtain ⟨-, -, -, -, w5, w6, -⟩ := w_is
  rw [y_Rd_operatorHere_0, h.2.2.1, show decide (Int32.ofNat (x_K X q) = 1) = _ from hd 1 (by decide), show decide (Int32.ofNat (x_K X q) = 42) = _ from hd 42 (by decide), show decide (Int32.ofNat (x_K X q) = 43) = _ from hd 43 (by decide), show decide (Int32.ofNat (x_K X q) = 45) = _ from hd 45 (by decide), show decide (Int32.ofNat (x_K X q) = 47) = _ from hd 47 (by decide), show decide (Int32.ofNat (x_K X q) = 60) = _ from hd 60 (by decide), show decide (Int32.ofNat (x_K X q) = 61) = _ from hd 61 (by decide), C_isW hx h hq hs w5, am_bd_ok, am_tl, y_Rd_operatorHere_82 _, i_b0, C_isW hx h hq hs w6, am_bd_ok, am_tl, y_Rd_operatorHere_98 _, i_b0, show st_l (am_tx 5) = st_l 44 from rfl, show st_l (am_tx 6) = st_l 42 from rfl]
  unfold oh
  cases decide (x_K X q = 1) with
  | true => cases wd (st_l 44) X q <;> cases wd (st_l 42) X q <;> rfl
  | false =>
    cases decide (x_K X q = 42) with
    | true => rfl
    | false =>
      cases decide (x_K X q = 43) with
      | true => rfl
      | false =>
        cases decide (x_K X q = 45) with
        | true => rfl
        | false =>
          cases decide (x_K X q = 47) with
          | true => rfl
          | false =>
            cases decide (x_K X q = 60) with
            | true => rfl
            | false => cases decide (x_K X q = 61) <;> rfl
theorem M_mk (hx : x_ok X) (hq : q ≤ X.1) (ht : mT X q I) (h23 : I 147 23 = 0) {c : Nat} (hc : x_mk c = true) (hc2 : c < 256) : g_Mo_isMarked I (Int32.ofNat c) = true ∧ v_Mo_isMarked I (Int32.ofNat c) = cond (decide (x_K X q = c)) 1 0 := by
  have hn := hx.1
  have h1 := x_S_le (X := X) hq
  have hc40 : ∀ b, b < 256 → x_mk b = true → 40 ≤ b := by decide +kernel
  have hc4 := hc40 c hc2 hc
  obtain ⟨hB, -, -, t19, t21, -⟩ := ht
  have e3 : decide (mk_ (x_K X q) = 3) = decide (3 < x_K X q) := by
    unfold mk_
    by_cases a : x_K X q ≤ 2
    · rw [d_t a, decide_eq_false (by omega : ¬ 3 < x_K X q)]
      match x_K X q, a with
      | 0, _ => rfl
      | 1, _ => rfl
      | 2, _ => rfl
    · rw [d_f a]
      by_cases b : x_K X q = 3
      · rw [d_t b, decide_eq_false (by omega : ¬ 3 < x_K X q)]
        rfl
      · rw [d_f b, decide_eq_true (by omega : 3 < x_K X q)]
        rfl
  unfold g_Mo_isMarked v_Mo_isMarked
  rw [h23, d_t rfl, d_t rfl, t19, e3]
  by_cases h : 3 < x_K X q
  · have hs : x_S X q < X.1 := by
      refine Nat.lt_of_not_le fun v => ?_
      unfold x_K x_Ks at h
      rw [d_t v] at h
      omega
    have hK : x_K X q = X.2 (x_S X q) := by
      unfold x_K x_Ks at h ⊢
      rw [d_f (by omega)] at h ⊢
      cases hl : x_lt X (x_S X q) with
      | true =>
        rw [hl] at h
        exact absurd (show 3 < 1 from h) (by decide)
      | false =>
        rw [hl] at h
        cases hd : x_dg X (x_S X q) with
        | true =>
          rw [hd] at h
          exact absurd (show 3 < 2 from h) (by decide)
        | false =>
          rw [hd] at h
          cases hm : x_mk (X.2 (x_S X q)) with
          | true => rfl
          | false =>
            rw [hm] at h
            exact absurd (show 3 < 3 from h) (by decide)
    have hb := hx.2 _ hs
    rw [d_t h, d_t h, t21, nb_inb (show x_S X q < 700 by omega) (by omega), nb_tn (by omega), hB.2 _ hs, nb_deq (by omega) (by omega), ← hK]
    exact ⟨rfl, rfl⟩
  · rw [d_f h, d_f h, decide_eq_false (by omega : ¬ x_K X q = c)]
    exact ⟨rfl, rfl⟩
theorem M_mk' (h23 : I 147 23 ≠ 0) (c : Int32) : g_Mo_isMarked I c = true ∧ v_Mo_isMarked I c = 0 := by
  unfold g_Mo_isMarked v_Mo_isMarked
  rw [d_f h23, d_f h23]
  exact ⟨rfl, rfl⟩
/-- a fault is told -/
theorem P_fail (hr : am_isc rc) (hq : q ≤ X.1) (hk : k.1 ≤ 700) (h : pG X rc q k I) (f : Nat) : pF X rc f (x_S X q) (am_up (am_up I 76 (upd (I 76) 1 (Int32.ofNat f))) 76 (upd (upd (I 76) 1 (Int32.ofNat f)) 2 (I 77 5))) ∧ fP rc I (am_up (am_up I 76 (upd (I 76) 1 (Int32.ofNat f))) 76 (upd (upd (I 76) 1 (Int32.ofNat f)) 2 (I 77 5))) := by
  have h1 : rc + 8 ≠ 76 ∧ rc ≠ 76 := by rcases hr with rfl | rfl <;> decide
  refine ⟨⟨⟨q, hq, cT_fr h.1 (by rw [up_ne (by decide), up_ne (by decide)]) (by rw [up_ne (by decide), up_ne (by decide)])⟩, by rw [up_same, upd_ne (by decide), upd_same], by rw [up_same, upd_same]; exact h.1.2.2.2.1, ⟨k.1, hk, by rw [up_ne (by omega), up_ne (by omega)]; exact h.2.2.1⟩⟩, ⟨fun a p _ _ _ => by rw [up_ne p, up_ne p], by rw [up_ne (by decide), up_ne (by decide)], fun j _ => by rw [up_ne (by omega), up_ne (by omega)], fun j p q => by rw [up_same, upd_ne q, upd_ne p]⟩⟩
theorem M_fail (h : mG X w q k I) (f : Nat) : mF f (x_S X q) (am_up (am_up I 147 (upd (I 147) 23 (Int32.ofNat f))) 147 (upd (upd (I 147) 23 (Int32.ofNat f)) 24 ((upd (I 147) 23 (Int32.ofNat f)) 21))) ∧ fDm w I (am_up (am_up I 147 (upd (I 147) 23 (Int32.ofNat f))) 147 (upd (upd (I 147) 23 (Int32.ofNat f)) 24 ((upd (I 147) 23 (Int32.ofNat f)) 21))) := by
  have hne7 : (cond w 159 158 : Nat) ≠ 147 := by cases w <;> decide
  refine ⟨⟨by rw [up_same, upd_ne (by decide), upd_same], by rw [up_same, upd_same, upd_ne (by decide)]; exact h.1.2.2.2.2.1⟩, ⟨fun a p _ _ => by rw [up_ne p, up_ne p], fun j p => by rw [up_same, upd_ne (by omega), upd_ne (by omega)], fun j _ => by rw [up_ne (by decide), up_ne (by decide)], fun i _ => by rw [up_ne hne7, up_ne hne7]⟩⟩
theorem mF_ne {f pl : Nat} (h : mF f pl I) (h0 : 0 < f) (h1 : f < 100) : I 147 23 ≠ 0 := by
  rw [h.1]
  intro e
  have := (nb_eq (a := f) (b := 0) (by omega) (by omega)).mp e
  omega
theorem pF_ne {f pl : Nat} (h : pF X rc f pl I) (h0 : 0 < f) (h1 : f < 100) : I 76 1 ≠ 0 := by
  rw [h.2.1]
  intro e
  have := (nb_eq (a := f) (b := 0) (by omega) (by omega)).mp e
  omega
end PARS
