/-! THE ABSTRACT MACHINE: a small machine over abstract addresses (0, 1, ..), ints, longs, references by kind; its run; the walk by 'am_go' -/
/-- ((cells followed, cells forgotten, slots used), shapes, ints, longs, references) -/
abbrev am_H : Type := (Nat × Nat × Nat) × (Nat → Nat × Nat) × (Nat → Nat → Int32) × (Nat → Nat → Int64) × (Nat → Nat → Option Nat)
/-- an end: returned, or thrown (its class's number); the heap then -/
abbrev am_Res : Type := (Option Value ⊕ Nat) × am_H
/-- an instruction: its own form, its length, the group, three numbers, a value, a switch's rows -/
abbrev am_C : Type := Instr × Nat × Nat × Nat × Nat × Nat × Value × List (Int32 × Nat)
/-- a program: an instruction by method and place; handlers (method, place, class: where it goes on, which local is lost); a method's locals; its rank -/
abbrev am_P : Type := (Nat → Nat → Option am_C) × (Nat → Nat → Nat → Option (Nat × Nat)) × (Nat → Nat) × (Nat → List Value → Nat)
def am_u : Value := .retAddr 0
def am_up {α : Type} (I : Nat → α) (a : Nat) (f : α) : Nat → α := fun b => if b = a then f else I b
def am_rv : Option Nat → Value
  | none => .null
  | some b => .ref b
def am_wI (h : am_H) (a : Nat) (f : Nat → Int32) : am_H := (h.1, h.2.1, am_up h.2.2.1 a f, h.2.2.2.1, h.2.2.2.2)
def am_wL (h : am_H) (a : Nat) (f : Nat → Int64) : am_H := (h.1, h.2.1, h.2.2.1, am_up h.2.2.2.1 a f, h.2.2.2.2)
def am_wR (h : am_H) (a : Nat) (f : Nat → Option Nat) : am_H := (h.1, h.2.1, h.2.2.1, h.2.2.2.1, am_up h.2.2.2.2 a f)
/-- a new cell of shape q with w slots, all zero -/
def am_new (h : am_H) (q : Nat × Nat) (w : Nat) : am_H := ((h.1.1 + 1, h.1.2.1, h.1.2.2 + w), am_up h.2.1 h.1.1 q, am_up h.2.2.1 h.1.1 (fun _ => 0), am_up h.2.2.2.1 h.1.1 (fun _ => 0), am_up h.2.2.2.2 h.1.1 (fun _ => none))
def am_gc (h : am_H) (w : Nat) : am_H := ((h.1.1, h.1.2.1 + 1, h.1.2.2 + w), h.2)
/-- the address of a thing that is handed on, and never looked into -/
abbrev am_fm : Nat := 74
/-- kinds: 0 int, 1 reference, 2 long -/
def am_is : Nat → Value → Bool
  | 0, .int _ => true
  | 1, .ref i => !(Nat.beq i am_fm)
  | 2, .long _ => true
  | _, _ => false
/-- not of one word, or none at all -/
def am_lg : Value → Bool
  | .int _ => false
  | .ref _ => false
  | .null => false
  | _ => true
def am_isl (v : Value) : Bool := Nat.beq v.category 2
/-- the kind k of a field or a place, read -/
def am_rd (h : am_H) (k a i : Nat) : Value := match k with
  | 0 => .int (h.2.2.1 a i)
  | 1 => am_rv (h.2.2.2.2 a i)
  | _ => .long (h.2.2.2.1 a i)
/-- types: 0 int, 1 reference, 2 long, 3 boolean, 4 byte, 5 char -/
def am_ty : Nat → FieldType
  | 3 => .boolean
  | 4 => .byte
  | 5 => .char
  | _ => .int
def am_bin (a : Nat) (x y : Int32) : Int32 := match a with
  | 0 => x + y
  | 1 => x - y
  | 2 => x * y
  | 3 => x &&& y
  | 4 => x ||| y
  | 5 => x ^^^ y
  | 6 => x <<< (y &&& 31)
  | 7 => x >>> (y &&& 31)
  | _ => (x.toUInt32 >>> (y.toUInt32 &&& Int32.toUInt32 31)).toInt32
def am_una (a : Nat) (x : Int32) : Int32 := match a with
  | 0 => -x
  | 1 => x.toInt8.toInt32
  | _ => (x.toUInt32 % 65536).toInt32
def am_bil (a : Nat) (x y : Int64) : Int64 := match a with
  | 0 => x + y
  | 1 => x - y
  | 2 => x &&& y
  | _ => x ||| y
def am_shl (a : Nat) (x : Int64) (y : Int32) : Int64 := match a with
  | 0 => x <<< (y.toInt64 &&& 63)
  | _ => (x.toUInt64 >>> (y.toInt64.toUInt64 &&& Int64.toUInt64 63)).toInt64
/-- 0 eq, 2 lt, 3 ge, 4 gt, 5 le (ne goes as eq, its places changed) -/
def am_cmp (a : Nat) (x y : Int32) : Bool := match a with
  | 0 => decide (x = y)
  | 2 => decide (x < y)
  | 3 => decide (y ≤ x)
  | 4 => decide (y < x)
  | _ => decide (x ≤ y)
def am_inb (i : Int32) (n : Nat) : Bool := decide (¬ (i < 0 ∨ n ≤ i.toNatClampNeg))
/-- arguments as locals -/
def am_al : List Value → List Value
  | [] => []
  | .long x :: r => .long x :: am_u :: am_al r
  | v :: r => v :: am_al r
def am_pad (n : Nat) (l : List Value) : List Value := l ++ List.replicate (n - l.length) am_u
def am_pop : Nat → List Value → List Value → Option (List Value × List Value)
  | 0, acc, st => some (acc, st)
  | n + 1, acc, v :: st => am_pop n (v :: acc) st
  | _ + 1, _, [] => none
def am_wt : List Value → Nat
  | [] => 0
  | v :: r => v.category + am_wt r
/-- a local set: not the second half of a long -/
def am_set (ls : List Value) (i : Nat) (v : Value) : Option (List Value) :=
  match ls[i]? with
  | none => none
  | some _ => cond (cond (Nat.ble 1 i) (am_isl (ls.getD (i - 1) am_u)) false) none (some (ls.set i v))
abbrev am_A : Type := Option am_Res ⊕ (Bool × Nat × Option Nat × List Value × List Value × am_H) ⊕ (Int32 × List (Int32 × Nat) × Nat × List Value × List Value × am_H) ⊕ (Bool × Bool × Nat × Nat × List Value × List Value × am_H)
def am_stuck : am_A := .inl none
def am_nx (pc : Nat) (ls st : List Value) (h : am_H) : am_A := .inr (.inl (true, pc, none, ls, st, h))
def am_gd (g : Bool) (pc : Nat) (ls st : List Value) (h : am_H) : am_A := .inr (.inl (g, pc, none, ls, st, h))
def am_br (g : Bool) (p1 p2 : Nat) (ls st : List Value) (h : am_H) : am_A := .inr (.inl (g, p1, some p2, ls, st, h))
def am_load (pc a c : Nat) (ls st : List Value) (h : am_H) : am_A := match ls[c]? with
  | some v => cond (am_is a v) (am_nx pc ls (v :: st) h) am_stuck
  | none => am_stuck
def am_store (pc a c : Nat) (ls st : List Value) (h : am_H) : am_A := match st with
  | v :: r => cond (am_is a v) (match am_set ls c v with
    | some l => match a with
      | 2 => match l[c + 1]? with
        | some _ => am_nx pc (l.set (c + 1) am_u) r h
        | none => am_stuck
      | _ => am_nx pc l r h
    | none => am_stuck) am_stuck
  | [] => am_stuck
def am_iinc (pc a : Nat) (v : Value) (ls st : List Value) (h : am_H) : am_A := match ls[a]?, v with
  | some (.int x), .int y => match am_set ls a (.int (x + y)) with
    | some l => am_nx pc l st h
    | none => am_stuck
  | _, _ => am_stuck
def am_opb (pc a : Nat) (ls st : List Value) (h : am_H) : am_A := match st with
  | .int y :: .int x :: r => am_nx pc ls (.int (am_bin a x y) :: r) h
  | _ => am_stuck
def am_div (pc a : Nat) (ls st : List Value) (h : am_H) : am_A := match st with
  | .int y :: .int x :: r => am_gd (!decide (y = 0)) pc ls (.int (match a with | 0 => x / y | _ => x - x / y * y) :: r) h
  | _ => am_stuck
def am_opu (pc a : Nat) (ls st : List Value) (h : am_H) : am_A := match st with
  | .int x :: r => am_nx pc ls (.int (am_una a x) :: r) h
  | _ => am_stuck
def am_conv (pc a : Nat) (ls st : List Value) (h : am_H) : am_A := match a, st with
  | 0, .int x :: r => am_nx pc ls (.long x.toInt64 :: r) h
  | 1, .long x :: r => am_nx pc ls (.int x.toInt32 :: r) h
  | _, _ => am_stuck
def am_opl (pc a : Nat) (ls st : List Value) (h : am_H) : am_A := match st with
  | .long y :: .long x :: r => am_nx pc ls (.long (am_bil a x y) :: r) h
  | _ => am_stuck
def am_opsl (pc a : Nat) (ls st : List Value) (h : am_H) : am_A := match st with
  | .int y :: .long x :: r => am_nx pc ls (.long (am_shl a x y) :: r) h
  | _ => am_stuck
def am_olc (pc : Nat) (ls st : List Value) (h : am_H) : am_A := match st with
  | .long y :: .long x :: r => am_nx pc ls (.int (lg_cmp x y) :: r) h
  | _ => am_stuck
def am_stk (pc a : Nat) (ls st : List Value) (h : am_H) : am_A := match a, st with
  | 0, v :: r => cond (am_lg v) am_stuck (am_nx pc ls r h)
  | 1, v :: r => cond (am_lg v) am_stuck (am_nx pc ls (v :: v :: r) h)
  | 2, v :: w :: r => cond (am_lg v || am_lg w) am_stuck (am_nx pc ls (v :: w :: v :: w :: r) h)
  | _, _ => am_stuck
/-- a compare: c the place if it holds, pc if not; 1 is 'not equal' -/
def am_ic (pc a c : Nat) (ls st : List Value) (h : am_H) : am_A := match st with
  | .int y :: .int x :: r => (match a with
    | 1 => am_br (decide (x = y)) pc c ls r h
    | _ => am_br (am_cmp a x y) c pc ls r h)
  | _ => am_stuck
def am_iz (pc a c : Nat) (ls st : List Value) (h : am_H) : am_A := match st with
  | .int x :: r => (match a with
    | 1 => am_br (decide (x = 0)) pc c ls r h
    | _ => am_br (am_cmp a x 0) c pc ls r h)
  | _ => am_stuck
def am_swi (a : Nat) (sw : List (Int32 × Nat)) (ls st : List Value) (h : am_H) : am_A := match st with
  | .int x :: r => .inr (.inr (.inl (x, sw, a, ls, r, h)))
  | _ => am_stuck
def am_k1 : Nat → Nat
  | 1 => 1
  | _ => 0
/-- a field: class a, place c, type d -/
def am_getf (pc a c d : Nat) (ls st : List Value) (h : am_H) : am_A := match st with
  | .ref o :: r => cond (Nat.beq (h.2.1 o).1 a) (am_nx pc ls (am_rd h (am_k1 d) o c :: r) h) am_stuck
  | _ => am_stuck
def am_putf (K pc a c d : Nat) (ls st : List Value) (h : am_H) : am_A := match st with
  | .int x :: .ref o :: r => cond (Nat.beq (h.2.1 o).1 a && Nat.ble K o) (match d with
    | 0 => am_nx pc ls r (am_wI h o (upd (h.2.2.1 o) c x))
    | 3 => am_gd (decide (x = 0 ∨ x = 1)) pc ls r (am_wI h o (upd (h.2.2.1 o) c x))
    | _ => am_stuck) am_stuck
  | .ref q :: .ref o :: r => cond (Nat.beq (h.2.1 o).1 a && Nat.ble K o) (match d with
    | 1 => am_nx pc ls r (am_wR h o (fun j => if j = c then some q else h.2.2.2.2 o j))
    | _ => am_stuck) am_stuck
  | _ => am_stuck
/-- arrays, by their shape's first number: 100 int, 101 byte, 102 boolean, 103 long, 104 on references -/
def am_ald (pc a d : Nat) (ls st : List Value) (h : am_H) : am_A := match st with
  | .int i :: .ref o :: r => cond (Nat.beq (h.2.1 o).1 a) (am_gd (am_inb i (h.2.1 o).2) pc ls (am_rd h d o i.toNatClampNeg :: r) h) am_stuck
  | _ => am_stuck
def am_nar (a : Nat) (x : Int32) : Int32 := match a with
  | 101 => vp_nar .byte x
  | 102 => vp_nar .boolean x
  | _ => x
def am_ast (K pc a : Nat) (ls st : List Value) (h : am_H) : am_A := match st with
  | .int x :: .int i :: .ref o :: r => cond (Nat.beq (h.2.1 o).1 a && (Nat.ble a 102 && Nat.ble K o)) (am_gd (am_inb i (h.2.1 o).2) pc ls r (am_wI h o (upd (h.2.2.1 o) i.toNatClampNeg (am_nar a x)))) am_stuck
  | .long x :: .int i :: .ref o :: r => cond (Nat.beq (h.2.1 o).1 103 && (Nat.beq a 103 && Nat.ble K o)) (am_gd (am_inb i (h.2.1 o).2) pc ls r (am_wL h o (vp_updL (h.2.2.2.1 o) i.toNatClampNeg x))) am_stuck
  | .ref q :: .int i :: .ref o :: r => cond (Nat.beq (h.2.1 o).1 104 && (Nat.beq a 104 && (Nat.ble K o && Nat.beq (h.2.1 q).1 12))) (am_gd (am_inb i (h.2.1 o).2) pc ls r (am_wR h o (fun j => if j = i.toNatClampNeg then some q else h.2.2.2.2 o j))) am_stuck
  | _ => am_stuck
def am_len (pc : Nat) (ls st : List Value) (h : am_H) : am_A := match st with
  | .ref o :: r => cond (Nat.ble 100 (h.2.1 o).1) (am_nx pc ls (.int (Int32.ofNat (h.2.1 o).2) :: r) h) am_stuck
  | _ => am_stuck
def am_newo (pc a c : Nat) (ls st : List Value) (h : am_H) : am_A := cond (Nat.beq h.1.2.1 0) (am_nx pc ls (.ref h.1.1 :: st) (am_new h (a, 0) c)) am_stuck
def am_newa (pc a : Nat) (ls st : List Value) (h : am_H) : am_A := match st with
  | .int n :: r => cond (Nat.beq h.1.2.1 0 && Nat.ble n.toNatClampNeg 100000) (am_gd (!decide (n < 0)) pc ls (.ref h.1.1 :: r) (am_new h (a, n.toNatClampNeg) n.toNatClampNeg)) am_stuck
  | _ => am_stuck
/-- a call of method a with c arguments; d: the receiver's class and 1, or 0; v: 1 where nothing may be thrown -/
def am_nt (v : Value) : Bool := match v with
  | .int _ => true
  | _ => false
def am_okv : Value → Bool
  | .int _ => true
  | .ref _ => true
  | .long _ => true
  | _ => false
def am_call (rk : Nat → List Value → Nat) (ml : Nat → Nat) (b a c d : Nat) (v : Value) (ls st : List Value) (h : am_H) : am_A := match am_pop c [] st with
  | some (as, r) => cond (cond (Nat.beq d 0) true (match as with
      | .ref o :: _ => Nat.beq ((h.2.1 o).1 + 1) d
      | _ => false)) (cond (Nat.ble (am_wt r) 8 && (Nat.ble (am_al as).length (ml a) && as.all am_okv)) (.inr (.inr (.inr (Nat.blt (rk a as) b, am_nt v, a, rk a as, as, r, h)))) am_stuck) am_stuck
  | none => am_stuck
def am_ret (a : Nat) (st : List Value) (h : am_H) : am_A := match a, st with
  | 9, [] => .inl (some (.inl none, h))
  | 1, [.ref q] => .inl (some (.inl (some (.ref q)), h))
  | 2, [.long x] => .inl (some (.inl (some (.long x)), h))
  | 0, [.int x] => .inl (some (.inl (some (.int x)), h))
  | 3, [.int x] => .inl (cond (decide (narrow (am_ty 3) (.int x) = .int x)) (some (.inl (some (.int x)), h)) none)
  | 4, [.int x] => .inl (cond (decide (narrow (am_ty 4) (.int x) = .int x)) (some (.inl (some (.int x)), h)) none)
  | 5, [.int x] => .inl (cond (decide (narrow (am_ty 5) (.int x) = .int x)) (some (.inl (some (.int x)), h)) none)
  | _, _ => am_stuck
/-- a new exception of class a is thrown -/
def am_thw (a : Nat) (st : List Value) (h : am_H) : am_A := cond (Nat.ble (am_wt st) 8) (.inl (some (.inr a, am_gc h 6))) am_stuck
/-- System.arraycopy of ints -/
def am_copy (K pc : Nat) (ls st : List Value) (h : am_H) : am_A := match st with
  | .int n :: .int dp :: .ref t :: .int sp :: .ref o :: r => cond (Nat.beq (h.2.1 o).1 100 && (Nat.beq (h.2.1 t).1 100 && (Nat.ble K t && ((Nat.ble K o && Nat.ble (am_wt r) 8) && !(Nat.beq o t))))) (am_gd (decide (0 ≤ n ∧ 0 ≤ dp ∧ 0 ≤ sp ∧ sp.toNatClampNeg + n.toNatClampNeg ≤ (h.2.1 o).2 ∧ dp.toNatClampNeg + n.toNatClampNeg ≤ (h.2.1 t).2)) pc ls r (am_wI h t (va_cpy (h.2.2.1 o) (h.2.2.1 t) sp.toNatClampNeg dp.toNatClampNeg n.toNatClampNeg))) am_stuck
  | _ => am_stuck
/-- Object's constructor: nothing -/
def am_obj (pc : Nat) (ls st : List Value) (h : am_H) : am_A := match st with
  | .ref o :: r => cond (Nat.ble (am_wt r) 8 && !(Nat.beq o am_fm)) (am_nx pc ls r h) am_stuck
  | _ => am_stuck
/-- what an instruction does; K: the addresses below it are never written; pc: the place behind it -/
def am_op (K : Nat) (rk : Nat → List Value → Nat) (ml : Nat → Nat) (b pc op a c d : Nat) (v : Value) (sw : List (Int32 × Nat)) (ls st : List Value) (h : am_H) : am_A := match op with
  | 0 => am_nx pc ls (v :: st) h
  | 1 => am_load pc a c ls st h
  | 2 => am_store pc a c ls st h
  | 3 => am_iinc pc a v ls st h
  | 4 => am_opb pc a ls st h
  | 5 => am_div pc a ls st h
  | 6 => am_opu pc a ls st h
  | 7 => am_conv pc a ls st h
  | 8 => am_opl pc a ls st h
  | 9 => am_opsl pc a ls st h
  | 10 => am_olc pc ls st h
  | 11 => am_stk pc a ls st h
  | 12 => am_nx a ls st h
  | 13 => am_ic pc a c ls st h
  | 14 => am_iz pc a c ls st h
  | 15 => am_swi a sw ls st h
  | 16 => am_getf pc a c d ls st h
  | 17 => am_putf K pc a c d ls st h
  | 18 => am_ald pc a d ls st h
  | 19 => am_ast K pc a ls st h
  | 20 => am_len pc ls st h
  | 21 => am_newo pc a c ls st h
  | 22 => am_newa pc a ls st h
  | 23 => am_call rk ml b a c d v ls st h
  | 24 => am_ret a st h
  | 25 => am_thw a st h
  | 26 => am_copy K pc ls st h
  | 27 => am_obj pc ls st h
  | _ => am_stuck
def am_bd (x : Option am_Res) (f : Option Value → am_H → Option am_Res) (g : Nat → am_H → Option am_Res) : Option am_Res := match x with
  | some (.inl v, h) => f v h
  | some (.inr c, h) => g c h
  | none => none
def am_sw (next : Nat → List Value → List Value → am_H → Option am_Res) (x : Int32) (d : Nat) (ls st : List Value) (h : am_H) : List (Int32 × Nat) → Option am_Res
  | [] => next d ls st h
  | (v, p) :: r => cond (decide (x = v)) (next p ls st h) (am_sw next x d ls st h r)
def am_th (hd : Option (Nat × Nat)) (next : Nat → List Value → List Value → am_H → Option am_Res) (ls : List Value) (c : Nat) (h : am_H) : Option am_Res := match hd with
  | none => some (.inr c, h)
  | some (p, i) => match am_set ls i am_u with
    | some l => next p l [] h
    | none => none
def am_do (P : am_P) (call : Nat → Nat → List Value → am_H → Option am_Res) (next : Nat → List Value → List Value → am_H → Option am_Res) (k pc len : Nat) (ls : List Value) : am_A → Option am_Res
  | .inl r => r
  | .inr (.inl (g, p1, none, l, st, h)) => cond g (next p1 l st h) none
  | .inr (.inl (g, p1, some p2, l, st, h)) => cond g (next p1 l st h) (next p2 l st h)
  | .inr (.inr (.inl (x, sw, d, l, st, h))) => am_sw next x d l st h sw
  | .inr (.inr (.inr (g, nt, k', b', as, r, h))) => cond g (am_bd (call k' b' as h) (fun v h => next (pc + len) ls (v.toList ++ r) h) (fun c h => cond nt none (am_th (P.2.1 k pc c) next ls c h))) none
def am_stp (K : Nat) (P : am_P) (call : Nat → Nat → List Value → am_H → Option am_Res) (next : Nat → List Value → List Value → am_H → Option am_Res) (k b pc : Nat) (ls st : List Value) (h : am_H) : Option am_Res :=
  match P.1 k pc with
  | none => none
  | some (_, len, op, a, c, d, v, sw) => am_do P call next k pc len ls (am_op K P.2.2.2 P.2.2.1 b (pc + len) op a c d v sw ls st h)
def am_lcl (P : am_P) (k : Nat) (as : List Value) : List Value := am_pad (P.2.2.1 k) (am_al as)
def am_ev (K : Nat) (P : am_P) : Nat → Nat → Nat → Nat → List Value → List Value → am_H → Option am_Res
  | 0, _, _, _, _, _, _ => none
  | n + 1, k, b, pc, ls, st, h => am_stp K P (fun k' b' as h => am_ev K P n k' b' 0 (am_lcl P k' as) [] h) (fun pc ls st h => am_ev K P n k b pc ls st h) k b pc ls st h
theorem am_bd_mono {x x' : Option am_Res} {f f' : Option Value → am_H → Option am_Res} {g g' : Nat → am_H → Option am_Res} {r : am_Res} (hx : ∀ r, x = some r → x' = some r) (hf : ∀ v h r, f v h = some r → f' v h = some r) (hg : ∀ c h r, g c h = some r → g' c h = some r) (h : am_bd x f g = some r) : am_bd x' f' g' = some r := by
  cases hx0 : x with
  | none => rw [hx0] at h; cases h
  | some y =>
    rw [hx y hx0]
    rw [hx0] at h
    obtain ⟨o, h'⟩ := y
    cases o with
    | inl v => exact hf _ _ _ h
    | inr c => exact hg _ _ _ h
theorem am_sw_mono {next next' : Nat → List Value → List Value → am_H → Option am_Res} (hn : ∀ pc ls st h r, next pc ls st h = some r → next' pc ls st h = some r) {x : Int32} {d : Nat} {ls st : List Value} {h : am_H} {r : am_Res} : ∀ sw, am_sw next x d ls st h sw = some r → am_sw next' x d ls st h sw = some r
  | [], e => hn _ _ _ _ _ e
  | (v, p) :: q, e => by
    unfold am_sw at e ⊢
    cases hd : decide (x = v) with
    | true => rw [hd] at e; exact hn _ _ _ _ _ e
    | false => rw [hd] at e; exact am_sw_mono hn q e
theorem am_th_mono {hd : Option (Nat × Nat)} {next next' : Nat → List Value → List Value → am_H → Option am_Res} (hn : ∀ pc ls st h r, next pc ls st h = some r → next' pc ls st h = some r) {ls : List Value} {c : Nat} {h : am_H} {r : am_Res} (e : am_th hd next ls c h = some r) : am_th hd next' ls c h = some r := by
  unfold am_th at e ⊢
  cases hd with
  | none => exact e
  | some q =>
    obtain ⟨p, i⟩ := q
    dsimp only at e ⊢
    cases hs : am_set ls i am_u with
    | none => rw [hs] at e; cases e
    | some l => rw [hs] at e; exact hn _ _ _ _ _ e
theorem am_do_mono {P : am_P} {call call' : Nat → Nat → List Value → am_H → Option am_Res} {next next' : Nat → List Value → List Value → am_H → Option am_Res} (hc : ∀ k b as h r, call k b as h = some r → call' k b as h = some r) (hn : ∀ pc ls st h r, next pc ls st h = some r → next' pc ls st h = some r) {k pc len : Nat} {ls : List Value} {A : am_A} {r : am_Res} (e : am_do P call next k pc len ls A = some r) : am_do P call' next' k pc len ls A = some r := by
  match A, e with
  | .inl _, e => exact e
  | .inr (.inl (g, p1, none, l, st, h)), e =>
    cases g with
    | true => exact hn _ _ _ _ _ e
    | false => cases e
  | .inr (.inl (g, p1, some p2, l, st, h)), e =>
    cases g with
    | true => exact hn _ _ _ _ _ e
    | false => exact hn _ _ _ _ _ e
  | .inr (.inr (.inl (x, sw, d, l, st, h))), e => exact am_sw_mono hn sw e
  | .inr (.inr (.inr (g, nt, k', b', as, q, h))), e =>
    cases g with
    | true =>
      cases nt with
      | true => exact am_bd_mono (hc _ _ _ _) (fun _ _ _ => hn _ _ _ _ _) (fun _ _ _ e => by cases e) e
      | false => exact am_bd_mono (hc _ _ _ _) (fun _ _ _ => hn _ _ _ _ _) (fun _ _ _ => am_th_mono hn) e
    | false => cases e
theorem am_stp_mono {K : Nat} {P : am_P} {call call' : Nat → Nat → List Value → am_H → Option am_Res} {next next' : Nat → List Value → List Value → am_H → Option am_Res} (hc : ∀ k b as h r, call k b as h = some r → call' k b as h = some r) (hn : ∀ pc ls st h r, next pc ls st h = some r → next' pc ls st h = some r) {k b pc : Nat} {ls st : List Value} {h : am_H} {r : am_Res} (e : am_stp K P call next k b pc ls st h = some r) : am_stp K P call' next' k b pc ls st h = some r := by
  unfold am_stp at e ⊢
  cases hf : P.1 k pc with
  | none => rw [hf] at e; cases e
  | some q => rw [hf] at e; exact am_do_mono hc hn e
theorem am_ev_succ {K : Nat} {P : am_P} : ∀ (n : Nat) {k b pc : Nat} {ls st : List Value} {h : am_H} {r : am_Res}, am_ev K P n k b pc ls st h = some r → am_ev K P (n + 1) k b pc ls st h = some r
  | 0, _, _, _, _, _, _, _, e => by cases e
  | n + 1, k, b, pc, ls, st, h, r, e => by
    rw [am_ev] at e ⊢
    exact am_stp_mono (fun _ _ _ _ _ => am_ev_succ n) (fun _ _ _ _ _ => am_ev_succ n) e
theorem am_ev_le {K : Nat} {P : am_P} {n m : Nat} (hnm : n ≤ m) {k b pc : Nat} {ls st : List Value} {h : am_H} {r : am_Res} (e : am_ev K P n k b pc ls st h = some r) : am_ev K P m k b pc ls st h = some r := by
  induction hnm with
  | refl => exact e
  | step _ ih => exact am_ev_succ _ ih
noncomputable def am_Run (K : Nat) (P : am_P) (k b pc : Nat) (ls st : List Value) (h : am_H) : Option am_Res :=
  @dite _ (∃ r n, am_ev K P n k b pc ls st h = some r) (Classical.propDecidable _) (fun e => some (Classical.choose e)) (fun _ => none)
theorem am_Run_iff {K : Nat} {P : am_P} {k b pc : Nat} {ls st : List Value} {h : am_H} {r : am_Res} : am_Run K P k b pc ls st h = some r ↔ ∃ n, am_ev K P n k b pc ls st h = some r := by
  unfold am_Run
  constructor
  · intro e
    split at e
    · rename_i hx
      obtain ⟨n, hn⟩ := Classical.choose_spec hx
      exact ⟨n, hn.trans e⟩
    · cases e
  · rintro ⟨n, hn⟩
    have hx : ∃ r n, am_ev K P n k b pc ls st h = some r := ⟨r, n, hn⟩
    rw [dif_pos hx]
    obtain ⟨m, hm⟩ := Classical.choose_spec hx
    have h1 := am_ev_le (Nat.le_max_left n m) hn
    have h2 := am_ev_le (Nat.le_max_right n m) hm
    exact h2.symm.trans h1
theorem am_sw_cpt {F : Nat → Nat → List Value → List Value → am_H → Option am_Res} {next : Nat → List Value → List Value → am_H → Option am_Res} (hn : ∀ pc ls st h r, next pc ls st h = some r → ∃ n, F n pc ls st h = some r) {x : Int32} {d : Nat} {ls st : List Value} {h : am_H} {r : am_Res} : ∀ sw, am_sw next x d ls st h sw = some r → ∃ n, am_sw (F n) x d ls st h sw = some r
  | [], e => hn _ _ _ _ _ e
  | (v, p) :: q, e => by
    unfold am_sw at e ⊢
    cases hd : decide (x = v) with
    | true => rw [hd] at e; exact hn _ _ _ _ _ e
    | false => rw [hd] at e; exact am_sw_cpt hn q e
theorem am_Run_eq (K : Nat) (P : am_P) (k b pc : Nat) (ls st : List Value) (h : am_H) : am_Run K P k b pc ls st h = am_stp K P (fun k' b' as h => am_Run K P k' b' 0 (am_lcl P k' as) [] h) (fun pc ls st h => am_Run K P k b pc ls st h) k b pc ls st h := by
  have key : ∀ r, am_Run K P k b pc ls st h = some r ↔ am_stp K P (fun k' b' as h => am_Run K P k' b' 0 (am_lcl P k' as) [] h) (fun pc ls st h => am_Run K P k b pc ls st h) k b pc ls st h = some r := by
    intro r
    rw [am_Run_iff]
    constructor
    · rintro ⟨n, hn⟩
      cases n with
      | zero => cases hn
      | succ n =>
        rw [am_ev] at hn
        exact am_stp_mono (fun _ _ _ _ _ e => am_Run_iff.mpr ⟨n, e⟩) (fun _ _ _ _ _ e => am_Run_iff.mpr ⟨n, e⟩) hn
    · intro e
      suffices hs : ∃ n, am_stp K P (fun k' b' as h => am_ev K P n k' b' 0 (am_lcl P k' as) [] h) (fun pc ls st h => am_ev K P n k b pc ls st h) k b pc ls st h = some r by
        obtain ⟨n, hn⟩ := hs
        exact ⟨n + 1, by rw [am_ev]; exact hn⟩
      unfold am_stp at e ⊢
      cases hf : P.1 k pc with
      | none => rw [hf] at e; cases e
      | some q =>
        rw [hf] at e
        dsimp only at e ⊢
        generalize am_op K P.2.2.2 P.2.2.1 b (pc + q.2.1) q.2.2.1 q.2.2.2.1 q.2.2.2.2.1 q.2.2.2.2.2.1 q.2.2.2.2.2.2.1 q.2.2.2.2.2.2.2 ls st h = A at e ⊢
        match A, e with
        | .inl _, e => exact ⟨0, e⟩
        | .inr (.inl (g, p1, none, l, s2, h2)), e =>
          cases g with
          | true => exact am_Run_iff.mp e
          | false => cases e
        | .inr (.inl (g, p1, some p2, l, s2, h2)), e =>
          cases g with
          | true => exact am_Run_iff.mp e
          | false => exact am_Run_iff.mp e
        | .inr (.inr (.inl (x, sw, d, l, s2, h2))), e => exact am_sw_cpt (F := fun n pc ls st h => am_ev K P n k b pc ls st h) (fun _ _ _ _ _ e => am_Run_iff.mp e) sw e
        | .inr (.inr (.inr (g, nt, k', b', as, q2, h2))), e =>
          cases g with
          | false => cases e
          | true =>
            simp only [am_do, cond_true] at e ⊢
            cases hc : am_Run K P k' b' 0 (am_lcl P k' as) [] h2 with
            | none => rw [hc] at e; cases e
            | some y =>
              obtain ⟨n1, hn1⟩ := am_Run_iff.mp hc
              rw [hc] at e
              obtain ⟨o, h3⟩ := y
              cases o with
              | inl v =>
                obtain ⟨n2, hn2⟩ := am_Run_iff.mp e
                refine ⟨max n1 n2, ?_⟩
                rw [am_ev_le (Nat.le_max_left n1 n2) hn1]
                exact am_ev_le (Nat.le_max_right n1 n2) hn2
              | inr cl =>
                cases nt with
                | true => cases e
                | false =>
                simp only [am_bd, cond_false] at e
                cases hh : P.2.1 k pc cl with
                | none =>
                  rw [hh] at e
                  refine ⟨n1, ?_⟩
                  rw [hn1]
                  simp only [am_bd, hh, cond_false]
                  exact e
                | some w =>
                  obtain ⟨p, i⟩ := w
                  rw [hh] at e
                  simp only [am_th] at e
                  cases hs : am_set ls i am_u with
                  | none => rw [hs] at e; cases e
                  | some l =>
                    rw [hs] at e
                    obtain ⟨n2, hn2⟩ := am_Run_iff.mp e
                    refine ⟨max n1 n2, ?_⟩
                    rw [am_ev_le (Nat.le_max_left n1 n2) hn1]
                    simp only [am_bd, hh, am_th, hs, cond_false]
                    exact am_ev_le (Nat.le_max_right n1 n2) hn2
  cases h1 : am_Run K P k b pc ls st h with
  | some r => exact ((key r).mp h1).symm
  | none =>
    cases h2 : am_stp K P (fun k' b' as h => am_Run K P k' b' 0 (am_lcl P k' as) [] h) (fun pc ls st h => am_Run K P k b pc ls st h) k b pc ls st h with
    | none => rfl
    | some r => rw [(key r).mpr h2] at h1; cases h1
/-- m steps; it stops at the places of S, and behind calls -/
noncomputable def am_go (K : Nat) (P : am_P) (S : Nat → Bool) : Nat → Nat → Nat → Nat → List Value → List Value → am_H → Option am_Res
  | 0, k, b, pc, ls, st, h => am_Run K P k b pc ls st h
  | m + 1, k, b, pc, ls, st, h => am_stp K P (fun k' b' as h => am_Run K P k' b' 0 (am_lcl P k' as) [] h) (fun pc ls st h => cond (S pc) (am_Run K P k b pc ls st h) (am_go K P S m k b pc ls st h)) k b pc ls st h
theorem am_go_eq (K : Nat) (P : am_P) (S : Nat → Bool) : ∀ (m k b pc : Nat) (ls st : List Value) (h : am_H), am_Run K P k b pc ls st h = am_go K P S m k b pc ls st h
  | 0, _, _, _, _, _, _ => rfl
  | m + 1, k, b, pc, ls, st, h => by
    rw [am_Run_eq, am_go]
    congr 1
    funext pc ls st h
    cases S pc with
    | true => rfl
    | false => exact am_go_eq K P S m k b pc ls st h
