/-! THE CHECK of an instruction of the abstract machine against the real one: decided by the kernel, method by method -/
def am_in (ix : Nat) (w : Cond) : Bool := decide (lw_tbl[ix]? = some w)
theorem am_in_mem {ix : Nat} {w : Cond} (h : am_in ix w = true) : w ∈ lw_tbl := List.mem_of_getElem? (of_decide_eq_true h)
def am_ix (sw : List (Int32 × Nat)) (j : Nat) : Nat := (sw.getD j (0, 0)).2
/-- a method that is called: its words -/
def am_mok (k : Nat) : Bool :=
  decide (am_pf k = true ∧ ((am_Y k).cls ≠ "java/lang/invoke/MethodHandle" ∧ (am_Y k).cls ≠ "java/lang/invoke/VarHandle") ∧ am_ml k ≤ 40) && (am_in (am_mw k).2.2.2 (.initialized (am_Y k).cls) &&
  (match am_hh k with
    | [] => am_in (am_mw k).1 (.code (am_Y k) (am_B k) (am_ml k) (am_rt k))
    | _ :: _ => am_in (am_mw k).1 (.codeWith (am_Y k) (am_B k) (am_ml k) (am_rt k) (am_hh k))))
def am_np (k : Nat) : Option Nat := (parseMethodDescriptor (am_Y k).desc).map (fun d => d.parameters.length)
def am_cc (x : ClassFile.Cond) : Nat := match x with
  | .eq => 0
  | .ne => 1
  | .lt => 2
  | .ge => 3
  | .gt => 4
  | .le => 5
def am_ok1 (k pc : Nat) (ins : Instr) (len op a c d : Nat) (v : Value) (sw : List (Int32 × Nat)) : Bool := match ins with
  | .iconst n => decide (op = 0 ∧ len = 1 ∧ v = .int (Int32.ofInt n))
  | .bipush n => decide (op = 0 ∧ len = 2 ∧ v = .int (Int8.ofInt n).toInt32)
  | .sipush n => decide (op = 0 ∧ len = 3 ∧ v = .int (Int16.ofInt n).toInt32)
  | .lconst n => decide (op = 0 ∧ len = 1 ∧ v = .long (Int64.ofNat n))
  | .ldc i => decide (op = 0 ∧ len = 2) && (match v with
    | .int x => am_in (am_ix sw 0) (.constant (am_Y k).cls i x)
    | .ref q => decide (q ∈ am_sQ ∧ q ≠ am_fm ∧ (am_sI q).1 = (am_Y k).cls ∧ (am_sI q).2.1 = i)
    | _ => false)
  | .ldc_w i => decide (op = 0 ∧ len = 3) && (match v with
    | .int x => am_in (am_ix sw 0) (.constant (am_Y k).cls i x)
    | .ref q => decide (q ∈ am_sQ ∧ q ≠ am_fm ∧ (am_sI q).1 = (am_Y k).cls ∧ (am_sI q).2.1 = i)
    | _ => false)
  | .ldc2_w i => decide (op = 0 ∧ len = 3) && (match v with
    | .long x => am_in (am_ix sw 0) (.constantLong (am_Y k).cls i x)
    | _ => false)
  | .getstatic i => decide (op = 0 ∧ len = 3 ∧ 1 ≤ am_ix sw 1 ∧ am_ix sw 1 < 18 ∧ v = (am_sT (am_ix sw 1)).2.2.2) && (am_in (am_ix sw 0) (.fieldLink (am_Y k).cls i (am_sT (am_ix sw 1)).1 (am_sT (am_ix sw 1)).2.1 (am_sT (am_ix sw 1)).2.2.1) || am_in (am_ix sw 0) (.fieldLinkNest (am_Y k).cls i (am_sT (am_ix sw 1)).1 (am_sT (am_ix sw 1)).2.1 (am_sT (am_ix sw 1)).2.2.1 "AlmondCabinet"))
  | .iload i => decide (op = 1 ∧ len = 2 ∧ a = 0 ∧ c = i)
  | .iload_n i => decide (op = 1 ∧ len = 1 ∧ a = 0 ∧ c = i.val)
  | .istore i => decide (op = 2 ∧ len = 2 ∧ a = 0 ∧ c = i)
  | .istore_n i => decide (op = 2 ∧ len = 1 ∧ a = 0 ∧ c = i.val)
  | .aload i => decide (op = 1 ∧ len = 2 ∧ a = 1 ∧ c = i)
  | .aload_n i => decide (op = 1 ∧ len = 1 ∧ a = 1 ∧ c = i.val)
  | .astore i => decide (op = 2 ∧ len = 2 ∧ a = 1 ∧ c = i)
  | .astore_n i => decide (op = 2 ∧ len = 1 ∧ a = 1 ∧ c = i.val)
  | .lload i => decide (op = 1 ∧ len = 2 ∧ a = 2 ∧ c = i)
  | .lload_n i => decide (op = 1 ∧ len = 1 ∧ a = 2 ∧ c = i.val)
  | .lstore i => decide (op = 2 ∧ len = 2 ∧ a = 2 ∧ c = i)
  | .lstore_n i => decide (op = 2 ∧ len = 1 ∧ a = 2 ∧ c = i.val)
  | .iinc i n => decide (op = 3 ∧ len = 3 ∧ a = i ∧ v = .int (Int32.ofInt n))
  | .iadd => decide (op = 4 ∧ len = 1 ∧ a = 0)
  | .isub => decide (op = 4 ∧ len = 1 ∧ a = 1)
  | .imul => decide (op = 4 ∧ len = 1 ∧ a = 2)
  | .iand => decide (op = 4 ∧ len = 1 ∧ a = 3)
  | .ior => decide (op = 4 ∧ len = 1 ∧ a = 4)
  | .ixor => decide (op = 4 ∧ len = 1 ∧ a = 5)
  | .ishl => decide (op = 4 ∧ len = 1 ∧ a = 6)
  | .ishr => decide (op = 4 ∧ len = 1 ∧ a = 7)
  | .iushr => decide (op = 4 ∧ len = 1 ∧ a = 8)
  | .idiv => decide (op = 5 ∧ len = 1 ∧ a = 0)
  | .irem => decide (op = 5 ∧ len = 1 ∧ a = 1)
  | .ineg => decide (op = 6 ∧ len = 1 ∧ a = 0)
  | .i2b => decide (op = 6 ∧ len = 1 ∧ a = 1)
  | .i2c => decide (op = 6 ∧ len = 1 ∧ a = 2)
  | .i2l => decide (op = 7 ∧ len = 1 ∧ a = 0)
  | .l2i => decide (op = 7 ∧ len = 1 ∧ a = 1)
  | .ladd => decide (op = 8 ∧ len = 1 ∧ a = 0)
  | .lsub => decide (op = 8 ∧ len = 1 ∧ a = 1)
  | .land => decide (op = 8 ∧ len = 1 ∧ a = 2)
  | .lor => decide (op = 8 ∧ len = 1 ∧ a = 3)
  | .lshl => decide (op = 9 ∧ len = 1 ∧ a = 0)
  | .lushr => decide (op = 9 ∧ len = 1 ∧ a = 1)
  | .lcmp => decide (op = 10 ∧ len = 1)
  | .pop => decide (op = 11 ∧ len = 1 ∧ a = 0)
  | .dup => decide (op = 11 ∧ len = 1 ∧ a = 1)
  | .dup2 => decide (op = 11 ∧ len = 1 ∧ a = 2)
  | .goto off => decide (op = 12 ∧ len = 3 ∧ (pc : Int) + off = (a : Int))
  | .if_icmp x off => decide (op = 13 ∧ len = 3 ∧ a = am_cc x ∧ (pc : Int) + off = (c : Int))
  | .ifCond x off => decide (op = 14 ∧ len = 3 ∧ a = am_cc x ∧ (pc : Int) + off = (c : Int))
  | .lookupswitch df ps => decide (op = 15 ∧ (pc : Int) + df = (a : Int) ∧ (ps.toList.zip (ps.toList.drop 1)).all (fun (a, next) => a.1 < next.1) = true ∧ am_lkok pc ps.toList sw = true)
  | .tableswitch df lo hi os => decide (op = 15 ∧ (pc : Int) + df = (a : Int) ∧ hi + 1 = lo + os.toList.length ∧ am_tbok pc lo os.toList sw = true)
  | .getfield i => decide (op = 16 ∧ len = 3 ∧ a < 13 ∧ c < am_NN a ∧ am_fk a c = am_k1 d) && (am_in (am_ix sw 0) (.fieldLink (am_Y k).cls i (am_TT a c).1 (am_TT a c).2.1 (am_TT a c).2.2.1) || am_in (am_ix sw 0) (.fieldLinkNest (am_Y k).cls i (am_TT a c).1 (am_TT a c).2.1 (am_TT a c).2.2.1 "AlmondCabinet"))
  | .putfield i => decide (op = 17 ∧ len = 3 ∧ a < 12 ∧ a ≠ 9 ∧ c < am_NN a ∧ am_FK a c = d) && ((am_in (am_ix sw 0) (.fieldLink (am_Y k).cls i (am_TT a c).1 (am_TT a c).2.1 (am_TT a c).2.2.1) && decide ((am_TT a c).2.2.2 = true → (am_Y k).name = "<init>" ∧ (am_TT a c).1 = (am_Y k).cls)) || (decide ((am_TT a c).2.2.2 = false) && am_in (am_ix sw 0) (.fieldLinkNest (am_Y k).cls i (am_TT a c).1 (am_TT a c).2.1 (am_TT a c).2.2.1 "AlmondCabinet")))
  | .iaload => decide (op = 18 ∧ len = 1 ∧ a = 100 ∧ d = 0)
  | .baload => decide (op = 18 ∧ len = 1 ∧ (a = 101 ∨ a = 102) ∧ d = 0)
  | .laload => decide (op = 18 ∧ len = 1 ∧ a = 103 ∧ d = 2)
  | .aaload => decide (op = 18 ∧ len = 1 ∧ (a = 104 ∨ a = 105) ∧ d = 1)
  | .iastore => decide (op = 19 ∧ len = 1 ∧ a = 100)
  | .bastore => decide (op = 19 ∧ len = 1 ∧ (a = 101 ∨ a = 102))
  | .lastore => decide (op = 19 ∧ len = 1 ∧ a = 103)
  | .aastore => decide (op = 19 ∧ len = 1 ∧ a = 104)
  | .arraylength => decide (op = 20 ∧ len = 1)
  | .new i => (decide (op = 21 ∧ len = 3 ∧ a < 12 ∧ a ≠ 9 ∧ c = am_NN a) && (am_in (am_ix sw 0) (.classLink (am_Y k).cls i (am_CN a)) && (am_in (am_ix sw 1) (.instantiable (am_CN a) (am_NN a)) && am_in (am_ix sw 2) (.initialized (am_CN a))))) ||
    (decide (op = 25 ∧ len = 3 ∧ a < 2 ∧ (am_Y k).cls = "AlmondCabinet" ∧ am_hh k = [] ∧ c ∈ am_sE ∧ decode (am_B k) (pc + 3) = .ok (.dup, 1) ∧ ((decode (am_B k) (pc + 4) = .ok (.ldc c, 2) ∧ decode (am_B k) (pc + 6) = .ok (.invokespecial (am_EI a), 3) ∧ decode (am_B k) (pc + 9) = .ok (.athrow, 1)) ∨ (decode (am_B k) (pc + 4) = .ok (.ldc_w c, 3) ∧ decode (am_B k) (pc + 7) = .ok (.invokespecial (am_EI a), 3) ∧ decode (am_B k) (pc + 10) = .ok (.athrow, 1)))) && (am_in (am_ix sw 0) (.classLink "AlmondCabinet" i (am_EN a)) && am_in (am_ix sw 1) (.initialized (am_EN a))))
  | .newarray t => decide (op = 22 ∧ len = 2 ∧ (a = 100 ∧ t = .int ∨ a = 101 ∧ t = .byte ∨ a = 102 ∧ t = .boolean ∨ a = 103 ∧ t = .long)) && am_in (am_ix sw 0) (.arrayClass (newarray.typeOf t))
  | .anewarray i => decide (op = 22 ∧ len = 3 ∧ a = 104) && (am_in (am_ix sw 0) (.classLink (am_Y k).cls i "java/lang/String") && am_in (am_ix sw 1) (.arrayOver (.object "java/lang/String")))
  | .invokevirtual i => decide (op = 23 ∧ len = 3 ∧ 1 ≤ c ∧ 1 ≤ d ∧ d ≤ 13 ∧ am_CN (d - 1) = (am_Y a).cls ∧ am_hh a = [] ∧ am_np a = some (c - 1)) && (am_mok a && (am_in (am_mw a).2.1 (.instanceMethod (am_Y a)) && (am_in (am_mw a).2.2.1 (.selects (am_Y a).cls (am_Y a) (am_Y a)) && (am_in (am_ix sw 0) (.methodLink (am_Y k).cls i (am_Y a)) || (am_nt v && am_in (am_ix sw 0) (.methodLinkNest (am_Y k).cls i (am_Y a) "AlmondCabinet"))))))
  | .invokestatic i => (decide (op = 23 ∧ len = 3 ∧ d = 0 ∧ am_np a = some c) && (am_mok a && (am_in (am_mw a).2.1 (.static (am_Y a)) && (match am_hh a with
    | [] => am_in (am_ix sw 0) (.methodLink (am_Y k).cls i (am_Y a)) || (am_nt v && am_in (am_ix sw 0) (.methodLinkNest (am_Y k).cls i (am_Y a) "AlmondCabinet"))
    | _ :: _ => am_nt v && am_in (am_ix sw 0) (.methodLink (am_Y k).cls i (am_Y a)))))) ||
    (decide (op = 26 ∧ len = 3) && (am_in (am_ix sw 0) (.methodLink (am_Y k).cls i arraycopyName) && (am_in (am_ix sw 1) (.native arraycopyName) && (am_in (am_ix sw 2) (.static arraycopyName) && am_in (am_ix sw 3) (.initialized "java/lang/System")))))
  | .invokespecial i => (decide (op = 23 ∧ len = 3 ∧ 1 ≤ c ∧ 1 ≤ d ∧ d ≤ 13 ∧ am_hh a = [] ∧ am_np a = some (c - 1) ∧ am_rt a = none ∧ (am_Y a).name = "<init>" ∧ am_nt v = true) && (am_mok a && (am_in (am_mw a).2.1 (.instanceMethod (am_Y a)) && (am_in (am_ix sw 0) (.methodLink (am_Y k).cls i (am_Y a)) || am_in (am_ix sw 0) (.methodLinkNest (am_Y k).cls i (am_Y a) "AlmondCabinet"))))) ||
    (decide (op = 27 ∧ len = 3) && (am_in (am_ix sw 0) (.methodLink (am_Y k).cls i Lib.objectInit) && (am_in (am_ix sw 1) (.instanceMethod Lib.objectInit) && am_in (am_ix sw 2) (.code Lib.objectInit ⟨#[0xb1]⟩ 1 none))))
  | .ireturn => decide (op = 24 ∧ len = 1 ∧ (a = 0 ∧ am_rt k = some .int ∨ a = 3 ∧ am_rt k = some .boolean ∨ a = 4 ∧ am_rt k = some .byte ∨ a = 5 ∧ am_rt k = some .char))
  | .return_ => decide (op = 24 ∧ len = 1 ∧ a = 9 ∧ am_rt k = none)
  | _ => false
def am_ok (k pc : Nat) (x : am_C) : Bool := decide (decode (am_B k) pc = .ok (x.1, x.2.1)) && am_ok1 k pc x.1 x.2.1 x.2.2.1 x.2.2.2.1 x.2.2.2.2.1 x.2.2.2.2.2.1 x.2.2.2.2.2.2.1 x.2.2.2.2.2.2.2
