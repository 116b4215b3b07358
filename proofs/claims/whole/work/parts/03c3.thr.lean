/-! the words of a throw (decided) -/
def am_dc : Cond → Bool
  | .declares _ => true
  | _ => false
abbrev am_nmE : List String := ["java/lang/RuntimeException", "java/lang/Exception"]
def am_EN : Nat → String
  | 0 => "java/util/NoSuchElementException"
  | _ => "java/lang/IllegalArgumentException"
def am_EI : Nat → Nat
  | 0 => 173
  | _ => 96
def am_EX : Nat → Nat
  | 0 => 13
  | _ => 7
def am_EB : Nat → ByteArray
  | 0 => prog_32_method_4_code
  | _ => Bundle.six
set_option maxRecDepth 100000 in
theorem am_thr : ∀ n, n < 2 → ∀ w ∈ ac_atS "AlmondCabinet" (am_EI n) (am_EN n) (am_EX n) (am_EB n), w ∈ lw_tbl ∧ (goodWord w = true ∨ am_dc w = true ∨ w = .castable (am_EN n) (am_EN n)) := by decide +kernel
set_option maxRecDepth 100000 in
theorem am_thrB : ∀ n, n < 2 → decode (am_EB n) 0 = .ok (.aload_n 0, 1) ∧ decode (am_EB n) 1 = .ok (.aload_n 1, 1) ∧ decode (am_EB n) 2 = .ok (.invokespecial (am_EX n), 3) ∧ decode (am_EB n) 5 = .ok (.return_, 1) ∧ Bundle.fit (am_EN n) = true := by decide +kernel
set_option maxRecDepth 100000 in
theorem am_thrG : ∀ ik n, n < 2 → ∀ w ∈ Cond.classLink "AlmondCabinet" ik (am_EN n) :: Cond.initialized (am_EN n) :: ac_atS "AlmondCabinet" (am_EI n) (am_EN n) (am_EX n) (am_EB n), vx_ot w = true := by
  intro ik n hn w hw
  rcases List.mem_cons.mp hw with rfl | hw
  · rfl
  rcases List.mem_cons.mp hw with rfl | hw
  · rfl
  have : ∀ n, n < 2 → ∀ w ∈ ac_atS "AlmondCabinet" (am_EI n) (am_EN n) (am_EX n) (am_EB n), vx_ot w = true := by decide +kernel
  exact this n hn w hw
