/-! fields' kinds, fields' words in the tables (decided) -/
def am_dk : Option FieldType → Nat
  | some .int => 0
  | some .boolean => 3
  | some .byte => 4
  | some (.object _) => 1
  | some (.array _) => 1
  | _ => 9
set_option maxRecDepth 100000 in
theorem am_fk_ok : ∀ c, c < 13 → ∀ k, k < am_NN c → am_dk (parseFieldDescriptor (am_TT c k).2.2.1) = am_FK c k := by decide +kernel
set_option maxRecDepth 100000 in
theorem am_lay_in : ∀ c, c < 12 → c ≠ 9 → ∀ w ∈ u_ws (am_CN c) (am_TT c) (am_NN c), w ∈ lw_tbl := by decide +kernel
