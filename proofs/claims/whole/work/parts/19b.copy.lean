/-! the row as it is, copied for a trial -/
section CPY
variable {sw : Bool} {I : Nat → Nat → Int32} {T : tr_T} {E : e_E} {mb : Nat}
theorem C_cp (h : cC E mb T sw I) (ht : t_ok T) : ∃ J, am_up (am_up (am_up (am_up (am_up (am_up (am_up (am_up (am_up I 109 (upd (I 109) 0 (I 99 0))) 109 (upd ((upd (I 109) 0 (I 99 0))) 1 (I 99 1))) 109 (upd ((upd ((upd (I 109) 0 (I 99 0))) 1 (I 99 1))) 2 (I 99 2))) 110 (va_cpy (I 100) (I 110) 0 0 8)) 111 (va_cpy (I 101) (I 111) 0 0 8)) 112 (va_cpy (I 102) (I 112) 0 0 8)) 113 (va_cpy (I 103) (I 113) 0 0 8)) 114 (va_cpy (I 104) (I 114) 0 0 8)) 115 (va_cpy (I 105) (I 115) 0 0 8) = J ∧ rC 109 T J ∧ zf I J ∧ J 110 = va_cpy (I 100) (I 110) 0 0 8 ∧ J 111 = va_cpy (I 101) (I 111) 0 0 8 ∧ J 144 = I 144 := by
  have hn8 := ht.1
  obtain ⟨r0, r1, r2, r3, r4⟩ := h.2.1
  generalize hJ : am_up (am_up (am_up (am_up (am_up (am_up (am_up (am_up (am_up I 109 (upd (I 109) 0 (I 99 0))) 109 (upd ((upd (I 109) 0 (I 99 0))) 1 (I 99 1))) 109 (upd ((upd ((upd (I 109) 0 (I 99 0))) 1 (I 99 1))) 2 (I 99 2))) 110 (va_cpy (I 100) (I 110) 0 0 8)) 111 (va_cpy (I 101) (I 111) 0 0 8)) 112 (va_cpy (I 102) (I 112) 0 0 8)) 113 (va_cpy (I 103) (I 113) 0 0 8)) 114 (va_cpy (I 104) (I 114) 0 0 8)) 115 (va_cpy (I 105) (I 115) 0 0 8) = J
  refine ⟨J, rfl, ?_, fun a q => ?_, ?_, ?_, ?_⟩
  · rw [← hJ]
    refine ⟨r0, r1, r2, fun h hh => ?_, fun k hk => ?_⟩
    · have := r3 h hh
      exact ⟨(cpy8 (by omega)).trans this.1, (cpy8 (by omega)).trans this.2.1, (cpy8 (by omega)).trans this.2.2.1, (cpy8 (by omega)).trans this.2.2.2.1, (cpy8 (by omega)).trans this.2.2.2.2⟩
    · exact (cpy8 (by omega)).trans (r4 k hk)
  · rw [← hJ, up_ne (by omega), up_ne (by omega), up_ne (by omega), up_ne (by omega), up_ne (by omega), up_ne (by omega), up_ne (by omega), up_ne (by omega), up_ne (by omega)]
  · rw [← hJ, up_ne (by decide), up_ne (by decide), up_ne (by decide), up_ne (by decide), up_ne (by decide), up_same]
  · rw [← hJ, up_ne (by decide), up_ne (by decide), up_ne (by decide), up_ne (by decide), up_same]
  · rw [← hJ, up_ne (by decide), up_ne (by decide), up_ne (by decide), up_ne (by decide), up_ne (by decide), up_ne (by decide), up_ne (by decide), up_ne (by decide), up_ne (by decide)]
end CPY
