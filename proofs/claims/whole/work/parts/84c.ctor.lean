/-! THE CONSTRUCTORS: shapes and references behind them; the law up to its loop (by program) -/
theorem kc_n {c : Bool} : cond c (none : Option Nat) none = none := by cases c <;> rfl
theorem k_ble {m a : Nat} (h : m ≤ a) : Nat.ble m a = true := Nat.ble_eq_true_of_le h
theorem k_blf {m a : Nat} (h : ¬ m ≤ a) : Nat.ble m a = false := by
  cases e : Nat.ble m a with
  | false => rfl
  | true => exact absurd (Nat.le_of_ble_eq_true e) h
theorem kq_75 : (kr_ (kr_ (kr_ (kr_ (kr_ (kr_ (kr_ (kr_ (kr_ (kr_ (kr_ (kr_ (fun _ => none) 0 76) 2 79) 3 89) 4 99) 5 109) 6 119) 7 121) 8 125) 9 126) 10 144) 11 145) 12 146) = am_RR false false 75 := by
  funext k
  by_cases h0 : k = 0
  · subst h0
    rfl
  by_cases h2 : k = 2
  · subst h2
    rfl
  by_cases h3 : k = 3
  · subst h3
    rfl
  by_cases h4 : k = 4
  · subst h4
    rfl
  by_cases h5 : k = 5
  · subst h5
    rfl
  by_cases h6 : k = 6
  · subst h6
    rfl
  by_cases h7 : k = 7
  · subst h7
    rfl
  by_cases h8 : k = 8
  · subst h8
    rfl
  by_cases h9 : k = 9
  · subst h9
    rfl
  by_cases h10 : k = 10
  · subst h10
    rfl
  by_cases h11 : k = 11
  · subst h11
    rfl
  by_cases h12 : k = 12
  · subst h12
    rfl
  show (kr_ (kr_ (kr_ (kr_ (kr_ (kr_ (kr_ (kr_ (kr_ (kr_ (kr_ (kr_ (fun _ => none) 0 76) 2 79) 3 89) 4 99) 5 109) 6 119) 7 121) 8 125) 9 126) 10 144) 11 145) 12 146) k = cond (Nat.ble k 6) (cond (Nat.ble k 3) (cond (Nat.ble k 0) (cond (Nat.beq k 0) (some 76) none) (cond (Nat.ble k 2) (cond (Nat.beq k 2) (some (cond false 89 79)) none) (cond (Nat.beq k 3) (some (cond false 79 89)) none))) (cond (Nat.ble k 4) (cond (Nat.beq k 4) (some 99) none) (cond (Nat.ble k 5) (cond (Nat.beq k 5) (some 109) none) (cond (Nat.beq k 6) (some 119) none)))) (cond (Nat.ble k 9) (cond (Nat.ble k 7) (cond (Nat.beq k 7) (some 121) none) (cond (Nat.ble k 8) (cond (Nat.beq k 8) (some 125) none) (cond (Nat.beq k 9) (some 126) none))) (cond (Nat.ble k 10) (cond (Nat.beq k 10) (some 144) none) (cond (Nat.ble k 11) (cond (Nat.beq k 11) (some 145) none) (cond (Nat.beq k 12) (some 146) none))))
  unfold kr_
  rw [if_neg h12, if_neg h11, if_neg h10, if_neg h9, if_neg h8, if_neg h7, if_neg h6, if_neg h5, if_neg h4, if_neg h3, if_neg h2, if_neg h0]
  simp only [beq_f h0, beq_f h2, beq_f h3, beq_f h4, beq_f h5, beq_f h6, beq_f h7, beq_f h8, beq_f h9, beq_f h10, beq_f h11, beq_f h12, cond_false, kc_n]
theorem kq_76 : (kr_ (fun _ => none) 0 77) = am_RR false false 76 := by
  funext k
  by_cases h0 : k = 0
  · subst h0
    rfl
  show (kr_ (fun _ => none) 0 77) k = cond (Nat.beq k 0) (some 77) none
  unfold kr_
  rw [if_neg h0]
  simp only [beq_f h0, cond_false, kc_n]
theorem kq_77 : (kr_ (fun _ => none) 0 78) = am_RR false false 77 := by
  funext k
  by_cases h0 : k = 0
  · subst h0
    rfl
  show (kr_ (fun _ => none) 0 78) k = cond (Nat.beq k 0) (some 78) none
  unfold kr_
  rw [if_neg h0]
  simp only [beq_f h0, cond_false, kc_n]
theorem kq_78 : (fun _ => none) = am_RR false false 78 := by
  funext k
  rfl
theorem kq_79 : (kr_ (kr_ (kr_ (kr_ (kr_ (kr_ (kr_ (kr_ (kr_ (fun _ => none) 2 80) 3 81) 4 82) 5 83) 7 84) 8 85) 9 86) 10 87) 12 88) = am_RR false false 79 := by
  funext k
  by_cases h2 : k = 2
  · subst h2
    rfl
  by_cases h3 : k = 3
  · subst h3
    rfl
  by_cases h4 : k = 4
  · subst h4
    rfl
  by_cases h5 : k = 5
  · subst h5
    rfl
  by_cases h7 : k = 7
  · subst h7
    rfl
  by_cases h8 : k = 8
  · subst h8
    rfl
  by_cases h9 : k = 9
  · subst h9
    rfl
  by_cases h10 : k = 10
  · subst h10
    rfl
  by_cases h12 : k = 12
  · subst h12
    rfl
  show (kr_ (kr_ (kr_ (kr_ (kr_ (kr_ (kr_ (kr_ (kr_ (fun _ => none) 2 80) 3 81) 4 82) 5 83) 7 84) 8 85) 9 86) 10 87) 12 88) k = cond (Nat.ble k 5) (cond (Nat.ble k 3) (cond (Nat.ble k 2) (cond (Nat.beq k 2) (some 80) none) (cond (Nat.beq k 3) (some 81) none)) (cond (Nat.ble k 4) (cond (Nat.beq k 4) (some 82) none) (cond (Nat.beq k 5) (some 83) none))) (cond (Nat.ble k 8) (cond (Nat.ble k 7) (cond (Nat.beq k 7) (some 84) none) (cond (Nat.beq k 8) (some 85) none)) (cond (Nat.ble k 9) (cond (Nat.beq k 9) (some 86) none) (cond (Nat.ble k 10) (cond (Nat.beq k 10) (some 87) none) (cond (Nat.beq k 12) (some 88) none))))
  unfold kr_
  rw [if_neg h12, if_neg h10, if_neg h9, if_neg h8, if_neg h7, if_neg h5, if_neg h4, if_neg h3, if_neg h2]
  simp only [beq_f h2, beq_f h3, beq_f h4, beq_f h5, beq_f h7, beq_f h8, beq_f h9, beq_f h10, beq_f h12, cond_false, kc_n]
theorem kq_80 : (fun _ => none) = am_RR false false 80 := by
  funext k
  rfl
theorem kq_81 : (fun _ => none) = am_RR false false 81 := by
  funext k
  rfl
theorem kq_82 : (fun _ => none) = am_RR false false 82 := by
  funext k
  rfl
theorem kq_83 : (fun _ => none) = am_RR false false 83 := by
  funext k
  rfl
theorem kq_84 : (fun _ => none) = am_RR false false 84 := by
  funext k
  rfl
theorem kq_85 : (fun _ => none) = am_RR false false 85 := by
  funext k
  rfl
theorem kq_86 : (fun _ => none) = am_RR false false 86 := by
  funext k
  rfl
theorem kq_87 : (fun _ => none) = am_RR false false 87 := by
  funext k
  rfl
theorem kq_88 : (fun _ => none) = am_RR false false 88 := by
  funext k
  rfl
theorem kq_89 : (kr_ (kr_ (kr_ (kr_ (kr_ (kr_ (kr_ (kr_ (kr_ (fun _ => none) 2 90) 3 91) 4 92) 5 93) 7 94) 8 95) 9 96) 10 97) 12 98) = am_RR false false 89 := by
  funext k
  by_cases h2 : k = 2
  · subst h2
    rfl
  by_cases h3 : k = 3
  · subst h3
    rfl
  by_cases h4 : k = 4
  · subst h4
    rfl
  by_cases h5 : k = 5
  · subst h5
    rfl
  by_cases h7 : k = 7
  · subst h7
    rfl
  by_cases h8 : k = 8
  · subst h8
    rfl
  by_cases h9 : k = 9
  · subst h9
    rfl
  by_cases h10 : k = 10
  · subst h10
    rfl
  by_cases h12 : k = 12
  · subst h12
    rfl
  show (kr_ (kr_ (kr_ (kr_ (kr_ (kr_ (kr_ (kr_ (kr_ (fun _ => none) 2 90) 3 91) 4 92) 5 93) 7 94) 8 95) 9 96) 10 97) 12 98) k = cond (Nat.ble k 5) (cond (Nat.ble k 3) (cond (Nat.ble k 2) (cond (Nat.beq k 2) (some 90) none) (cond (Nat.beq k 3) (some 91) none)) (cond (Nat.ble k 4) (cond (Nat.beq k 4) (some 92) none) (cond (Nat.beq k 5) (some 93) none))) (cond (Nat.ble k 8) (cond (Nat.ble k 7) (cond (Nat.beq k 7) (some 94) none) (cond (Nat.beq k 8) (some 95) none)) (cond (Nat.ble k 9) (cond (Nat.beq k 9) (some 96) none) (cond (Nat.ble k 10) (cond (Nat.beq k 10) (some 97) none) (cond (Nat.beq k 12) (some 98) none))))
  unfold kr_
  rw [if_neg h12, if_neg h10, if_neg h9, if_neg h8, if_neg h7, if_neg h5, if_neg h4, if_neg h3, if_neg h2]
  simp only [beq_f h2, beq_f h3, beq_f h4, beq_f h5, beq_f h7, beq_f h8, beq_f h9, beq_f h10, beq_f h12, cond_false, kc_n]
theorem kq_90 : (fun _ => none) = am_RR false false 90 := by
  funext k
  rfl
theorem kq_91 : (fun _ => none) = am_RR false false 91 := by
  funext k
  rfl
theorem kq_92 : (fun _ => none) = am_RR false false 92 := by
  funext k
  rfl
theorem kq_93 : (fun _ => none) = am_RR false false 93 := by
  funext k
  rfl
theorem kq_94 : (fun _ => none) = am_RR false false 94 := by
  funext k
  rfl
theorem kq_95 : (fun _ => none) = am_RR false false 95 := by
  funext k
  rfl
theorem kq_96 : (fun _ => none) = am_RR false false 96 := by
  funext k
  rfl
theorem kq_97 : (fun _ => none) = am_RR false false 97 := by
  funext k
  rfl
theorem kq_98 : (fun _ => none) = am_RR false false 98 := by
  funext k
  rfl
theorem kq_99 : (kr_ (kr_ (kr_ (kr_ (kr_ (kr_ (kr_ (kr_ (kr_ (fun _ => none) 3 100) 4 101) 5 102) 6 103) 7 104) 8 105) 9 106) 10 107) 11 108) = am_RR false false 99 := by
  funext k
  by_cases h3 : k = 3
  · subst h3
    rfl
  by_cases h4 : k = 4
  · subst h4
    rfl
  by_cases h5 : k = 5
  · subst h5
    rfl
  by_cases h6 : k = 6
  · subst h6
    rfl
  by_cases h7 : k = 7
  · subst h7
    rfl
  by_cases h8 : k = 8
  · subst h8
    rfl
  by_cases h9 : k = 9
  · subst h9
    rfl
  by_cases h10 : k = 10
  · subst h10
    rfl
  by_cases h11 : k = 11
  · subst h11
    rfl
  show (kr_ (kr_ (kr_ (kr_ (kr_ (kr_ (kr_ (kr_ (kr_ (fun _ => none) 3 100) 4 101) 5 102) 6 103) 7 104) 8 105) 9 106) 10 107) 11 108) k = cond (Nat.ble k 6) (cond (Nat.ble k 4) (cond (Nat.ble k 3) (cond (Nat.beq k 3) (some 100) none) (cond (Nat.beq k 4) (some 101) none)) (cond (Nat.ble k 5) (cond (Nat.beq k 5) (some 102) none) (cond (Nat.beq k 6) (some 103) none))) (cond (Nat.ble k 8) (cond (Nat.ble k 7) (cond (Nat.beq k 7) (some 104) none) (cond (Nat.beq k 8) (some 105) none)) (cond (Nat.ble k 9) (cond (Nat.beq k 9) (some 106) none) (cond (Nat.ble k 10) (cond (Nat.beq k 10) (some 107) none) (cond (Nat.beq k 11) (some 108) none))))
  unfold kr_
  rw [if_neg h11, if_neg h10, if_neg h9, if_neg h8, if_neg h7, if_neg h6, if_neg h5, if_neg h4, if_neg h3]
  simp only [beq_f h3, beq_f h4, beq_f h5, beq_f h6, beq_f h7, beq_f h8, beq_f h9, beq_f h10, beq_f h11, cond_false, kc_n]
theorem kq_100 : (fun _ => none) = am_RR false false 100 := by
  funext k
  rfl
theorem kq_101 : (fun _ => none) = am_RR false false 101 := by
  funext k
  rfl
theorem kq_102 : (fun _ => none) = am_RR false false 102 := by
  funext k
  rfl
theorem kq_103 : (fun _ => none) = am_RR false false 103 := by
  funext k
  rfl
theorem kq_104 : (fun _ => none) = am_RR false false 104 := by
  funext k
  rfl
theorem kq_105 : (fun _ => none) = am_RR false false 105 := by
  funext k
  rfl
theorem kq_106 : (fun _ => none) = am_RR false false 106 := by
  funext k
  rfl
theorem kq_107 : (fun _ => none) = am_RR false false 107 := by
  funext k
  rfl
theorem kq_108 : (fun _ => none) = am_RR false false 108 := by
  funext k
  rfl
theorem kq_109 : (kr_ (kr_ (kr_ (kr_ (kr_ (kr_ (kr_ (kr_ (kr_ (fun _ => none) 3 110) 4 111) 5 112) 6 113) 7 114) 8 115) 9 116) 10 117) 11 118) = am_RR false false 109 := by
  funext k
  by_cases h3 : k = 3
  · subst h3
    rfl
  by_cases h4 : k = 4
  · subst h4
    rfl
  by_cases h5 : k = 5
  · subst h5
    rfl
  by_cases h6 : k = 6
  · subst h6
    rfl
  by_cases h7 : k = 7
  · subst h7
    rfl
  by_cases h8 : k = 8
  · subst h8
    rfl
  by_cases h9 : k = 9
  · subst h9
    rfl
  by_cases h10 : k = 10
  · subst h10
    rfl
  by_cases h11 : k = 11
  · subst h11
    rfl
  show (kr_ (kr_ (kr_ (kr_ (kr_ (kr_ (kr_ (kr_ (kr_ (fun _ => none) 3 110) 4 111) 5 112) 6 113) 7 114) 8 115) 9 116) 10 117) 11 118) k = cond (Nat.ble k 6) (cond (Nat.ble k 4) (cond (Nat.ble k 3) (cond (Nat.beq k 3) (some 110) none) (cond (Nat.beq k 4) (some 111) none)) (cond (Nat.ble k 5) (cond (Nat.beq k 5) (some 112) none) (cond (Nat.beq k 6) (some 113) none))) (cond (Nat.ble k 8) (cond (Nat.ble k 7) (cond (Nat.beq k 7) (some 114) none) (cond (Nat.beq k 8) (some 115) none)) (cond (Nat.ble k 9) (cond (Nat.beq k 9) (some 116) none) (cond (Nat.ble k 10) (cond (Nat.beq k 10) (some 117) none) (cond (Nat.beq k 11) (some 118) none))))
  unfold kr_
  rw [if_neg h11, if_neg h10, if_neg h9, if_neg h8, if_neg h7, if_neg h6, if_neg h5, if_neg h4, if_neg h3]
  simp only [beq_f h3, beq_f h4, beq_f h5, beq_f h6, beq_f h7, beq_f h8, beq_f h9, beq_f h10, beq_f h11, cond_false, kc_n]
theorem kq_110 : (fun _ => none) = am_RR false false 110 := by
  funext k
  rfl
theorem kq_111 : (fun _ => none) = am_RR false false 111 := by
  funext k
  rfl
theorem kq_112 : (fun _ => none) = am_RR false false 112 := by
  funext k
  rfl
theorem kq_113 : (fun _ => none) = am_RR false false 113 := by
  funext k
  rfl
theorem kq_114 : (fun _ => none) = am_RR false false 114 := by
  funext k
  rfl
theorem kq_115 : (fun _ => none) = am_RR false false 115 := by
  funext k
  rfl
theorem kq_116 : (fun _ => none) = am_RR false false 116 := by
  funext k
  rfl
theorem kq_117 : (fun _ => none) = am_RR false false 117 := by
  funext k
  rfl
theorem kq_118 : (fun _ => none) = am_RR false false 118 := by
  funext k
  rfl
theorem kq_119 : (kr_ (fun _ => none) 0 120) = am_RR false false 119 := by
  funext k
  by_cases h0 : k = 0
  · subst h0
    rfl
  show (kr_ (fun _ => none) 0 120) k = cond (Nat.beq k 0) (some 120) none
  unfold kr_
  rw [if_neg h0]
  simp only [beq_f h0, cond_false, kc_n]
theorem kq_120 : (fun _ => none) = am_RR false false 120 := by
  funext k
  rfl
theorem kq_121 : (kr_ (kr_ (kr_ (fun _ => none) 0 122) 1 123) 2 124) = am_RR false false 121 := by
  funext k
  by_cases h0 : k = 0
  · subst h0
    rfl
  by_cases h1 : k = 1
  · subst h1
    rfl
  by_cases h2 : k = 2
  · subst h2
    rfl
  show (kr_ (kr_ (kr_ (fun _ => none) 0 122) 1 123) 2 124) k = cond (Nat.ble k 0) (cond (Nat.beq k 0) (some 122) none) (cond (Nat.ble k 1) (cond (Nat.beq k 1) (some 123) none) (cond (Nat.beq k 2) (some 124) none))
  unfold kr_
  rw [if_neg h2, if_neg h1, if_neg h0]
  simp only [beq_f h0, beq_f h1, beq_f h2, cond_false, kc_n]
theorem kq_122 : (fun _ => none) = am_RR false false 122 := by
  funext k
  rfl
theorem kq_123 : (fun _ => none) = am_RR false false 123 := by
  funext k
  rfl
theorem kq_124 : (fun _ => none) = am_RR false false 124 := by
  funext k
  rfl
theorem kq_125 : (fun _ => none) = am_RR false false 125 := by
  funext k
  rfl
theorem kq_126 : (kr_ (kr_ (kr_ (kr_ (fun _ => none) 1 127) 2 137) 3 139) 4 143) = am_RR false false 126 := by
  funext k
  by_cases h1 : k = 1
  · subst h1
    rfl
  by_cases h2 : k = 2
  · subst h2
    rfl
  by_cases h3 : k = 3
  · subst h3
    rfl
  by_cases h4 : k = 4
  · subst h4
    rfl
  show (kr_ (kr_ (kr_ (kr_ (fun _ => none) 1 127) 2 137) 3 139) 4 143) k = cond (Nat.ble k 2) (cond (Nat.ble k 1) (cond (Nat.beq k 1) (some 127) none) (cond (Nat.beq k 2) (some 137) none)) (cond (Nat.ble k 3) (cond (Nat.beq k 3) (some 139) none) (cond (Nat.beq k 4) (some 143) none))
  unfold kr_
  rw [if_neg h4, if_neg h3, if_neg h2, if_neg h1]
  simp only [beq_f h1, beq_f h2, beq_f h3, beq_f h4, cond_false, kc_n]
theorem kq_127 : (kr_ (kr_ (kr_ (kr_ (kr_ (kr_ (kr_ (kr_ (kr_ (fun _ => none) 3 128) 4 129) 5 130) 6 131) 7 132) 8 133) 9 134) 10 135) 11 136) = am_RR false false 127 := by
  funext k
  by_cases h3 : k = 3
  · subst h3
    rfl
  by_cases h4 : k = 4
  · subst h4
    rfl
  by_cases h5 : k = 5
  · subst h5
    rfl
  by_cases h6 : k = 6
  · subst h6
    rfl
  by_cases h7 : k = 7
  · subst h7
    rfl
  by_cases h8 : k = 8
  · subst h8
    rfl
  by_cases h9 : k = 9
  · subst h9
    rfl
  by_cases h10 : k = 10
  · subst h10
    rfl
  by_cases h11 : k = 11
  · subst h11
    rfl
  show (kr_ (kr_ (kr_ (kr_ (kr_ (kr_ (kr_ (kr_ (kr_ (fun _ => none) 3 128) 4 129) 5 130) 6 131) 7 132) 8 133) 9 134) 10 135) 11 136) k = cond (Nat.ble k 6) (cond (Nat.ble k 4) (cond (Nat.ble k 3) (cond (Nat.beq k 3) (some 128) none) (cond (Nat.beq k 4) (some 129) none)) (cond (Nat.ble k 5) (cond (Nat.beq k 5) (some 130) none) (cond (Nat.beq k 6) (some 131) none))) (cond (Nat.ble k 8) (cond (Nat.ble k 7) (cond (Nat.beq k 7) (some 132) none) (cond (Nat.beq k 8) (some 133) none)) (cond (Nat.ble k 9) (cond (Nat.beq k 9) (some 134) none) (cond (Nat.ble k 10) (cond (Nat.beq k 10) (some 135) none) (cond (Nat.beq k 11) (some 136) none))))
  unfold kr_
  rw [if_neg h11, if_neg h10, if_neg h9, if_neg h8, if_neg h7, if_neg h6, if_neg h5, if_neg h4, if_neg h3]
  simp only [beq_f h3, beq_f h4, beq_f h5, beq_f h6, beq_f h7, beq_f h8, beq_f h9, beq_f h10, beq_f h11, cond_false, kc_n]
theorem kq_128 : (fun _ => none) = am_RR false false 128 := by
  funext k
  rfl
theorem kq_129 : (fun _ => none) = am_RR false false 129 := by
  funext k
  rfl
theorem kq_130 : (fun _ => none) = am_RR false false 130 := by
  funext k
  rfl
theorem kq_131 : (fun _ => none) = am_RR false false 131 := by
  funext k
  rfl
theorem kq_132 : (fun _ => none) = am_RR false false 132 := by
  funext k
  rfl
theorem kq_133 : (fun _ => none) = am_RR false false 133 := by
  funext k
  rfl
theorem kq_134 : (fun _ => none) = am_RR false false 134 := by
  funext k
  rfl
theorem kq_135 : (fun _ => none) = am_RR false false 135 := by
  funext k
  rfl
theorem kq_136 : (fun _ => none) = am_RR false false 136 := by
  funext k
  rfl
theorem kq_137 : (kr_ (fun _ => none) 0 138) = am_RR false false 137 := by
  funext k
  by_cases h0 : k = 0
  · subst h0
    rfl
  show (kr_ (fun _ => none) 0 138) k = cond (Nat.beq k 0) (some 138) none
  unfold kr_
  rw [if_neg h0]
  simp only [beq_f h0, cond_false, kc_n]
theorem kq_138 : (fun _ => none) = am_RR false false 138 := by
  funext k
  rfl
theorem kq_139 : (kr_ (kr_ (kr_ (fun _ => none) 0 140) 1 141) 2 142) = am_RR false false 139 := by
  funext k
  by_cases h0 : k = 0
  · subst h0
    rfl
  by_cases h1 : k = 1
  · subst h1
    rfl
  by_cases h2 : k = 2
  · subst h2
    rfl
  show (kr_ (kr_ (kr_ (fun _ => none) 0 140) 1 141) 2 142) k = cond (Nat.ble k 0) (cond (Nat.beq k 0) (some 140) none) (cond (Nat.ble k 1) (cond (Nat.beq k 1) (some 141) none) (cond (Nat.beq k 2) (some 142) none))
  unfold kr_
  rw [if_neg h2, if_neg h1, if_neg h0]
  simp only [beq_f h0, beq_f h1, beq_f h2, cond_false, kc_n]
theorem kq_140 : (fun _ => none) = am_RR false false 140 := by
  funext k
  rfl
theorem kq_141 : (fun _ => none) = am_RR false false 141 := by
  funext k
  rfl
theorem kq_142 : (fun _ => none) = am_RR false false 142 := by
  funext k
  rfl
theorem kq_143 : (fun _ => none) = am_RR false false 143 := by
  funext k
  rfl
theorem kq_144 : (fun _ => none) = am_RR false false 144 := by
  funext k
  rfl
theorem kq_145 : (fun _ => none) = am_RR false false 145 := by
  funext k
  rfl
theorem kq_146 : (fun _ => none) = am_RR false false 146 := by
  funext k
  rfl
theorem kq_147 : (kr_ (kr_ (kr_ (kr_ (kr_ (kr_ (kr_ (kr_ (kr_ (kr_ (kr_ (kr_ (kr_ (kr_ (kr_ (kr_ (kr_ (kr_ (kr_ (kr_ (kr_ (kr_ (kr_ (kr_ (kr_ (kr_ (kr_ (kr_ (kr_ (kr_ (kr_ (kr_ (kr_ (kr_ (kr_ (kr_ (kr_ (kr_ (fun _ => none) 0 148) 1 149) 2 150) 3 149) 5 151) 6 152) 7 153) 8 154) 9 155) 10 156) 11 157) 12 158) 13 159) 14 160) 15 161) 27 162) 28 163) 29 164) 30 165) 31 166) 32 167) 38 168) 39 169) 40 170) 41 171) 42 172) 43 173) 44 174) 45 175) 46 176) 47 177) 49 178) 54 179) 55 180) 56 181) 57 182) 58 183) 59 184) = am_RR false false 147 := by
  funext k
  by_cases h0 : k = 0
  · subst h0
    rfl
  by_cases h1 : k = 1
  · subst h1
    rfl
  by_cases h2 : k = 2
  · subst h2
    rfl
  by_cases h3 : k = 3
  · subst h3
    rfl
  by_cases h5 : k = 5
  · subst h5
    rfl
  by_cases h6 : k = 6
  · subst h6
    rfl
  by_cases h7 : k = 7
  · subst h7
    rfl
  by_cases h8 : k = 8
  · subst h8
    rfl
  by_cases h9 : k = 9
  · subst h9
    rfl
  by_cases h10 : k = 10
  · subst h10
    rfl
  by_cases h11 : k = 11
  · subst h11
    rfl
  by_cases h12 : k = 12
  · subst h12
    rfl
  by_cases h13 : k = 13
  · subst h13
    rfl
  by_cases h14 : k = 14
  · subst h14
    rfl
  by_cases h15 : k = 15
  · subst h15
    rfl
  by_cases h27 : k = 27
  · subst h27
    rfl
  by_cases h28 : k = 28
  · subst h28
    rfl
  by_cases h29 : k = 29
  · subst h29
    rfl
  by_cases h30 : k = 30
  · subst h30
    rfl
  by_cases h31 : k = 31
  · subst h31
    rfl
  by_cases h32 : k = 32
  · subst h32
    rfl
  by_cases h38 : k = 38
  · subst h38
    rfl
  by_cases h39 : k = 39
  · subst h39
    rfl
  by_cases h40 : k = 40
  · subst h40
    rfl
  by_cases h41 : k = 41
  · subst h41
    rfl
  by_cases h42 : k = 42
  · subst h42
    rfl
  by_cases h43 : k = 43
  · subst h43
    rfl
  by_cases h44 : k = 44
  · subst h44
    rfl
  by_cases h45 : k = 45
  · subst h45
    rfl
  by_cases h46 : k = 46
  · subst h46
    rfl
  by_cases h47 : k = 47
  · subst h47
    rfl
  by_cases h49 : k = 49
  · subst h49
    rfl
  by_cases h54 : k = 54
  · subst h54
    rfl
  by_cases h55 : k = 55
  · subst h55
    rfl
  by_cases h56 : k = 56
  · subst h56
    rfl
  by_cases h57 : k = 57
  · subst h57
    rfl
  by_cases h58 : k = 58
  · subst h58
    rfl
  by_cases h59 : k = 59
  · subst h59
    rfl
  show (kr_ (kr_ (kr_ (kr_ (kr_ (kr_ (kr_ (kr_ (kr_ (kr_ (kr_ (kr_ (kr_ (kr_ (kr_ (kr_ (kr_ (kr_ (kr_ (kr_ (kr_ (kr_ (kr_ (kr_ (kr_ (kr_ (kr_ (kr_ (kr_ (kr_ (kr_ (kr_ (kr_ (kr_ (kr_ (kr_ (kr_ (kr_ (fun _ => none) 0 148) 1 149) 2 150) 3 149) 5 151) 6 152) 7 153) 8 154) 9 155) 10 156) 11 157) 12 158) 13 159) 14 160) 15 161) 27 162) 28 163) 29 164) 30 165) 31 166) 32 167) 38 168) 39 169) 40 170) 41 171) 42 172) 43 173) 44 174) 45 175) 46 176) 47 177) 49 178) 54 179) 55 180) 56 181) 57 182) 58 183) 59 184) k = cond (Nat.ble k 30) (cond (Nat.ble k 9) (cond (Nat.ble k 3) (cond (Nat.ble k 1) (cond (Nat.ble k 0) (cond (Nat.beq k 0) (some 148) none) (cond (Nat.beq k 1) (some 149) none)) (cond (Nat.ble k 2) (cond (Nat.beq k 2) (some 150) none) (cond (Nat.beq k 3) (some (cond false 150 149)) none))) (cond (Nat.ble k 6) (cond (Nat.ble k 5) (cond (Nat.beq k 5) (some 151) none) (cond (Nat.beq k 6) (some 152) none)) (cond (Nat.ble k 7) (cond (Nat.beq k 7) (some 153) none) (cond (Nat.ble k 8) (cond (Nat.beq k 8) (some 154) none) (cond (Nat.beq k 9) (some 155) none))))) (cond (Nat.ble k 14) (cond (Nat.ble k 11) (cond (Nat.ble k 10) (cond (Nat.beq k 10) (some 156) none) (cond (Nat.beq k 11) (some 157) none)) (cond (Nat.ble k 12) (cond (Nat.beq k 12) (some 158) none) (cond (Nat.ble k 13) (cond (Nat.beq k 13) (some 159) none) (cond (Nat.beq k 14) (some 160) none)))) (cond (Nat.ble k 27) (cond (Nat.ble k 15) (cond (Nat.beq k 15) (some 161) none) (cond (Nat.beq k 27) (some 162) none)) (cond (Nat.ble k 28) (cond (Nat.beq k 28) (some 163) none) (cond (Nat.ble k 29) (cond (Nat.beq k 29) (some 164) none) (cond (Nat.beq k 30) (some 165) none)))))) (cond (Nat.ble k 44) (cond (Nat.ble k 39) (cond (Nat.ble k 32) (cond (Nat.ble k 31) (cond (Nat.beq k 31) (some 166) none) (cond (Nat.beq k 32) (some 167) none)) (cond (Nat.ble k 38) (cond (Nat.beq k 38) (some 168) none) (cond (Nat.beq k 39) (some 169) none))) (cond (Nat.ble k 41) (cond (Nat.ble k 40) (cond (Nat.beq k 40) (some 170) none) (cond (Nat.beq k 41) (some 171) none)) (cond (Nat.ble k 42) (cond (Nat.beq k 42) (some 172) none) (cond (Nat.ble k 43) (cond (Nat.beq k 43) (some 173) none) (cond (Nat.beq k 44) (some 174) none))))) (cond (Nat.ble k 54) (cond (Nat.ble k 46) (cond (Nat.ble k 45) (cond (Nat.beq k 45) (some 175) none) (cond (Nat.beq k 46) (some 176) none)) (cond (Nat.ble k 47) (cond (Nat.beq k 47) (some 177) none) (cond (Nat.ble k 49) (cond (Nat.beq k 49) (some 178) none) (cond (Nat.beq k 54) (some 179) none)))) (cond (Nat.ble k 56) (cond (Nat.ble k 55) (cond (Nat.beq k 55) (some 180) none) (cond (Nat.beq k 56) (some 181) none)) (cond (Nat.ble k 57) (cond (Nat.beq k 57) (some 182) none) (cond (Nat.ble k 58) (cond (Nat.beq k 58) (some 183) none) (cond (Nat.beq k 59) (some 184) none))))))
  unfold kr_
  rw [if_neg h59, if_neg h58, if_neg h57, if_neg h56, if_neg h55, if_neg h54, if_neg h49, if_neg h47, if_neg h46, if_neg h45, if_neg h44, if_neg h43, if_neg h42, if_neg h41, if_neg h40, if_neg h39, if_neg h38, if_neg h32, if_neg h31, if_neg h30, if_neg h29, if_neg h28, if_neg h27, if_neg h15, if_neg h14, if_neg h13, if_neg h12, if_neg h11, if_neg h10, if_neg h9, if_neg h8, if_neg h7, if_neg h6, if_neg h5, if_neg h3, if_neg h2, if_neg h1, if_neg h0]
  simp only [beq_f h0, beq_f h1, beq_f h2, beq_f h3, beq_f h5, beq_f h6, beq_f h7, beq_f h8, beq_f h9, beq_f h10, beq_f h11, beq_f h12, beq_f h13, beq_f h14, beq_f h15, beq_f h27, beq_f h28, beq_f h29, beq_f h30, beq_f h31, beq_f h32, beq_f h38, beq_f h39, beq_f h40, beq_f h41, beq_f h42, beq_f h43, beq_f h44, beq_f h45, beq_f h46, beq_f h47, beq_f h49, beq_f h54, beq_f h55, beq_f h56, beq_f h57, beq_f h58, beq_f h59, cond_false, kc_n]
theorem kq_148 : (kr_ (kr_ (fun _ => none) 0 18) 1 20) = am_RR false false 148 := by
  funext k
  by_cases h0 : k = 0
  · subst h0
    rfl
  by_cases h1 : k = 1
  · subst h1
    rfl
  show (kr_ (kr_ (fun _ => none) 0 18) 1 20) k = cond (Nat.ble k 0) (cond (Nat.beq k 0) (some 18) none) (cond (Nat.beq k 1) (some 20) none)
  unfold kr_
  rw [if_neg h1, if_neg h0]
  simp only [beq_f h0, beq_f h1, cond_false, kc_n]
theorem kq_149 : (kr_ (kr_ (kr_ (kr_ (kr_ (fun _ => none) 0 22) 1 24) 2 26) 3 28) 4 30) = am_RR false false 149 := by
  funext k
  by_cases h0 : k = 0
  · subst h0
    rfl
  by_cases h1 : k = 1
  · subst h1
    rfl
  by_cases h2 : k = 2
  · subst h2
    rfl
  by_cases h3 : k = 3
  · subst h3
    rfl
  by_cases h4 : k = 4
  · subst h4
    rfl
  show (kr_ (kr_ (kr_ (kr_ (kr_ (fun _ => none) 0 22) 1 24) 2 26) 3 28) 4 30) k = cond (Nat.ble k 1) (cond (Nat.ble k 0) (cond (Nat.beq k 0) (some 22) none) (cond (Nat.beq k 1) (some 24) none)) (cond (Nat.ble k 2) (cond (Nat.beq k 2) (some 26) none) (cond (Nat.ble k 3) (cond (Nat.beq k 3) (some 28) none) (cond (Nat.beq k 4) (some 30) none)))
  unfold kr_
  rw [if_neg h4, if_neg h3, if_neg h2, if_neg h1, if_neg h0]
  simp only [beq_f h0, beq_f h1, beq_f h2, beq_f h3, beq_f h4, cond_false, kc_n]
theorem kq_150 : (kr_ (kr_ (kr_ (kr_ (kr_ (kr_ (kr_ (fun _ => none) 0 22) 1 24) 2 26) 3 28) 4 30) 5 32) 6 34) = am_RR false false 150 := by
  funext k
  by_cases h0 : k = 0
  · subst h0
    rfl
  by_cases h1 : k = 1
  · subst h1
    rfl
  by_cases h2 : k = 2
  · subst h2
    rfl
  by_cases h3 : k = 3
  · subst h3
    rfl
  by_cases h4 : k = 4
  · subst h4
    rfl
  by_cases h5 : k = 5
  · subst h5
    rfl
  by_cases h6 : k = 6
  · subst h6
    rfl
  show (kr_ (kr_ (kr_ (kr_ (kr_ (kr_ (kr_ (fun _ => none) 0 22) 1 24) 2 26) 3 28) 4 30) 5 32) 6 34) k = cond (Nat.ble k 2) (cond (Nat.ble k 0) (cond (Nat.beq k 0) (some 22) none) (cond (Nat.ble k 1) (cond (Nat.beq k 1) (some 24) none) (cond (Nat.beq k 2) (some 26) none))) (cond (Nat.ble k 4) (cond (Nat.ble k 3) (cond (Nat.beq k 3) (some 28) none) (cond (Nat.beq k 4) (some 30) none)) (cond (Nat.ble k 5) (cond (Nat.beq k 5) (some 32) none) (cond (Nat.beq k 6) (some 34) none)))
  unfold kr_
  rw [if_neg h6, if_neg h5, if_neg h4, if_neg h3, if_neg h2, if_neg h1, if_neg h0]
  simp only [beq_f h0, beq_f h1, beq_f h2, beq_f h3, beq_f h4, beq_f h5, beq_f h6, cond_false, kc_n]
theorem kq_151 : (fun _ => none) = am_RR false false 151 := by
  funext k
  rfl
theorem kq_152 : (fun _ => none) = am_RR false false 152 := by
  funext k
  rfl
theorem kq_153 : (fun _ => none) = am_RR false false 153 := by
  funext k
  rfl
theorem kq_154 : (fun _ => none) = am_RR false false 154 := by
  funext k
  rfl
theorem kq_155 : (fun _ => none) = am_RR false false 155 := by
  funext k
  rfl
theorem kq_156 : (fun _ => none) = am_RR false false 156 := by
  funext k
  rfl
theorem kq_157 : (fun _ => none) = am_RR false false 157 := by
  funext k
  rfl
theorem kq_158 : (fun _ => none) = am_RR false false 158 := by
  funext k
  rfl
theorem kq_159 : (fun _ => none) = am_RR false false 159 := by
  funext k
  rfl
theorem kq_160 : (fun _ => none) = am_RR false false 160 := by
  funext k
  rfl
theorem kq_161 : (fun _ => none) = am_RR false false 161 := by
  funext k
  rfl
theorem kq_162 : (fun _ => none) = am_RR false false 162 := by
  funext k
  rfl
theorem kq_163 : (fun _ => none) = am_RR false false 163 := by
  funext k
  rfl
theorem kq_164 : (fun _ => none) = am_RR false false 164 := by
  funext k
  rfl
theorem kq_165 : (fun _ => none) = am_RR false false 165 := by
  funext k
  rfl
theorem kq_166 : (fun _ => none) = am_RR false false 166 := by
  funext k
  rfl
theorem kq_167 : (fun _ => none) = am_RR false false 167 := by
  funext k
  rfl
theorem kq_168 : (fun _ => none) = am_RR false false 168 := by
  funext k
  rfl
theorem kq_169 : (fun _ => none) = am_RR false false 169 := by
  funext k
  rfl
theorem kq_170 : (fun _ => none) = am_RR false false 170 := by
  funext k
  rfl
theorem kq_171 : (fun _ => none) = am_RR false false 171 := by
  funext k
  rfl
theorem kq_172 : (fun _ => none) = am_RR false false 172 := by
  funext k
  rfl
theorem kq_173 : (fun _ => none) = am_RR false false 173 := by
  funext k
  rfl
theorem kq_174 : (fun _ => none) = am_RR false false 174 := by
  funext k
  rfl
theorem kq_175 : (fun _ => none) = am_RR false false 175 := by
  funext k
  rfl
theorem kq_176 : (fun _ => none) = am_RR false false 176 := by
  funext k
  rfl
theorem kq_177 : (fun _ => none) = am_RR false false 177 := by
  funext k
  rfl
theorem kq_178 : (fun _ => none) = am_RR false false 178 := by
  funext k
  rfl
theorem kq_179 : (fun _ => none) = am_RR false false 179 := by
  funext k
  rfl
theorem kq_180 : (fun _ => none) = am_RR false false 180 := by
  funext k
  rfl
theorem kq_181 : (fun _ => none) = am_RR false false 181 := by
  funext k
  rfl
theorem kq_182 : (fun _ => none) = am_RR false false 182 := by
  funext k
  rfl
theorem kq_183 : (fun _ => none) = am_RR false false 183 := by
  funext k
  rfl
theorem kq_184 : (fun _ => none) = am_RR false false 184 := by
  funext k
  rfl
set_option maxRecDepth 100000 in
theorem kS_1 (N : Nat) : (am_up (am_up (am_up (am_up (am_up (am_up (am_up (am_up (am_up (am_up (am_up (am_up (am_up (am_up (am_up (am_up (am_up (am_up (am_up (am_up (am_up (am_up (am_up (am_up (am_up (am_up (am_up (am_up (am_up (am_up (am_up (am_up (am_up (am_up (am_up (am_up (am_up (am_up (am_up (am_up (am_up (am_up (am_up (am_up (am_up (am_up (am_up (am_up (am_up (am_up (am_up (am_up (am_up (am_up (am_up (am_up (am_up (am_up (am_up (am_up (am_up (am_up (am_up (am_up (am_up (am_up (am_up (am_up (am_up (am_up (am_up (am_up (kS 75 N) 75 (10, 0)) 76 (3, 0)) 77 (8, 0)) 78 (101, 700)) 79 (4, 0)) 80 (100, 8)) 81 (100, 8)) 82 (100, 8)) 83 (100, 8)) 84 (100, 8)) 85 (6, 0)) 86 (6, 0)) 87 (100, 700)) 88 (100, 40)) 89 (4, 0)) 90 (100, 8)) 91 (100, 8)) 92 (100, 8)) 93 (100, 8)) 94 (100, 8)) 95 (6, 0)) 96 (6, 0)) 97 (100, 700)) 98 (100, 40)) 99 (5, 0)) 100 (100, 8)) 101 (100, 8)) 102 (100, 8)) 103 (100, 8)) 104 (100, 8)) 105 (100, 8)) 106 (100, 8)) 107 (100, 7)) 108 (100, 6)) 109 (5, 0)) 110 (100, 8)) 111 (100, 8)) 112 (100, 8)) 113 (100, 8)) 114 (100, 8)) 115 (100, 8)) 116 (100, 8)) 117 (100, 7)) 118 (100, 6)) 119 (0, 0)) 120 (100, 360)) 121 (7, 0)) 122 (100, 8)) 123 (100, 8)) 124 (100, 8)) 125 (100, 3)) 126 (2, 0)) 127 (5, 0)) 128 (100, 8)) 129 (100, 8)) 130 (100, 8)) 131 (100, 8)) 132 (100, 8)) 133 (100, 8)) 134 (100, 8)) 135 (100, 7)) 136 (100, 6)) 137 (0, 0)) 138 (100, 360)) 139 (7, 0)) 140 (100, 8)) 141 (100, 8)) 142 (100, 8)) 143 (100, 3)) 144 (1, 0)) 145 (100, 21)) 146 (103, 21)) = kS 147 N := by
  funext a
  by_cases h1 : a < 75
  · rw [up_ne (by omega), up_ne (by omega), up_ne (by omega), up_ne (by omega), up_ne (by omega), up_ne (by omega), up_ne (by omega), up_ne (by omega), up_ne (by omega), up_ne (by omega), up_ne (by omega), up_ne (by omega), up_ne (by omega), up_ne (by omega), up_ne (by omega), up_ne (by omega), up_ne (by omega), up_ne (by omega), up_ne (by omega), up_ne (by omega), up_ne (by omega), up_ne (by omega), up_ne (by omega), up_ne (by omega), up_ne (by omega), up_ne (by omega), up_ne (by omega), up_ne (by omega), up_ne (by omega), up_ne (by omega), up_ne (by omega), up_ne (by omega), up_ne (by omega), up_ne (by omega), up_ne (by omega), up_ne (by omega), up_ne (by omega), up_ne (by omega), up_ne (by omega), up_ne (by omega), up_ne (by omega), up_ne (by omega), up_ne (by omega), up_ne (by omega), up_ne (by omega), up_ne (by omega), up_ne (by omega), up_ne (by omega), up_ne (by omega), up_ne (by omega), up_ne (by omega), up_ne (by omega), up_ne (by omega), up_ne (by omega), up_ne (by omega), up_ne (by omega), up_ne (by omega), up_ne (by omega), up_ne (by omega), up_ne (by omega), up_ne (by omega), up_ne (by omega), up_ne (by omega), up_ne (by omega), up_ne (by omega), up_ne (by omega), up_ne (by omega), up_ne (by omega), up_ne (by omega), up_ne (by omega), up_ne (by omega), up_ne (by omega)]
    unfold kS
    rw [k_blf (by omega : ¬ 75 ≤ a), k_blf (by omega : ¬ 147 ≤ a)]
  · by_cases h2 : a < 147
    · have h3 : a = 75 ∨ a = 76 ∨ a = 77 ∨ a = 78 ∨ a = 79 ∨ a = 80 ∨ a = 81 ∨ a = 82 ∨ a = 83 ∨ a = 84 ∨ a = 85 ∨ a = 86 ∨ a = 87 ∨ a = 88 ∨ a = 89 ∨ a = 90 ∨ a = 91 ∨ a = 92 ∨ a = 93 ∨ a = 94 ∨ a = 95 ∨ a = 96 ∨ a = 97 ∨ a = 98 ∨ a = 99 ∨ a = 100 ∨ a = 101 ∨ a = 102 ∨ a = 103 ∨ a = 104 ∨ a = 105 ∨ a = 106 ∨ a = 107 ∨ a = 108 ∨ a = 109 ∨ a = 110 ∨ a = 111 ∨ a = 112 ∨ a = 113 ∨ a = 114 ∨ a = 115 ∨ a = 116 ∨ a = 117 ∨ a = 118 ∨ a = 119 ∨ a = 120 ∨ a = 121 ∨ a = 122 ∨ a = 123 ∨ a = 124 ∨ a = 125 ∨ a = 126 ∨ a = 127 ∨ a = 128 ∨ a = 129 ∨ a = 130 ∨ a = 131 ∨ a = 132 ∨ a = 133 ∨ a = 134 ∨ a = 135 ∨ a = 136 ∨ a = 137 ∨ a = 138 ∨ a = 139 ∨ a = 140 ∨ a = 141 ∨ a = 142 ∨ a = 143 ∨ a = 144 ∨ a = 145 ∨ a = 146 := by omega
      rcases h3 with rfl | rfl | rfl | rfl | rfl | rfl | rfl | rfl | rfl | rfl | rfl | rfl | rfl | rfl | rfl | rfl | rfl | rfl | rfl | rfl | rfl | rfl | rfl | rfl | rfl | rfl | rfl | rfl | rfl | rfl | rfl | rfl | rfl | rfl | rfl | rfl | rfl | rfl | rfl | rfl | rfl | rfl | rfl | rfl | rfl | rfl | rfl | rfl | rfl | rfl | rfl | rfl | rfl | rfl | rfl | rfl | rfl | rfl | rfl | rfl | rfl | rfl | rfl | rfl | rfl | rfl | rfl | rfl | rfl | rfl | rfl | rfl
      · exact rfl
      · exact rfl
      · exact rfl
      · exact rfl
      · exact rfl
      · exact rfl
      · exact rfl
      · exact rfl
      · exact rfl
      · exact rfl
      · exact rfl
      · exact rfl
      · exact rfl
      · exact rfl
      · exact rfl
      · exact rfl
      · exact rfl
      · exact rfl
      · exact rfl
      · exact rfl
      · exact rfl
      · exact rfl
      · exact rfl
      · exact rfl
      · exact rfl
      · exact rfl
      · exact rfl
      · exact rfl
      · exact rfl
      · exact rfl
      · exact rfl
      · exact rfl
      · exact rfl
      · exact rfl
      · exact rfl
      · exact rfl
      · exact rfl
      · exact rfl
      · exact rfl
      · exact rfl
      · exact rfl
      · exact rfl
      · exact rfl
      · exact rfl
      · exact rfl
      · exact rfl
      · exact rfl
      · exact rfl
      · exact rfl
      · exact rfl
      · exact rfl
      · exact rfl
      · exact rfl
      · exact rfl
      · exact rfl
      · exact rfl
      · exact rfl
      · exact rfl
      · exact rfl
      · exact rfl
      · exact rfl
      · exact rfl
      · exact rfl
      · exact rfl
      · exact rfl
      · exact rfl
      · exact rfl
      · exact rfl
      · exact rfl
      · exact rfl
      · exact rfl
      · exact rfl
    · rw [up_ne (by omega), up_ne (by omega), up_ne (by omega), up_ne (by omega), up_ne (by omega), up_ne (by omega), up_ne (by omega), up_ne (by omega), up_ne (by omega), up_ne (by omega), up_ne (by omega), up_ne (by omega), up_ne (by omega), up_ne (by omega), up_ne (by omega), up_ne (by omega), up_ne (by omega), up_ne (by omega), up_ne (by omega), up_ne (by omega), up_ne (by omega), up_ne (by omega), up_ne (by omega), up_ne (by omega), up_ne (by omega), up_ne (by omega), up_ne (by omega), up_ne (by omega), up_ne (by omega), up_ne (by omega), up_ne (by omega), up_ne (by omega), up_ne (by omega), up_ne (by omega), up_ne (by omega), up_ne (by omega), up_ne (by omega), up_ne (by omega), up_ne (by omega), up_ne (by omega), up_ne (by omega), up_ne (by omega), up_ne (by omega), up_ne (by omega), up_ne (by omega), up_ne (by omega), up_ne (by omega), up_ne (by omega), up_ne (by omega), up_ne (by omega), up_ne (by omega), up_ne (by omega), up_ne (by omega), up_ne (by omega), up_ne (by omega), up_ne (by omega), up_ne (by omega), up_ne (by omega), up_ne (by omega), up_ne (by omega), up_ne (by omega), up_ne (by omega), up_ne (by omega), up_ne (by omega), up_ne (by omega), up_ne (by omega), up_ne (by omega), up_ne (by omega), up_ne (by omega), up_ne (by omega), up_ne (by omega), up_ne (by omega)]
      unfold kS
      rw [k_ble (by omega : 75 ≤ a), k_ble (by omega : 147 ≤ a)]
set_option maxRecDepth 100000 in
theorem kR_1  : (am_up (am_up (am_up (am_up (am_up (am_up (am_up (am_up (am_up (am_up (am_up (am_up (am_up (am_up (am_up (am_up (am_up (am_up (am_up (am_up (am_up (am_up (am_up (am_up (am_up (am_up (am_up (am_up (am_up (am_up (am_up (am_up (am_up (am_up (am_up (am_up (am_up (am_up (am_up (am_up (am_up (am_up (am_up (am_up (am_up (am_up (am_up (am_up (am_up (am_up (am_up (am_up (am_up (am_up (am_up (am_up (am_up (am_up (am_up (am_up (am_up (am_up (am_up (am_up (am_up (am_up (am_up (am_up (am_up (am_up (am_up (am_up (am_up (am_up (am_up (am_up (am_up (am_up (am_up (am_up (am_up (am_up (am_up (am_up (am_up (am_up (am_up (am_up (am_up (am_up (am_up (am_up (am_up (am_up (am_up (am_up (am_up (am_up (am_up (am_up (am_up (am_up (am_up (am_up (am_up (am_up (am_up (am_up (am_up (am_up (am_up (am_up (am_up (am_up (am_up (am_up (am_up (am_up (am_up (am_up (am_up (am_up (am_up (am_up (am_up (am_up (am_up (am_up (am_up (am_up (am_up (am_up (am_up (am_up (am_up (am_up (am_up (am_up (am_up (am_up (am_up (am_up (am_up (kR 75) 75 (fun _ => none)) 76 (fun _ => none)) 77 (fun _ => none)) 78 (fun _ => none)) 77 (kr_ (fun _ => none) 0 78)) 76 (kr_ (fun _ => none) 0 77)) 75 (kr_ (fun _ => none) 0 76)) 79 (fun _ => none)) 80 (fun _ => none)) 79 (kr_ (fun _ => none) 2 80)) 81 (fun _ => none)) 79 (kr_ (kr_ (fun _ => none) 2 80) 3 81)) 82 (fun _ => none)) 79 (kr_ (kr_ (kr_ (fun _ => none) 2 80) 3 81) 4 82)) 83 (fun _ => none)) 79 (kr_ (kr_ (kr_ (kr_ (fun _ => none) 2 80) 3 81) 4 82) 5 83)) 84 (fun _ => none)) 79 (kr_ (kr_ (kr_ (kr_ (kr_ (fun _ => none) 2 80) 3 81) 4 82) 5 83) 7 84)) 85 (fun _ => none)) 79 (kr_ (kr_ (kr_ (kr_ (kr_ (kr_ (fun _ => none) 2 80) 3 81) 4 82) 5 83) 7 84) 8 85)) 86 (fun _ => none)) 79 (kr_ (kr_ (kr_ (kr_ (kr_ (kr_ (kr_ (fun _ => none) 2 80) 3 81) 4 82) 5 83) 7 84) 8 85) 9 86)) 87 (fun _ => none)) 79 (kr_ (kr_ (kr_ (kr_ (kr_ (kr_ (kr_ (kr_ (fun _ => none) 2 80) 3 81) 4 82) 5 83) 7 84) 8 85) 9 86) 10 87)) 88 (fun _ => none)) 79 (kr_ (kr_ (kr_ (kr_ (kr_ (kr_ (kr_ (kr_ (kr_ (fun _ => none) 2 80) 3 81) 4 82) 5 83) 7 84) 8 85) 9 86) 10 87) 12 88)) 75 (kr_ (kr_ (fun _ => none) 0 76) 2 79)) 89 (fun _ => none)) 90 (fun _ => none)) 89 (kr_ (fun _ => none) 2 90)) 91 (fun _ => none)) 89 (kr_ (kr_ (fun _ => none) 2 90) 3 91)) 92 (fun _ => none)) 89 (kr_ (kr_ (kr_ (fun _ => none) 2 90) 3 91) 4 92)) 93 (fun _ => none)) 89 (kr_ (kr_ (kr_ (kr_ (fun _ => none) 2 90) 3 91) 4 92) 5 93)) 94 (fun _ => none)) 89 (kr_ (kr_ (kr_ (kr_ (kr_ (fun _ => none) 2 90) 3 91) 4 92) 5 93) 7 94)) 95 (fun _ => none)) 89 (kr_ (kr_ (kr_ (kr_ (kr_ (kr_ (fun _ => none) 2 90) 3 91) 4 92) 5 93) 7 94) 8 95)) 96 (fun _ => none)) 89 (kr_ (kr_ (kr_ (kr_ (kr_ (kr_ (kr_ (fun _ => none) 2 90) 3 91) 4 92) 5 93) 7 94) 8 95) 9 96)) 97 (fun _ => none)) 89 (kr_ (kr_ (kr_ (kr_ (kr_ (kr_ (kr_ (kr_ (fun _ => none) 2 90) 3 91) 4 92) 5 93) 7 94) 8 95) 9 96) 10 97)) 98 (fun _ => none)) 89 (kr_ (kr_ (kr_ (kr_ (kr_ (kr_ (kr_ (kr_ (kr_ (fun _ => none) 2 90) 3 91) 4 92) 5 93) 7 94) 8 95) 9 96) 10 97) 12 98)) 75 (kr_ (kr_ (kr_ (fun _ => none) 0 76) 2 79) 3 89)) 99 (fun _ => none)) 100 (fun _ => none)) 99 (kr_ (fun _ => none) 3 100)) 101 (fun _ => none)) 99 (kr_ (kr_ (fun _ => none) 3 100) 4 101)) 102 (fun _ => none)) 99 (kr_ (kr_ (kr_ (fun _ => none) 3 100) 4 101) 5 102)) 103 (fun _ => none)) 99 (kr_ (kr_ (kr_ (kr_ (fun _ => none) 3 100) 4 101) 5 102) 6 103)) 104 (fun _ => none)) 99 (kr_ (kr_ (kr_ (kr_ (kr_ (fun _ => none) 3 100) 4 101) 5 102) 6 103) 7 104)) 105 (fun _ => none)) 99 (kr_ (kr_ (kr_ (kr_ (kr_ (kr_ (fun _ => none) 3 100) 4 101) 5 102) 6 103) 7 104) 8 105)) 106 (fun _ => none)) 99 (kr_ (kr_ (kr_ (kr_ (kr_ (kr_ (kr_ (fun _ => none) 3 100) 4 101) 5 102) 6 103) 7 104) 8 105) 9 106)) 107 (fun _ => none)) 99 (kr_ (kr_ (kr_ (kr_ (kr_ (kr_ (kr_ (kr_ (fun _ => none) 3 100) 4 101) 5 102) 6 103) 7 104) 8 105) 9 106) 10 107)) 108 (fun _ => none)) 99 (kr_ (kr_ (kr_ (kr_ (kr_ (kr_ (kr_ (kr_ (kr_ (fun _ => none) 3 100) 4 101) 5 102) 6 103) 7 104) 8 105) 9 106) 10 107) 11 108)) 75 (kr_ (kr_ (kr_ (kr_ (fun _ => none) 0 76) 2 79) 3 89) 4 99)) 109 (fun _ => none)) 110 (fun _ => none)) 109 (kr_ (fun _ => none) 3 110)) 111 (fun _ => none)) 109 (kr_ (kr_ (fun _ => none) 3 110) 4 111)) 112 (fun _ => none)) 109 (kr_ (kr_ (kr_ (fun _ => none) 3 110) 4 111) 5 112)) 113 (fun _ => none)) 109 (kr_ (kr_ (kr_ (kr_ (fun _ => none) 3 110) 4 111) 5 112) 6 113)) 114 (fun _ => none)) 109 (kr_ (kr_ (kr_ (kr_ (kr_ (fun _ => none) 3 110) 4 111) 5 112) 6 113) 7 114)) 115 (fun _ => none)) 109 (kr_ (kr_ (kr_ (kr_ (kr_ (kr_ (fun _ => none) 3 110) 4 111) 5 112) 6 113) 7 114) 8 115)) 116 (fun _ => none)) 109 (kr_ (kr_ (kr_ (kr_ (kr_ (kr_ (kr_ (fun _ => none) 3 110) 4 111) 5 112) 6 113) 7 114) 8 115) 9 116)) 117 (fun _ => none)) 109 (kr_ (kr_ (kr_ (kr_ (kr_ (kr_ (kr_ (kr_ (fun _ => none) 3 110) 4 111) 5 112) 6 113) 7 114) 8 115) 9 116) 10 117)) 118 (fun _ => none)) 109 (kr_ (kr_ (kr_ (kr_ (kr_ (kr_ (kr_ (kr_ (kr_ (fun _ => none) 3 110) 4 111) 5 112) 6 113) 7 114) 8 115) 9 116) 10 117) 11 118)) 75 (kr_ (kr_ (kr_ (kr_ (kr_ (fun _ => none) 0 76) 2 79) 3 89) 4 99) 5 109)) 119 (fun _ => none)) 120 (fun _ => none)) 119 (kr_ (fun _ => none) 0 120)) 75 (kr_ (kr_ (kr_ (kr_ (kr_ (kr_ (fun _ => none) 0 76) 2 79) 3 89) 4 99) 5 109) 6 119)) 121 (fun _ => none)) 122 (fun _ => none)) 121 (kr_ (fun _ => none) 0 122)) 123 (fun _ => none)) 121 (kr_ (kr_ (fun _ => none) 0 122) 1 123)) 124 (fun _ => none)) 121 (kr_ (kr_ (kr_ (fun _ => none) 0 122) 1 123) 2 124)) 75 (kr_ (kr_ (kr_ (kr_ (kr_ (kr_ (kr_ (fun _ => none) 0 76) 2 79) 3 89) 4 99) 5 109) 6 119) 7 121)) 125 (fun _ => none)) 75 (kr_ (kr_ (kr_ (kr_ (kr_ (kr_ (kr_ (kr_ (fun _ => none) 0 76) 2 79) 3 89) 4 99) 5 109) 6 119) 7 121) 8 125)) 126 (fun _ => none)) 127 (fun _ => none)) 128 (fun _ => none)) 127 (kr_ (fun _ => none) 3 128)) 129 (fun _ => none)) 127 (kr_ (kr_ (fun _ => none) 3 128) 4 129)) 130 (fun _ => none)) 127 (kr_ (kr_ (kr_ (fun _ => none) 3 128) 4 129) 5 130)) 131 (fun _ => none)) 127 (kr_ (kr_ (kr_ (kr_ (fun _ => none) 3 128) 4 129) 5 130) 6 131)) 132 (fun _ => none)) 127 (kr_ (kr_ (kr_ (kr_ (kr_ (fun _ => none) 3 128) 4 129) 5 130) 6 131) 7 132)) 133 (fun _ => none)) 127 (kr_ (kr_ (kr_ (kr_ (kr_ (kr_ (fun _ => none) 3 128) 4 129) 5 130) 6 131) 7 132) 8 133)) 134 (fun _ => none)) 127 (kr_ (kr_ (kr_ (kr_ (kr_ (kr_ (kr_ (fun _ => none) 3 128) 4 129) 5 130) 6 131) 7 132) 8 133) 9 134)) 135 (fun _ => none)) 127 (kr_ (kr_ (kr_ (kr_ (kr_ (kr_ (kr_ (kr_ (fun _ => none) 3 128) 4 129) 5 130) 6 131) 7 132) 8 133) 9 134) 10 135)) 136 (fun _ => none)) 127 (kr_ (kr_ (kr_ (kr_ (kr_ (kr_ (kr_ (kr_ (kr_ (fun _ => none) 3 128) 4 129) 5 130) 6 131) 7 132) 8 133) 9 134) 10 135) 11 136)) 126 (kr_ (fun _ => none) 1 127)) 137 (fun _ => none)) 138 (fun _ => none)) 137 (kr_ (fun _ => none) 0 138)) 126 (kr_ (kr_ (fun _ => none) 1 127) 2 137)) 139 (fun _ => none)) 140 (fun _ => none)) 139 (kr_ (fun _ => none) 0 140)) 141 (fun _ => none)) 139 (kr_ (kr_ (fun _ => none) 0 140) 1 141)) 142 (fun _ => none)) 139 (kr_ (kr_ (kr_ (fun _ => none) 0 140) 1 141) 2 142)) 126 (kr_ (kr_ (kr_ (fun _ => none) 1 127) 2 137) 3 139)) 143 (fun _ => none)) 126 (kr_ (kr_ (kr_ (kr_ (fun _ => none) 1 127) 2 137) 3 139) 4 143)) 75 (kr_ (kr_ (kr_ (kr_ (kr_ (kr_ (kr_ (kr_ (kr_ (fun _ => none) 0 76) 2 79) 3 89) 4 99) 5 109) 6 119) 7 121) 8 125) 9 126)) 144 (fun _ => none)) 75 (kr_ (kr_ (kr_ (kr_ (kr_ (kr_ (kr_ (kr_ (kr_ (kr_ (fun _ => none) 0 76) 2 79) 3 89) 4 99) 5 109) 6 119) 7 121) 8 125) 9 126) 10 144)) 145 (fun _ => none)) 75 (kr_ (kr_ (kr_ (kr_ (kr_ (kr_ (kr_ (kr_ (kr_ (kr_ (kr_ (fun _ => none) 0 76) 2 79) 3 89) 4 99) 5 109) 6 119) 7 121) 8 125) 9 126) 10 144) 11 145)) 146 (fun _ => none)) 75 (kr_ (kr_ (kr_ (kr_ (kr_ (kr_ (kr_ (kr_ (kr_ (kr_ (kr_ (kr_ (fun _ => none) 0 76) 2 79) 3 89) 4 99) 5 109) 6 119) 7 121) 8 125) 9 126) 10 144) 11 145) 12 146)) = kR 147 := by
  funext a
  by_cases h1 : a < 75
  · rw [up_ne (by omega), up_ne (by omega), up_ne (by omega), up_ne (by omega), up_ne (by omega), up_ne (by omega), up_ne (by omega), up_ne (by omega), up_ne (by omega), up_ne (by omega), up_ne (by omega), up_ne (by omega), up_ne (by omega), up_ne (by omega), up_ne (by omega), up_ne (by omega), up_ne (by omega), up_ne (by omega), up_ne (by omega), up_ne (by omega), up_ne (by omega), up_ne (by omega), up_ne (by omega), up_ne (by omega), up_ne (by omega), up_ne (by omega), up_ne (by omega), up_ne (by omega), up_ne (by omega), up_ne (by omega), up_ne (by omega), up_ne (by omega), up_ne (by omega), up_ne (by omega), up_ne (by omega), up_ne (by omega), up_ne (by omega), up_ne (by omega), up_ne (by omega), up_ne (by omega), up_ne (by omega), up_ne (by omega), up_ne (by omega), up_ne (by omega), up_ne (by omega), up_ne (by omega), up_ne (by omega), up_ne (by omega), up_ne (by omega), up_ne (by omega), up_ne (by omega), up_ne (by omega), up_ne (by omega), up_ne (by omega), up_ne (by omega), up_ne (by omega), up_ne (by omega), up_ne (by omega), up_ne (by omega), up_ne (by omega), up_ne (by omega), up_ne (by omega), up_ne (by omega), up_ne (by omega), up_ne (by omega), up_ne (by omega), up_ne (by omega), up_ne (by omega), up_ne (by omega), up_ne (by omega), up_ne (by omega), up_ne (by omega), up_ne (by omega), up_ne (by omega), up_ne (by omega), up_ne (by omega), up_ne (by omega), up_ne (by omega), up_ne (by omega), up_ne (by omega), up_ne (by omega), up_ne (by omega), up_ne (by omega), up_ne (by omega), up_ne (by omega), up_ne (by omega), up_ne (by omega), up_ne (by omega), up_ne (by omega), up_ne (by omega), up_ne (by omega), up_ne (by omega), up_ne (by omega), up_ne (by omega), up_ne (by omega), up_ne (by omega), up_ne (by omega), up_ne (by omega), up_ne (by omega), up_ne (by omega), up_ne (by omega), up_ne (by omega), up_ne (by omega), up_ne (by omega), up_ne (by omega), up_ne (by omega), up_ne (by omega), up_ne (by omega), up_ne (by omega), up_ne (by omega), up_ne (by omega), up_ne (by omega), up_ne (by omega), up_ne (by omega), up_ne (by omega), up_ne (by omega), up_ne (by omega), up_ne (by omega), up_ne (by omega), up_ne (by omega), up_ne (by omega), up_ne (by omega), up_ne (by omega), up_ne (by omega), up_ne (by omega), up_ne (by omega), up_ne (by omega), up_ne (by omega), up_ne (by omega), up_ne (by omega), up_ne (by omega), up_ne (by omega), up_ne (by omega), up_ne (by omega), up_ne (by omega), up_ne (by omega), up_ne (by omega), up_ne (by omega), up_ne (by omega), up_ne (by omega), up_ne (by omega), up_ne (by omega), up_ne (by omega)]
    unfold kR
    rw [k_blf (by omega : ¬ 75 ≤ a), k_blf (by omega : ¬ 147 ≤ a)]
  · by_cases h2 : a < 147
    · have h3 : a = 75 ∨ a = 76 ∨ a = 77 ∨ a = 78 ∨ a = 79 ∨ a = 80 ∨ a = 81 ∨ a = 82 ∨ a = 83 ∨ a = 84 ∨ a = 85 ∨ a = 86 ∨ a = 87 ∨ a = 88 ∨ a = 89 ∨ a = 90 ∨ a = 91 ∨ a = 92 ∨ a = 93 ∨ a = 94 ∨ a = 95 ∨ a = 96 ∨ a = 97 ∨ a = 98 ∨ a = 99 ∨ a = 100 ∨ a = 101 ∨ a = 102 ∨ a = 103 ∨ a = 104 ∨ a = 105 ∨ a = 106 ∨ a = 107 ∨ a = 108 ∨ a = 109 ∨ a = 110 ∨ a = 111 ∨ a = 112 ∨ a = 113 ∨ a = 114 ∨ a = 115 ∨ a = 116 ∨ a = 117 ∨ a = 118 ∨ a = 119 ∨ a = 120 ∨ a = 121 ∨ a = 122 ∨ a = 123 ∨ a = 124 ∨ a = 125 ∨ a = 126 ∨ a = 127 ∨ a = 128 ∨ a = 129 ∨ a = 130 ∨ a = 131 ∨ a = 132 ∨ a = 133 ∨ a = 134 ∨ a = 135 ∨ a = 136 ∨ a = 137 ∨ a = 138 ∨ a = 139 ∨ a = 140 ∨ a = 141 ∨ a = 142 ∨ a = 143 ∨ a = 144 ∨ a = 145 ∨ a = 146 := by omega
      rcases h3 with rfl | rfl | rfl | rfl | rfl | rfl | rfl | rfl | rfl | rfl | rfl | rfl | rfl | rfl | rfl | rfl | rfl | rfl | rfl | rfl | rfl | rfl | rfl | rfl | rfl | rfl | rfl | rfl | rfl | rfl | rfl | rfl | rfl | rfl | rfl | rfl | rfl | rfl | rfl | rfl | rfl | rfl | rfl | rfl | rfl | rfl | rfl | rfl | rfl | rfl | rfl | rfl | rfl | rfl | rfl | rfl | rfl | rfl | rfl | rfl | rfl | rfl | rfl | rfl | rfl | rfl | rfl | rfl | rfl | rfl | rfl | rfl
      · exact kq_75
      · exact kq_76
      · exact kq_77
      · exact kq_78
      · exact kq_79
      · exact kq_80
      · exact kq_81
      · exact kq_82
      · exact kq_83
      · exact kq_84
      · exact kq_85
      · exact kq_86
      · exact kq_87
      · exact kq_88
      · exact kq_89
      · exact kq_90
      · exact kq_91
      · exact kq_92
      · exact kq_93
      · exact kq_94
      · exact kq_95
      · exact kq_96
      · exact kq_97
      · exact kq_98
      · exact kq_99
      · exact kq_100
      · exact kq_101
      · exact kq_102
      · exact kq_103
      · exact kq_104
      · exact kq_105
      · exact kq_106
      · exact kq_107
      · exact kq_108
      · exact kq_109
      · exact kq_110
      · exact kq_111
      · exact kq_112
      · exact kq_113
      · exact kq_114
      · exact kq_115
      · exact kq_116
      · exact kq_117
      · exact kq_118
      · exact kq_119
      · exact kq_120
      · exact kq_121
      · exact kq_122
      · exact kq_123
      · exact kq_124
      · exact kq_125
      · exact kq_126
      · exact kq_127
      · exact kq_128
      · exact kq_129
      · exact kq_130
      · exact kq_131
      · exact kq_132
      · exact kq_133
      · exact kq_134
      · exact kq_135
      · exact kq_136
      · exact kq_137
      · exact kq_138
      · exact kq_139
      · exact kq_140
      · exact kq_141
      · exact kq_142
      · exact kq_143
      · exact kq_144
      · exact kq_145
      · exact kq_146
    · rw [up_ne (by omega), up_ne (by omega), up_ne (by omega), up_ne (by omega), up_ne (by omega), up_ne (by omega), up_ne (by omega), up_ne (by omega), up_ne (by omega), up_ne (by omega), up_ne (by omega), up_ne (by omega), up_ne (by omega), up_ne (by omega), up_ne (by omega), up_ne (by omega), up_ne (by omega), up_ne (by omega), up_ne (by omega), up_ne (by omega), up_ne (by omega), up_ne (by omega), up_ne (by omega), up_ne (by omega), up_ne (by omega), up_ne (by omega), up_ne (by omega), up_ne (by omega), up_ne (by omega), up_ne (by omega), up_ne (by omega), up_ne (by omega), up_ne (by omega), up_ne (by omega), up_ne (by omega), up_ne (by omega), up_ne (by omega), up_ne (by omega), up_ne (by omega), up_ne (by omega), up_ne (by omega), up_ne (by omega), up_ne (by omega), up_ne (by omega), up_ne (by omega), up_ne (by omega), up_ne (by omega), up_ne (by omega), up_ne (by omega), up_ne (by omega), up_ne (by omega), up_ne (by omega), up_ne (by omega), up_ne (by omega), up_ne (by omega), up_ne (by omega), up_ne (by omega), up_ne (by omega), up_ne (by omega), up_ne (by omega), up_ne (by omega), up_ne (by omega), up_ne (by omega), up_ne (by omega), up_ne (by omega), up_ne (by omega), up_ne (by omega), up_ne (by omega), up_ne (by omega), up_ne (by omega), up_ne (by omega), up_ne (by omega), up_ne (by omega), up_ne (by omega), up_ne (by omega), up_ne (by omega), up_ne (by omega), up_ne (by omega), up_ne (by omega), up_ne (by omega), up_ne (by omega), up_ne (by omega), up_ne (by omega), up_ne (by omega), up_ne (by omega), up_ne (by omega), up_ne (by omega), up_ne (by omega), up_ne (by omega), up_ne (by omega), up_ne (by omega), up_ne (by omega), up_ne (by omega), up_ne (by omega), up_ne (by omega), up_ne (by omega), up_ne (by omega), up_ne (by omega), up_ne (by omega), up_ne (by omega), up_ne (by omega), up_ne (by omega), up_ne (by omega), up_ne (by omega), up_ne (by omega), up_ne (by omega), up_ne (by omega), up_ne (by omega), up_ne (by omega), up_ne (by omega), up_ne (by omega), up_ne (by omega), up_ne (by omega), up_ne (by omega), up_ne (by omega), up_ne (by omega), up_ne (by omega), up_ne (by omega), up_ne (by omega), up_ne (by omega), up_ne (by omega), up_ne (by omega), up_ne (by omega), up_ne (by omega), up_ne (by omega), up_ne (by omega), up_ne (by omega), up_ne (by omega), up_ne (by omega), up_ne (by omega), up_ne (by omega), up_ne (by omega), up_ne (by omega), up_ne (by omega), up_ne (by omega), up_ne (by omega), up_ne (by omega), up_ne (by omega), up_ne (by omega), up_ne (by omega), up_ne (by omega), up_ne (by omega), up_ne (by omega)]
      unfold kR
      rw [k_ble (by omega : 75 ≤ a), k_ble (by omega : 147 ≤ a)]
set_option maxRecDepth 100000 in
theorem kS_2 (N : Nat) : (am_up (am_up (am_up (am_up (am_up (am_up (am_up (am_up (am_up (am_up (am_up (am_up (am_up (am_up (am_up (am_up (am_up (am_up (am_up (am_up (am_up (am_up (am_up (am_up (am_up (am_up (am_up (am_up (am_up (am_up (am_up (am_up (am_up (am_up (am_up (am_up (am_up (am_up (kS 147 N) 147 (11, 0)) 148 (104, 2)) 149 (104, 5)) 150 (104, 7)) 151 (100, 8)) 152 (100, 16)) 153 (100, 16)) 154 (100, 16)) 155 (100, 16)) 156 (100, 16)) 157 (100, 16)) 158 (100, 1400)) 159 (100, 1400)) 160 (100, 3)) 161 (100, 700)) 162 (100, 8)) 163 (100, 8)) 164 (100, 8)) 165 (100, 8)) 166 (100, 8)) 167 (100, 1680)) 168 (100, 7)) 169 (100, 64)) 170 (100, 8)) 171 (100, 42)) 172 (100, 8)) 173 (100, 8)) 174 (100, 42)) 175 (102, 8)) 176 (100, 136)) 177 (100, 2720)) 178 (100, 8)) 179 (100, 42)) 180 (100, 1680)) 181 (100, 8)) 182 (100, 8)) 183 (100, 3)) 184 (102, 8)) = kS 185 N := by
  funext a
  by_cases h1 : a < 147
  · rw [up_ne (by omega), up_ne (by omega), up_ne (by omega), up_ne (by omega), up_ne (by omega), up_ne (by omega), up_ne (by omega), up_ne (by omega), up_ne (by omega), up_ne (by omega), up_ne (by omega), up_ne (by omega), up_ne (by omega), up_ne (by omega), up_ne (by omega), up_ne (by omega), up_ne (by omega), up_ne (by omega), up_ne (by omega), up_ne (by omega), up_ne (by omega), up_ne (by omega), up_ne (by omega), up_ne (by omega), up_ne (by omega), up_ne (by omega), up_ne (by omega), up_ne (by omega), up_ne (by omega), up_ne (by omega), up_ne (by omega), up_ne (by omega), up_ne (by omega), up_ne (by omega), up_ne (by omega), up_ne (by omega), up_ne (by omega), up_ne (by omega)]
    unfold kS
    rw [k_blf (by omega : ¬ 147 ≤ a), k_blf (by omega : ¬ 185 ≤ a)]
  · by_cases h2 : a < 185
    · have h3 : a = 147 ∨ a = 148 ∨ a = 149 ∨ a = 150 ∨ a = 151 ∨ a = 152 ∨ a = 153 ∨ a = 154 ∨ a = 155 ∨ a = 156 ∨ a = 157 ∨ a = 158 ∨ a = 159 ∨ a = 160 ∨ a = 161 ∨ a = 162 ∨ a = 163 ∨ a = 164 ∨ a = 165 ∨ a = 166 ∨ a = 167 ∨ a = 168 ∨ a = 169 ∨ a = 170 ∨ a = 171 ∨ a = 172 ∨ a = 173 ∨ a = 174 ∨ a = 175 ∨ a = 176 ∨ a = 177 ∨ a = 178 ∨ a = 179 ∨ a = 180 ∨ a = 181 ∨ a = 182 ∨ a = 183 ∨ a = 184 := by omega
      rcases h3 with rfl | rfl | rfl | rfl | rfl | rfl | rfl | rfl | rfl | rfl | rfl | rfl | rfl | rfl | rfl | rfl | rfl | rfl | rfl | rfl | rfl | rfl | rfl | rfl | rfl | rfl | rfl | rfl | rfl | rfl | rfl | rfl | rfl | rfl | rfl | rfl | rfl | rfl
      · exact rfl
      · exact rfl
      · exact rfl
      · exact rfl
      · exact rfl
      · exact rfl
      · exact rfl
      · exact rfl
      · exact rfl
      · exact rfl
      · exact rfl
      · exact rfl
      · exact rfl
      · exact rfl
      · exact rfl
      · exact rfl
      · exact rfl
      · exact rfl
      · exact rfl
      · exact rfl
      · exact rfl
      · exact rfl
      · exact rfl
      · exact rfl
      · exact rfl
      · exact rfl
      · exact rfl
      · exact rfl
      · exact rfl
      · exact rfl
      · exact rfl
      · exact rfl
      · exact rfl
      · exact rfl
      · exact rfl
      · exact rfl
      · exact rfl
      · exact rfl
    · rw [up_ne (by omega), up_ne (by omega), up_ne (by omega), up_ne (by omega), up_ne (by omega), up_ne (by omega), up_ne (by omega), up_ne (by omega), up_ne (by omega), up_ne (by omega), up_ne (by omega), up_ne (by omega), up_ne (by omega), up_ne (by omega), up_ne (by omega), up_ne (by omega), up_ne (by omega), up_ne (by omega), up_ne (by omega), up_ne (by omega), up_ne (by omega), up_ne (by omega), up_ne (by omega), up_ne (by omega), up_ne (by omega), up_ne (by omega), up_ne (by omega), up_ne (by omega), up_ne (by omega), up_ne (by omega), up_ne (by omega), up_ne (by omega), up_ne (by omega), up_ne (by omega), up_ne (by omega), up_ne (by omega), up_ne (by omega), up_ne (by omega)]
      unfold kS
      rw [k_ble (by omega : 147 ≤ a), k_ble (by omega : 185 ≤ a)]
set_option maxRecDepth 100000 in
theorem kR_2  : (am_up (am_up (am_up (am_up (am_up (am_up (am_up (am_up (am_up (am_up (am_up (am_up (am_up (am_up (am_up (am_up (am_up (am_up (am_up (am_up (am_up (am_up (am_up (am_up (am_up (am_up (am_up (am_up (am_up (am_up (am_up (am_up (am_up (am_up (am_up (am_up (am_up (am_up (am_up (am_up (am_up (am_up (am_up (am_up (am_up (am_up (am_up (am_up (am_up (am_up (am_up (am_up (am_up (am_up (am_up (am_up (am_up (am_up (am_up (am_up (am_up (am_up (am_up (am_up (am_up (am_up (am_up (am_up (am_up (am_up (am_up (am_up (am_up (am_up (am_up (am_up (am_up (am_up (am_up (am_up (am_up (am_up (am_up (am_up (am_up (am_up (am_up (am_up (am_up (am_up (kR 147) 147 (fun _ => none)) 148 (fun _ => none)) 148 (kr_ (fun _ => none) 0 18)) 148 (kr_ (kr_ (fun _ => none) 0 18) 1 20)) 147 (kr_ (fun _ => none) 0 148)) 149 (fun _ => none)) 149 (kr_ (fun _ => none) 0 22)) 149 (kr_ (kr_ (fun _ => none) 0 22) 1 24)) 149 (kr_ (kr_ (kr_ (fun _ => none) 0 22) 1 24) 2 26)) 149 (kr_ (kr_ (kr_ (kr_ (fun _ => none) 0 22) 1 24) 2 26) 3 28)) 149 (kr_ (kr_ (kr_ (kr_ (kr_ (fun _ => none) 0 22) 1 24) 2 26) 3 28) 4 30)) 147 (kr_ (kr_ (fun _ => none) 0 148) 1 149)) 150 (fun _ => none)) 150 (kr_ (fun _ => none) 0 22)) 150 (kr_ (kr_ (fun _ => none) 0 22) 1 24)) 150 (kr_ (kr_ (kr_ (fun _ => none) 0 22) 1 24) 2 26)) 150 (kr_ (kr_ (kr_ (kr_ (fun _ => none) 0 22) 1 24) 2 26) 3 28)) 150 (kr_ (kr_ (kr_ (kr_ (kr_ (fun _ => none) 0 22) 1 24) 2 26) 3 28) 4 30)) 150 (kr_ (kr_ (kr_ (kr_ (kr_ (kr_ (fun _ => none) 0 22) 1 24) 2 26) 3 28) 4 30) 5 32)) 150 (kr_ (kr_ (kr_ (kr_ (kr_ (kr_ (kr_ (fun _ => none) 0 22) 1 24) 2 26) 3 28) 4 30) 5 32) 6 34)) 147 (kr_ (kr_ (kr_ (fun _ => none) 0 148) 1 149) 2 150)) 147 (kr_ (kr_ (kr_ (kr_ (fun _ => none) 0 148) 1 149) 2 150) 3 149)) 151 (fun _ => none)) 147 (kr_ (kr_ (kr_ (kr_ (kr_ (fun _ => none) 0 148) 1 149) 2 150) 3 149) 5 151)) 152 (fun _ => none)) 147 (kr_ (kr_ (kr_ (kr_ (kr_ (kr_ (fun _ => none) 0 148) 1 149) 2 150) 3 149) 5 151) 6 152)) 153 (fun _ => none)) 147 (kr_ (kr_ (kr_ (kr_ (kr_ (kr_ (kr_ (fun _ => none) 0 148) 1 149) 2 150) 3 149) 5 151) 6 152) 7 153)) 154 (fun _ => none)) 147 (kr_ (kr_ (kr_ (kr_ (kr_ (kr_ (kr_ (kr_ (fun _ => none) 0 148) 1 149) 2 150) 3 149) 5 151) 6 152) 7 153) 8 154)) 155 (fun _ => none)) 147 (kr_ (kr_ (kr_ (kr_ (kr_ (kr_ (kr_ (kr_ (kr_ (fun _ => none) 0 148) 1 149) 2 150) 3 149) 5 151) 6 152) 7 153) 8 154) 9 155)) 156 (fun _ => none)) 147 (kr_ (kr_ (kr_ (kr_ (kr_ (kr_ (kr_ (kr_ (kr_ (kr_ (fun _ => none) 0 148) 1 149) 2 150) 3 149) 5 151) 6 152) 7 153) 8 154) 9 155) 10 156)) 157 (fun _ => none)) 147 (kr_ (kr_ (kr_ (kr_ (kr_ (kr_ (kr_ (kr_ (kr_ (kr_ (kr_ (fun _ => none) 0 148) 1 149) 2 150) 3 149) 5 151) 6 152) 7 153) 8 154) 9 155) 10 156) 11 157)) 158 (fun _ => none)) 147 (kr_ (kr_ (kr_ (kr_ (kr_ (kr_ (kr_ (kr_ (kr_ (kr_ (kr_ (kr_ (fun _ => none) 0 148) 1 149) 2 150) 3 149) 5 151) 6 152) 7 153) 8 154) 9 155) 10 156) 11 157) 12 158)) 159 (fun _ => none)) 147 (kr_ (kr_ (kr_ (kr_ (kr_ (kr_ (kr_ (kr_ (kr_ (kr_ (kr_ (kr_ (kr_ (fun _ => none) 0 148) 1 149) 2 150) 3 149) 5 151) 6 152) 7 153) 8 154) 9 155) 10 156) 11 157) 12 158) 13 159)) 160 (fun _ => none)) 147 (kr_ (kr_ (kr_ (kr_ (kr_ (kr_ (kr_ (kr_ (kr_ (kr_ (kr_ (kr_ (kr_ (kr_ (fun _ => none) 0 148) 1 149) 2 150) 3 149) 5 151) 6 152) 7 153) 8 154) 9 155) 10 156) 11 157) 12 158) 13 159) 14 160)) 161 (fun _ => none)) 147 (kr_ (kr_ (kr_ (kr_ (kr_ (kr_ (kr_ (kr_ (kr_ (kr_ (kr_ (kr_ (kr_ (kr_ (kr_ (fun _ => none) 0 148) 1 149) 2 150) 3 149) 5 151) 6 152) 7 153) 8 154) 9 155) 10 156) 11 157) 12 158) 13 159) 14 160) 15 161)) 162 (fun _ => none)) 147 (kr_ (kr_ (kr_ (kr_ (kr_ (kr_ (kr_ (kr_ (kr_ (kr_ (kr_ (kr_ (kr_ (kr_ (kr_ (kr_ (fun _ => none) 0 148) 1 149) 2 150) 3 149) 5 151) 6 152) 7 153) 8 154) 9 155) 10 156) 11 157) 12 158) 13 159) 14 160) 15 161) 27 162)) 163 (fun _ => none)) 147 (kr_ (kr_ (kr_ (kr_ (kr_ (kr_ (kr_ (kr_ (kr_ (kr_ (kr_ (kr_ (kr_ (kr_ (kr_ (kr_ (kr_ (fun _ => none) 0 148) 1 149) 2 150) 3 149) 5 151) 6 152) 7 153) 8 154) 9 155) 10 156) 11 157) 12 158) 13 159) 14 160) 15 161) 27 162) 28 163)) 164 (fun _ => none)) 147 (kr_ (kr_ (kr_ (kr_ (kr_ (kr_ (kr_ (kr_ (kr_ (kr_ (kr_ (kr_ (kr_ (kr_ (kr_ (kr_ (kr_ (kr_ (fun _ => none) 0 148) 1 149) 2 150) 3 149) 5 151) 6 152) 7 153) 8 154) 9 155) 10 156) 11 157) 12 158) 13 159) 14 160) 15 161) 27 162) 28 163) 29 164)) 165 (fun _ => none)) 147 (kr_ (kr_ (kr_ (kr_ (kr_ (kr_ (kr_ (kr_ (kr_ (kr_ (kr_ (kr_ (kr_ (kr_ (kr_ (kr_ (kr_ (kr_ (kr_ (fun _ => none) 0 148) 1 149) 2 150) 3 149) 5 151) 6 152) 7 153) 8 154) 9 155) 10 156) 11 157) 12 158) 13 159) 14 160) 15 161) 27 162) 28 163) 29 164) 30 165)) 166 (fun _ => none)) 147 (kr_ (kr_ (kr_ (kr_ (kr_ (kr_ (kr_ (kr_ (kr_ (kr_ (kr_ (kr_ (kr_ (kr_ (kr_ (kr_ (kr_ (kr_ (kr_ (kr_ (fun _ => none) 0 148) 1 149) 2 150) 3 149) 5 151) 6 152) 7 153) 8 154) 9 155) 10 156) 11 157) 12 158) 13 159) 14 160) 15 161) 27 162) 28 163) 29 164) 30 165) 31 166)) 167 (fun _ => none)) 147 (kr_ (kr_ (kr_ (kr_ (kr_ (kr_ (kr_ (kr_ (kr_ (kr_ (kr_ (kr_ (kr_ (kr_ (kr_ (kr_ (kr_ (kr_ (kr_ (kr_ (kr_ (fun _ => none) 0 148) 1 149) 2 150) 3 149) 5 151) 6 152) 7 153) 8 154) 9 155) 10 156) 11 157) 12 158) 13 159) 14 160) 15 161) 27 162) 28 163) 29 164) 30 165) 31 166) 32 167)) 168 (fun _ => none)) 147 (kr_ (kr_ (kr_ (kr_ (kr_ (kr_ (kr_ (kr_ (kr_ (kr_ (kr_ (kr_ (kr_ (kr_ (kr_ (kr_ (kr_ (kr_ (kr_ (kr_ (kr_ (kr_ (fun _ => none) 0 148) 1 149) 2 150) 3 149) 5 151) 6 152) 7 153) 8 154) 9 155) 10 156) 11 157) 12 158) 13 159) 14 160) 15 161) 27 162) 28 163) 29 164) 30 165) 31 166) 32 167) 38 168)) 169 (fun _ => none)) 147 (kr_ (kr_ (kr_ (kr_ (kr_ (kr_ (kr_ (kr_ (kr_ (kr_ (kr_ (kr_ (kr_ (kr_ (kr_ (kr_ (kr_ (kr_ (kr_ (kr_ (kr_ (kr_ (kr_ (fun _ => none) 0 148) 1 149) 2 150) 3 149) 5 151) 6 152) 7 153) 8 154) 9 155) 10 156) 11 157) 12 158) 13 159) 14 160) 15 161) 27 162) 28 163) 29 164) 30 165) 31 166) 32 167) 38 168) 39 169)) 170 (fun _ => none)) 147 (kr_ (kr_ (kr_ (kr_ (kr_ (kr_ (kr_ (kr_ (kr_ (kr_ (kr_ (kr_ (kr_ (kr_ (kr_ (kr_ (kr_ (kr_ (kr_ (kr_ (kr_ (kr_ (kr_ (kr_ (fun _ => none) 0 148) 1 149) 2 150) 3 149) 5 151) 6 152) 7 153) 8 154) 9 155) 10 156) 11 157) 12 158) 13 159) 14 160) 15 161) 27 162) 28 163) 29 164) 30 165) 31 166) 32 167) 38 168) 39 169) 40 170)) 171 (fun _ => none)) 147 (kr_ (kr_ (kr_ (kr_ (kr_ (kr_ (kr_ (kr_ (kr_ (kr_ (kr_ (kr_ (kr_ (kr_ (kr_ (kr_ (kr_ (kr_ (kr_ (kr_ (kr_ (kr_ (kr_ (kr_ (kr_ (fun _ => none) 0 148) 1 149) 2 150) 3 149) 5 151) 6 152) 7 153) 8 154) 9 155) 10 156) 11 157) 12 158) 13 159) 14 160) 15 161) 27 162) 28 163) 29 164) 30 165) 31 166) 32 167) 38 168) 39 169) 40 170) 41 171)) 172 (fun _ => none)) 147 (kr_ (kr_ (kr_ (kr_ (kr_ (kr_ (kr_ (kr_ (kr_ (kr_ (kr_ (kr_ (kr_ (kr_ (kr_ (kr_ (kr_ (kr_ (kr_ (kr_ (kr_ (kr_ (kr_ (kr_ (kr_ (kr_ (fun _ => none) 0 148) 1 149) 2 150) 3 149) 5 151) 6 152) 7 153) 8 154) 9 155) 10 156) 11 157) 12 158) 13 159) 14 160) 15 161) 27 162) 28 163) 29 164) 30 165) 31 166) 32 167) 38 168) 39 169) 40 170) 41 171) 42 172)) 173 (fun _ => none)) 147 (kr_ (kr_ (kr_ (kr_ (kr_ (kr_ (kr_ (kr_ (kr_ (kr_ (kr_ (kr_ (kr_ (kr_ (kr_ (kr_ (kr_ (kr_ (kr_ (kr_ (kr_ (kr_ (kr_ (kr_ (kr_ (kr_ (kr_ (fun _ => none) 0 148) 1 149) 2 150) 3 149) 5 151) 6 152) 7 153) 8 154) 9 155) 10 156) 11 157) 12 158) 13 159) 14 160) 15 161) 27 162) 28 163) 29 164) 30 165) 31 166) 32 167) 38 168) 39 169) 40 170) 41 171) 42 172) 43 173)) 174 (fun _ => none)) 147 (kr_ (kr_ (kr_ (kr_ (kr_ (kr_ (kr_ (kr_ (kr_ (kr_ (kr_ (kr_ (kr_ (kr_ (kr_ (kr_ (kr_ (kr_ (kr_ (kr_ (kr_ (kr_ (kr_ (kr_ (kr_ (kr_ (kr_ (kr_ (fun _ => none) 0 148) 1 149) 2 150) 3 149) 5 151) 6 152) 7 153) 8 154) 9 155) 10 156) 11 157) 12 158) 13 159) 14 160) 15 161) 27 162) 28 163) 29 164) 30 165) 31 166) 32 167) 38 168) 39 169) 40 170) 41 171) 42 172) 43 173) 44 174)) 175 (fun _ => none)) 147 (kr_ (kr_ (kr_ (kr_ (kr_ (kr_ (kr_ (kr_ (kr_ (kr_ (kr_ (kr_ (kr_ (kr_ (kr_ (kr_ (kr_ (kr_ (kr_ (kr_ (kr_ (kr_ (kr_ (kr_ (kr_ (kr_ (kr_ (kr_ (kr_ (fun _ => none) 0 148) 1 149) 2 150) 3 149) 5 151) 6 152) 7 153) 8 154) 9 155) 10 156) 11 157) 12 158) 13 159) 14 160) 15 161) 27 162) 28 163) 29 164) 30 165) 31 166) 32 167) 38 168) 39 169) 40 170) 41 171) 42 172) 43 173) 44 174) 45 175)) 176 (fun _ => none)) 147 (kr_ (kr_ (kr_ (kr_ (kr_ (kr_ (kr_ (kr_ (kr_ (kr_ (kr_ (kr_ (kr_ (kr_ (kr_ (kr_ (kr_ (kr_ (kr_ (kr_ (kr_ (kr_ (kr_ (kr_ (kr_ (kr_ (kr_ (kr_ (kr_ (kr_ (fun _ => none) 0 148) 1 149) 2 150) 3 149) 5 151) 6 152) 7 153) 8 154) 9 155) 10 156) 11 157) 12 158) 13 159) 14 160) 15 161) 27 162) 28 163) 29 164) 30 165) 31 166) 32 167) 38 168) 39 169) 40 170) 41 171) 42 172) 43 173) 44 174) 45 175) 46 176)) 177 (fun _ => none)) 147 (kr_ (kr_ (kr_ (kr_ (kr_ (kr_ (kr_ (kr_ (kr_ (kr_ (kr_ (kr_ (kr_ (kr_ (kr_ (kr_ (kr_ (kr_ (kr_ (kr_ (kr_ (kr_ (kr_ (kr_ (kr_ (kr_ (kr_ (kr_ (kr_ (kr_ (kr_ (fun _ => none) 0 148) 1 149) 2 150) 3 149) 5 151) 6 152) 7 153) 8 154) 9 155) 10 156) 11 157) 12 158) 13 159) 14 160) 15 161) 27 162) 28 163) 29 164) 30 165) 31 166) 32 167) 38 168) 39 169) 40 170) 41 171) 42 172) 43 173) 44 174) 45 175) 46 176) 47 177)) 178 (fun _ => none)) 147 (kr_ (kr_ (kr_ (kr_ (kr_ (kr_ (kr_ (kr_ (kr_ (kr_ (kr_ (kr_ (kr_ (kr_ (kr_ (kr_ (kr_ (kr_ (kr_ (kr_ (kr_ (kr_ (kr_ (kr_ (kr_ (kr_ (kr_ (kr_ (kr_ (kr_ (kr_ (kr_ (fun _ => none) 0 148) 1 149) 2 150) 3 149) 5 151) 6 152) 7 153) 8 154) 9 155) 10 156) 11 157) 12 158) 13 159) 14 160) 15 161) 27 162) 28 163) 29 164) 30 165) 31 166) 32 167) 38 168) 39 169) 40 170) 41 171) 42 172) 43 173) 44 174) 45 175) 46 176) 47 177) 49 178)) 179 (fun _ => none)) 147 (kr_ (kr_ (kr_ (kr_ (kr_ (kr_ (kr_ (kr_ (kr_ (kr_ (kr_ (kr_ (kr_ (kr_ (kr_ (kr_ (kr_ (kr_ (kr_ (kr_ (kr_ (kr_ (kr_ (kr_ (kr_ (kr_ (kr_ (kr_ (kr_ (kr_ (kr_ (kr_ (kr_ (fun _ => none) 0 148) 1 149) 2 150) 3 149) 5 151) 6 152) 7 153) 8 154) 9 155) 10 156) 11 157) 12 158) 13 159) 14 160) 15 161) 27 162) 28 163) 29 164) 30 165) 31 166) 32 167) 38 168) 39 169) 40 170) 41 171) 42 172) 43 173) 44 174) 45 175) 46 176) 47 177) 49 178) 54 179)) 180 (fun _ => none)) 147 (kr_ (kr_ (kr_ (kr_ (kr_ (kr_ (kr_ (kr_ (kr_ (kr_ (kr_ (kr_ (kr_ (kr_ (kr_ (kr_ (kr_ (kr_ (kr_ (kr_ (kr_ (kr_ (kr_ (kr_ (kr_ (kr_ (kr_ (kr_ (kr_ (kr_ (kr_ (kr_ (kr_ (kr_ (fun _ => none) 0 148) 1 149) 2 150) 3 149) 5 151) 6 152) 7 153) 8 154) 9 155) 10 156) 11 157) 12 158) 13 159) 14 160) 15 161) 27 162) 28 163) 29 164) 30 165) 31 166) 32 167) 38 168) 39 169) 40 170) 41 171) 42 172) 43 173) 44 174) 45 175) 46 176) 47 177) 49 178) 54 179) 55 180)) 181 (fun _ => none)) 147 (kr_ (kr_ (kr_ (kr_ (kr_ (kr_ (kr_ (kr_ (kr_ (kr_ (kr_ (kr_ (kr_ (kr_ (kr_ (kr_ (kr_ (kr_ (kr_ (kr_ (kr_ (kr_ (kr_ (kr_ (kr_ (kr_ (kr_ (kr_ (kr_ (kr_ (kr_ (kr_ (kr_ (kr_ (kr_ (fun _ => none) 0 148) 1 149) 2 150) 3 149) 5 151) 6 152) 7 153) 8 154) 9 155) 10 156) 11 157) 12 158) 13 159) 14 160) 15 161) 27 162) 28 163) 29 164) 30 165) 31 166) 32 167) 38 168) 39 169) 40 170) 41 171) 42 172) 43 173) 44 174) 45 175) 46 176) 47 177) 49 178) 54 179) 55 180) 56 181)) 182 (fun _ => none)) 147 (kr_ (kr_ (kr_ (kr_ (kr_ (kr_ (kr_ (kr_ (kr_ (kr_ (kr_ (kr_ (kr_ (kr_ (kr_ (kr_ (kr_ (kr_ (kr_ (kr_ (kr_ (kr_ (kr_ (kr_ (kr_ (kr_ (kr_ (kr_ (kr_ (kr_ (kr_ (kr_ (kr_ (kr_ (kr_ (kr_ (fun _ => none) 0 148) 1 149) 2 150) 3 149) 5 151) 6 152) 7 153) 8 154) 9 155) 10 156) 11 157) 12 158) 13 159) 14 160) 15 161) 27 162) 28 163) 29 164) 30 165) 31 166) 32 167) 38 168) 39 169) 40 170) 41 171) 42 172) 43 173) 44 174) 45 175) 46 176) 47 177) 49 178) 54 179) 55 180) 56 181) 57 182)) 183 (fun _ => none)) 147 (kr_ (kr_ (kr_ (kr_ (kr_ (kr_ (kr_ (kr_ (kr_ (kr_ (kr_ (kr_ (kr_ (kr_ (kr_ (kr_ (kr_ (kr_ (kr_ (kr_ (kr_ (kr_ (kr_ (kr_ (kr_ (kr_ (kr_ (kr_ (kr_ (kr_ (kr_ (kr_ (kr_ (kr_ (kr_ (kr_ (kr_ (fun _ => none) 0 148) 1 149) 2 150) 3 149) 5 151) 6 152) 7 153) 8 154) 9 155) 10 156) 11 157) 12 158) 13 159) 14 160) 15 161) 27 162) 28 163) 29 164) 30 165) 31 166) 32 167) 38 168) 39 169) 40 170) 41 171) 42 172) 43 173) 44 174) 45 175) 46 176) 47 177) 49 178) 54 179) 55 180) 56 181) 57 182) 58 183)) 184 (fun _ => none)) 147 (kr_ (kr_ (kr_ (kr_ (kr_ (kr_ (kr_ (kr_ (kr_ (kr_ (kr_ (kr_ (kr_ (kr_ (kr_ (kr_ (kr_ (kr_ (kr_ (kr_ (kr_ (kr_ (kr_ (kr_ (kr_ (kr_ (kr_ (kr_ (kr_ (kr_ (kr_ (kr_ (kr_ (kr_ (kr_ (kr_ (kr_ (kr_ (fun _ => none) 0 148) 1 149) 2 150) 3 149) 5 151) 6 152) 7 153) 8 154) 9 155) 10 156) 11 157) 12 158) 13 159) 14 160) 15 161) 27 162) 28 163) 29 164) 30 165) 31 166) 32 167) 38 168) 39 169) 40 170) 41 171) 42 172) 43 173) 44 174) 45 175) 46 176) 47 177) 49 178) 54 179) 55 180) 56 181) 57 182) 58 183) 59 184)) = kR 185 := by
  funext a
  by_cases h1 : a < 147
  · rw [up_ne (by omega), up_ne (by omega), up_ne (by omega), up_ne (by omega), up_ne (by omega), up_ne (by omega), up_ne (by omega), up_ne (by omega), up_ne (by omega), up_ne (by omega), up_ne (by omega), up_ne (by omega), up_ne (by omega), up_ne (by omega), up_ne (by omega), up_ne (by omega), up_ne (by omega), up_ne (by omega), up_ne (by omega), up_ne (by omega), up_ne (by omega), up_ne (by omega), up_ne (by omega), up_ne (by omega), up_ne (by omega), up_ne (by omega), up_ne (by omega), up_ne (by omega), up_ne (by omega), up_ne (by omega), up_ne (by omega), up_ne (by omega), up_ne (by omega), up_ne (by omega), up_ne (by omega), up_ne (by omega), up_ne (by omega), up_ne (by omega), up_ne (by omega), up_ne (by omega), up_ne (by omega), up_ne (by omega), up_ne (by omega), up_ne (by omega), up_ne (by omega), up_ne (by omega), up_ne (by omega), up_ne (by omega), up_ne (by omega), up_ne (by omega), up_ne (by omega), up_ne (by omega), up_ne (by omega), up_ne (by omega), up_ne (by omega), up_ne (by omega), up_ne (by omega), up_ne (by omega), up_ne (by omega), up_ne (by omega), up_ne (by omega), up_ne (by omega), up_ne (by omega), up_ne (by omega), up_ne (by omega), up_ne (by omega), up_ne (by omega), up_ne (by omega), up_ne (by omega), up_ne (by omega), up_ne (by omega), up_ne (by omega), up_ne (by omega), up_ne (by omega), up_ne (by omega), up_ne (by omega), up_ne (by omega), up_ne (by omega), up_ne (by omega), up_ne (by omega), up_ne (by omega), up_ne (by omega), up_ne (by omega), up_ne (by omega), up_ne (by omega), up_ne (by omega), up_ne (by omega), up_ne (by omega), up_ne (by omega), up_ne (by omega)]
    unfold kR
    rw [k_blf (by omega : ¬ 147 ≤ a), k_blf (by omega : ¬ 185 ≤ a)]
  · by_cases h2 : a < 185
    · have h3 : a = 147 ∨ a = 148 ∨ a = 149 ∨ a = 150 ∨ a = 151 ∨ a = 152 ∨ a = 153 ∨ a = 154 ∨ a = 155 ∨ a = 156 ∨ a = 157 ∨ a = 158 ∨ a = 159 ∨ a = 160 ∨ a = 161 ∨ a = 162 ∨ a = 163 ∨ a = 164 ∨ a = 165 ∨ a = 166 ∨ a = 167 ∨ a = 168 ∨ a = 169 ∨ a = 170 ∨ a = 171 ∨ a = 172 ∨ a = 173 ∨ a = 174 ∨ a = 175 ∨ a = 176 ∨ a = 177 ∨ a = 178 ∨ a = 179 ∨ a = 180 ∨ a = 181 ∨ a = 182 ∨ a = 183 ∨ a = 184 := by omega
      rcases h3 with rfl | rfl | rfl | rfl | rfl | rfl | rfl | rfl | rfl | rfl | rfl | rfl | rfl | rfl | rfl | rfl | rfl | rfl | rfl | rfl | rfl | rfl | rfl | rfl | rfl | rfl | rfl | rfl | rfl | rfl | rfl | rfl | rfl | rfl | rfl | rfl | rfl | rfl
      · exact kq_147
      · exact kq_148
      · exact kq_149
      · exact kq_150
      · exact kq_151
      · exact kq_152
      · exact kq_153
      · exact kq_154
      · exact kq_155
      · exact kq_156
      · exact kq_157
      · exact kq_158
      · exact kq_159
      · exact kq_160
      · exact kq_161
      · exact kq_162
      · exact kq_163
      · exact kq_164
      · exact kq_165
      · exact kq_166
      · exact kq_167
      · exact kq_168
      · exact kq_169
      · exact kq_170
      · exact kq_171
      · exact kq_172
      · exact kq_173
      · exact kq_174
      · exact kq_175
      · exact kq_176
      · exact kq_177
      · exact kq_178
      · exact kq_179
      · exact kq_180
      · exact kq_181
      · exact kq_182
      · exact kq_183
      · exact kq_184
    · rw [up_ne (by omega), up_ne (by omega), up_ne (by omega), up_ne (by omega), up_ne (by omega), up_ne (by omega), up_ne (by omega), up_ne (by omega), up_ne (by omega), up_ne (by omega), up_ne (by omega), up_ne (by omega), up_ne (by omega), up_ne (by omega), up_ne (by omega), up_ne (by omega), up_ne (by omega), up_ne (by omega), up_ne (by omega), up_ne (by omega), up_ne (by omega), up_ne (by omega), up_ne (by omega), up_ne (by omega), up_ne (by omega), up_ne (by omega), up_ne (by omega), up_ne (by omega), up_ne (by omega), up_ne (by omega), up_ne (by omega), up_ne (by omega), up_ne (by omega), up_ne (by omega), up_ne (by omega), up_ne (by omega), up_ne (by omega), up_ne (by omega), up_ne (by omega), up_ne (by omega), up_ne (by omega), up_ne (by omega), up_ne (by omega), up_ne (by omega), up_ne (by omega), up_ne (by omega), up_ne (by omega), up_ne (by omega), up_ne (by omega), up_ne (by omega), up_ne (by omega), up_ne (by omega), up_ne (by omega), up_ne (by omega), up_ne (by omega), up_ne (by omega), up_ne (by omega), up_ne (by omega), up_ne (by omega), up_ne (by omega), up_ne (by omega), up_ne (by omega), up_ne (by omega), up_ne (by omega), up_ne (by omega), up_ne (by omega), up_ne (by omega), up_ne (by omega), up_ne (by omega), up_ne (by omega), up_ne (by omega), up_ne (by omega), up_ne (by omega), up_ne (by omega), up_ne (by omega), up_ne (by omega), up_ne (by omega), up_ne (by omega), up_ne (by omega), up_ne (by omega), up_ne (by omega), up_ne (by omega), up_ne (by omega), up_ne (by omega), up_ne (by omega), up_ne (by omega), up_ne (by omega), up_ne (by omega), up_ne (by omega), up_ne (by omega)]
      unfold kR
      rw [k_ble (by omega : 147 ≤ a), k_ble (by omega : 185 ≤ a)]
set_option maxRecDepth 100000 in
theorem kS_3 (N : Nat) : (am_up (kS 185 N) 185 (103, 1)) = am_SH N := by
  funext a
  by_cases h1 : a < 185
  · rw [up_ne (by omega)]
    unfold kS
    rw [k_blf (by omega : ¬ 185 ≤ a)]
    rfl
  · by_cases h2 : a < 186
    · have h3 : a = 185 := by omega
      rcases h3 with rfl
      · exact rfl
    · rw [up_ne (by omega)]
      unfold kS
      rw [k_ble (by omega : 185 ≤ a)]
      unfold am_SH
      rw [k_blf (by omega : ¬ a ≤ 185)]
      rfl
theorem kq_185 : (fun _ => none) = am_RR false false 185 := by
  funext k
  rfl
set_option maxRecDepth 100000 in
theorem kR_3  : (am_up (kR 185) 185 (fun _ => none)) = am_RR false false := by
  funext a
  by_cases h1 : a < 185
  · rw [up_ne (by omega)]
    unfold kR
    rw [k_blf (by omega : ¬ 185 ≤ a)]
    rfl
  · by_cases h2 : a < 186
    · have h3 : a = 185 := by omega
      rcases h3 with rfl
      · exact kq_185
    · rw [up_ne (by omega)]
      unfold kR
      rw [k_ble (by omega : 185 ≤ a)]
      funext k
      unfold am_RR
      rw [k_blf (by omega : ¬ a ≤ 44), k_blf (by omega : ¬ a ≤ 75), k_blf (by omega : ¬ a ≤ 121), k_blf (by omega : ¬ a ≤ 139), k_blf (by omega : ¬ a ≤ 148), k_blf (by omega : ¬ a ≤ 149), beq_f (by omega : a ≠ 150)]
      rfl
set_option maxRecDepth 100000 in
theorem kl_0 (z N : Nat) (I : Nat → Nat → Int32) (L : Nat → Nat → Int64) : am_R 300 105 0 [.ref 0, am_u, am_u, am_u, am_u, am_u, am_u] [] ((75, 0, z), (kS 75 N), I, L, (kR 75)) = am_bd (am_R 0 3 0 [.ref 75] [] ((76, 0, z + 13), (am_up (kS 75 N) 75 (10, 0)), (am_up I 75 (fun _ => 0)), (am_up L 75 (fun _ => 0)), (am_up (kR 75) 75 (fun _ => none)))) (fun v h => am_R 300 105 7 [.ref 0, am_u, am_u, am_u, am_u, am_u, am_u] (v.toList ++ [.ref 75]) h) (fun _ _ => none) := by
  exact am_go_eq 75 am_pr (fun p => Nat.beq p 7) 4 300 _ 0 _ _ _
set_option maxRecDepth 100000 in
theorem kl_7 (z N : Nat) (I : Nat → Nat → Int32) (L : Nat → Nat → Int64) : am_R 300 105 7 [.ref 0, am_u, am_u, am_u, am_u, am_u, am_u] [.ref 75] ((147, 0, z), (kS 147 N), I, L, (kR 147)) = am_bd (am_R 140 1 0 [.ref 147] [] ((148, 0, z + 60), (am_up (kS 147 N) 147 (11, 0)), (am_up I 147 (fun _ => 0)), (am_up L 147 (fun _ => 0)), (am_up (kR 147) 147 (fun _ => none)))) (fun v h => am_R 300 105 15 [.ref 0, .ref 75, am_u, am_u, am_u, am_u, am_u] (v.toList ++ [.ref 147]) h) (fun _ _ => none) := by
  exact am_go_eq 75 am_pr (fun p => Nat.beq p 15) 5 300 _ 7 _ _ _
set_option maxRecDepth 100000 in
theorem kl_15 (z N : Nat) (I : Nat → Nat → Int32) (L : Nat → Nat → Int64) : am_R 300 105 15 [.ref 0, .ref 75, am_u, am_u, am_u, am_u, am_u] [.ref 147] ((185, 0, z), (kS 185 N), I, L, (kR 185)) = am_R 300 105 23 [.ref 0, .ref 75, .ref 147, .ref 185, .int 0, am_u, am_u] [] ((186, 0, z + 1), (am_up (kS 185 N) 185 (103, 1)), (am_up I 185 (fun _ => 0)), (am_up L 185 (fun _ => 0)), (am_up (kR 185) 185 (fun _ => none))) := by
  exact am_go_eq 75 am_pr (fun p => Nat.beq p 23) 7 300 _ 15 _ _ _
def kI (I : Nat → Nat → Int32) : Nat → Nat → Int32 := (am_up (am_up (am_up (am_up (am_up (am_up (am_up (am_up (am_up (am_up (am_up (am_up (am_up (am_up (am_up (am_up (am_up (am_up (am_up (am_up (am_up (am_up (am_up (am_up (am_up (am_up (am_up (am_up (am_up (am_up (am_up (am_up (am_up (am_up (am_up (am_up (am_up (am_up (am_up (am_up (am_up (am_up (am_up (am_up (am_up (am_up (am_up (am_up (am_up (am_up (am_up (am_up (am_up (am_up (am_up (am_up (am_up (am_up (am_up (am_up (am_up (am_up (am_up (am_up (am_up (am_up (am_up (am_up (am_up (am_up (am_up (am_up (am_up (am_up (am_up (am_up (am_up (am_up (am_up (am_up (am_up (am_up (am_up (am_up (am_up (am_up (am_up (am_up (am_up (am_up (am_up (am_up (am_up (am_up (am_up (am_up (am_up (am_up (am_up (am_up (am_up (am_up (am_up (am_up (am_up (am_up (am_up (am_up (am_up (am_up (am_up (am_up (am_up (am_up (am_up (am_up (am_up (am_up (am_up (am_up (am_up (am_up (am_up (am_up (am_up (am_up (am_up (am_up (am_up (am_up (am_up (am_up (am_up (am_up (am_up (am_up (am_up (am_up (am_up (am_up (am_up (am_up (am_up (am_up (am_up (am_up (am_up (am_up (am_up (am_up (am_up (am_up (am_up (am_up (am_up (am_up (am_up (am_up (am_up (am_up (am_up (am_up (am_up I 75 (fun _ => 0)) 76 (fun _ => 0)) 77 (fun _ => 0)) 78 (fun _ => 0)) 77 (upd (fun _ => 0) 1 0)) 77 (upd (upd (fun _ => 0) 1 0) 2 0)) 77 (upd (upd (upd (fun _ => 0) 1 0) 2 0) 3 0)) 77 (upd (upd (upd (upd (fun _ => 0) 1 0) 2 0) 3 0) 4 0)) 77 (upd (upd (upd (upd (upd (fun _ => 0) 1 0) 2 0) 3 0) 4 0) 5 0)) 77 (upd (upd (upd (upd (upd (upd (fun _ => 0) 1 0) 2 0) 3 0) 4 0) 5 0) 6 0)) 76 (upd (fun _ => 0) 1 0)) 76 (upd (upd (fun _ => 0) 1 0) 2 (-1))) 75 (upd (fun _ => 0) 1 (-1))) 79 (fun _ => 0)) 79 (upd (fun _ => 0) 0 0)) 79 (upd (upd (fun _ => 0) 0 0) 1 0)) 80 (fun _ => 0)) 81 (fun _ => 0)) 82 (fun _ => 0)) 83 (fun _ => 0)) 79 (upd (upd (upd (fun _ => 0) 0 0) 1 0) 6 0)) 84 (fun _ => 0)) 85 (fun _ => 0)) 85 (upd (fun _ => 0) 1 0)) 85 (upd (upd (fun _ => 0) 1 0) 2 0)) 85 (upd (upd (upd (fun _ => 0) 1 0) 2 0) 3 0)) 85 (upd (upd (upd (upd (fun _ => 0) 1 0) 2 0) 3 0) 0 5)) 86 (fun _ => 0)) 86 (upd (fun _ => 0) 1 0)) 86 (upd (upd (fun _ => 0) 1 0) 2 0)) 86 (upd (upd (upd (fun _ => 0) 1 0) 2 0) 3 0)) 86 (upd (upd (upd (upd (fun _ => 0) 1 0) 2 0) 3 0) 0 7)) 87 (fun _ => 0)) 79 (upd (upd (upd (upd (fun _ => 0) 0 0) 1 0) 6 0) 11 0)) 88 (fun _ => 0)) 89 (fun _ => 0)) 89 (upd (fun _ => 0) 0 0)) 89 (upd (upd (fun _ => 0) 0 0) 1 0)) 90 (fun _ => 0)) 91 (fun _ => 0)) 92 (fun _ => 0)) 93 (fun _ => 0)) 89 (upd (upd (upd (fun _ => 0) 0 0) 1 0) 6 0)) 94 (fun _ => 0)) 95 (fun _ => 0)) 95 (upd (fun _ => 0) 1 0)) 95 (upd (upd (fun _ => 0) 1 0) 2 0)) 95 (upd (upd (upd (fun _ => 0) 1 0) 2 0) 3 0)) 95 (upd (upd (upd (upd (fun _ => 0) 1 0) 2 0) 3 0) 0 5)) 96 (fun _ => 0)) 96 (upd (fun _ => 0) 1 0)) 96 (upd (upd (fun _ => 0) 1 0) 2 0)) 96 (upd (upd (upd (fun _ => 0) 1 0) 2 0) 3 0)) 96 (upd (upd (upd (upd (fun _ => 0) 1 0) 2 0) 3 0) 0 7)) 97 (fun _ => 0)) 89 (upd (upd (upd (upd (fun _ => 0) 0 0) 1 0) 6 0) 11 0)) 98 (fun _ => 0)) 99 (fun _ => 0)) 99 (upd (fun _ => 0) 0 0)) 99 (upd (upd (fun _ => 0) 0 0) 1 0)) 99 (upd (upd (upd (fun _ => 0) 0 0) 1 0) 2 0)) 100 (fun _ => 0)) 101 (fun _ => 0)) 102 (fun _ => 0)) 103 (fun _ => 0)) 104 (fun _ => 0)) 105 (fun _ => 0)) 106 (fun _ => 0)) 107 (fun _ => 0)) 108 (fun _ => 0)) 109 (fun _ => 0)) 109 (upd (fun _ => 0) 0 0)) 109 (upd (upd (fun _ => 0) 0 0) 1 0)) 109 (upd (upd (upd (fun _ => 0) 0 0) 1 0) 2 0)) 110 (fun _ => 0)) 111 (fun _ => 0)) 112 (fun _ => 0)) 113 (fun _ => 0)) 114 (fun _ => 0)) 115 (fun _ => 0)) 116 (fun _ => 0)) 117 (fun _ => 0)) 118 (fun _ => 0)) 119 (fun _ => 0)) 120 (fun _ => 0)) 119 (upd (fun _ => 0) 1 0)) 119 (upd (upd (fun _ => 0) 1 0) 2 0)) 121 (fun _ => 0)) 122 (fun _ => 0)) 123 (fun _ => 0)) 124 (fun _ => 0)) 121 (upd (fun _ => 0) 3 0)) 125 (fun _ => 0)) 126 (fun _ => 0)) 126 (upd (fun _ => 0) 0 0)) 127 (fun _ => 0)) 127 (upd (fun _ => 0) 0 0)) 127 (upd (upd (fun _ => 0) 0 0) 1 0)) 127 (upd (upd (upd (fun _ => 0) 0 0) 1 0) 2 0)) 128 (fun _ => 0)) 129 (fun _ => 0)) 130 (fun _ => 0)) 131 (fun _ => 0)) 132 (fun _ => 0)) 133 (fun _ => 0)) 134 (fun _ => 0)) 135 (fun _ => 0)) 136 (fun _ => 0)) 137 (fun _ => 0)) 138 (fun _ => 0)) 137 (upd (fun _ => 0) 1 0)) 137 (upd (upd (fun _ => 0) 1 0) 2 0)) 139 (fun _ => 0)) 140 (fun _ => 0)) 141 (fun _ => 0)) 142 (fun _ => 0)) 139 (upd (fun _ => 0) 3 0)) 143 (fun _ => 0)) 144 (fun _ => 0)) 144 (upd (fun _ => 0) 0 0)) 145 (fun _ => 0)) 146 (fun _ => 0)) 147 (fun _ => 0)) 148 (fun _ => 0)) 149 (fun _ => 0)) 150 (fun _ => 0)) 151 (fun _ => 0)) 152 (fun _ => 0)) 153 (fun _ => 0)) 154 (fun _ => 0)) 155 (fun _ => 0)) 156 (fun _ => 0)) 157 (fun _ => 0)) 158 (fun _ => 0)) 159 (fun _ => 0)) 160 (fun _ => 0)) 161 (fun _ => 0)) 147 (upd (fun _ => 0) 25 (-1))) 162 (fun _ => 0)) 163 (fun _ => 0)) 164 (fun _ => 0)) 165 (fun _ => 0)) 166 (fun _ => 0)) 167 (fun _ => 0)) 147 (upd (upd (fun _ => 0) 25 (-1)) 37 (-1))) 168 (fun _ => 0)) 169 (fun _ => 0)) 170 (fun _ => 0)) 171 (fun _ => 0)) 172 (fun _ => 0)) 173 (fun _ => 0)) 174 (fun _ => 0)) 175 (fun _ => 0)) 176 (fun _ => 0)) 177 (fun _ => 0)) 178 (fun _ => 0)) 179 (fun _ => 0)) 180 (fun _ => 0)) 181 (fun _ => 0)) 182 (fun _ => 0)) 183 (fun _ => 0)) 184 (fun _ => 0)) 185 (fun _ => 0))
def kL (L : Nat → Nat → Int64) : Nat → Nat → Int64 := (am_up (am_up (am_up (am_up (am_up (am_up (am_up (am_up (am_up (am_up (am_up (am_up (am_up (am_up (am_up (am_up (am_up (am_up (am_up (am_up (am_up (am_up (am_up (am_up (am_up (am_up (am_up (am_up (am_up (am_up (am_up (am_up (am_up (am_up (am_up (am_up (am_up (am_up (am_up (am_up (am_up (am_up (am_up (am_up (am_up (am_up (am_up (am_up (am_up (am_up (am_up (am_up (am_up (am_up (am_up (am_up (am_up (am_up (am_up (am_up (am_up (am_up (am_up (am_up (am_up (am_up (am_up (am_up (am_up (am_up (am_up (am_up (am_up (am_up (am_up (am_up (am_up (am_up (am_up (am_up (am_up (am_up (am_up (am_up (am_up (am_up (am_up (am_up (am_up (am_up (am_up (am_up (am_up (am_up (am_up (am_up (am_up (am_up (am_up (am_up (am_up (am_up (am_up (am_up (am_up (am_up (am_up (am_up (am_up (am_up (am_up L 75 (fun _ => 0)) 76 (fun _ => 0)) 77 (fun _ => 0)) 78 (fun _ => 0)) 79 (fun _ => 0)) 80 (fun _ => 0)) 81 (fun _ => 0)) 82 (fun _ => 0)) 83 (fun _ => 0)) 84 (fun _ => 0)) 85 (fun _ => 0)) 86 (fun _ => 0)) 87 (fun _ => 0)) 88 (fun _ => 0)) 89 (fun _ => 0)) 90 (fun _ => 0)) 91 (fun _ => 0)) 92 (fun _ => 0)) 93 (fun _ => 0)) 94 (fun _ => 0)) 95 (fun _ => 0)) 96 (fun _ => 0)) 97 (fun _ => 0)) 98 (fun _ => 0)) 99 (fun _ => 0)) 100 (fun _ => 0)) 101 (fun _ => 0)) 102 (fun _ => 0)) 103 (fun _ => 0)) 104 (fun _ => 0)) 105 (fun _ => 0)) 106 (fun _ => 0)) 107 (fun _ => 0)) 108 (fun _ => 0)) 109 (fun _ => 0)) 110 (fun _ => 0)) 111 (fun _ => 0)) 112 (fun _ => 0)) 113 (fun _ => 0)) 114 (fun _ => 0)) 115 (fun _ => 0)) 116 (fun _ => 0)) 117 (fun _ => 0)) 118 (fun _ => 0)) 119 (fun _ => 0)) 120 (fun _ => 0)) 121 (fun _ => 0)) 122 (fun _ => 0)) 123 (fun _ => 0)) 124 (fun _ => 0)) 125 (fun _ => 0)) 126 (fun _ => 0)) 127 (fun _ => 0)) 128 (fun _ => 0)) 129 (fun _ => 0)) 130 (fun _ => 0)) 131 (fun _ => 0)) 132 (fun _ => 0)) 133 (fun _ => 0)) 134 (fun _ => 0)) 135 (fun _ => 0)) 136 (fun _ => 0)) 137 (fun _ => 0)) 138 (fun _ => 0)) 139 (fun _ => 0)) 140 (fun _ => 0)) 141 (fun _ => 0)) 142 (fun _ => 0)) 143 (fun _ => 0)) 144 (fun _ => 0)) 145 (fun _ => 0)) 146 (fun _ => 0)) 147 (fun _ => 0)) 148 (fun _ => 0)) 149 (fun _ => 0)) 150 (fun _ => 0)) 151 (fun _ => 0)) 152 (fun _ => 0)) 153 (fun _ => 0)) 154 (fun _ => 0)) 155 (fun _ => 0)) 156 (fun _ => 0)) 157 (fun _ => 0)) 158 (fun _ => 0)) 159 (fun _ => 0)) 160 (fun _ => 0)) 161 (fun _ => 0)) 162 (fun _ => 0)) 163 (fun _ => 0)) 164 (fun _ => 0)) 165 (fun _ => 0)) 166 (fun _ => 0)) 167 (fun _ => 0)) 168 (fun _ => 0)) 169 (fun _ => 0)) 170 (fun _ => 0)) 171 (fun _ => 0)) 172 (fun _ => 0)) 173 (fun _ => 0)) 174 (fun _ => 0)) 175 (fun _ => 0)) 176 (fun _ => 0)) 177 (fun _ => 0)) 178 (fun _ => 0)) 179 (fun _ => 0)) 180 (fun _ => 0)) 181 (fun _ => 0)) 182 (fun _ => 0)) 183 (fun _ => 0)) 184 (fun _ => 0)) 185 (fun _ => 0))
theorem kl_all (N : Nat) (I : Nat → Nat → Int32) (L : Nat → Nat → Int64) : am_R 300 105 0 [.ref 0, am_u, am_u, am_u, am_u, am_u, am_u] [] ((75, 0, 0), (kS 75 N), I, L, (kR 75)) = am_R 300 105 23 [.ref 0, .ref 75, .ref 147, .ref 185, .int 0, am_u, am_u] [] (am_hp 0 N false false (kI I) (kL L)) := by
  rw [kl_0 _ _ _ _, k_AlmondCabinet_75 _ _ _ _ _, am_bd_ok, am_tn, kS_1, kR_1, kl_7 _ _ _ _, k_AlmondCabinetModel_147 _ _ _ _ _, am_bd_ok, am_tn, kS_2, kR_2, kl_15 _ _ _ _, kS_3, kR_3]
  rfl
set_option maxRecDepth 100000 in
theorem kI_lo {I : Nat → Nat → Int32} {a : Nat} (h : a < 75) : kI I a = I a := by
  unfold kI
  rw [up_ne (by omega), up_ne (by omega), up_ne (by omega), up_ne (by omega), up_ne (by omega), up_ne (by omega), up_ne (by omega), up_ne (by omega), up_ne (by omega), up_ne (by omega), up_ne (by omega), up_ne (by omega), up_ne (by omega), up_ne (by omega), up_ne (by omega), up_ne (by omega), up_ne (by omega), up_ne (by omega), up_ne (by omega), up_ne (by omega), up_ne (by omega), up_ne (by omega), up_ne (by omega), up_ne (by omega), up_ne (by omega), up_ne (by omega), up_ne (by omega), up_ne (by omega), up_ne (by omega), up_ne (by omega), up_ne (by omega), up_ne (by omega), up_ne (by omega), up_ne (by omega), up_ne (by omega), up_ne (by omega), up_ne (by omega), up_ne (by omega), up_ne (by omega), up_ne (by omega), up_ne (by omega), up_ne (by omega), up_ne (by omega), up_ne (by omega), up_ne (by omega), up_ne (by omega), up_ne (by omega), up_ne (by omega), up_ne (by omega), up_ne (by omega), up_ne (by omega), up_ne (by omega), up_ne (by omega), up_ne (by omega), up_ne (by omega), up_ne (by omega), up_ne (by omega), up_ne (by omega), up_ne (by omega), up_ne (by omega), up_ne (by omega), up_ne (by omega), up_ne (by omega), up_ne (by omega), up_ne (by omega), up_ne (by omega), up_ne (by omega), up_ne (by omega), up_ne (by omega), up_ne (by omega), up_ne (by omega), up_ne (by omega), up_ne (by omega), up_ne (by omega), up_ne (by omega), up_ne (by omega), up_ne (by omega), up_ne (by omega), up_ne (by omega), up_ne (by omega), up_ne (by omega), up_ne (by omega), up_ne (by omega), up_ne (by omega), up_ne (by omega), up_ne (by omega), up_ne (by omega), up_ne (by omega), up_ne (by omega), up_ne (by omega), up_ne (by omega), up_ne (by omega), up_ne (by omega), up_ne (by omega), up_ne (by omega), up_ne (by omega), up_ne (by omega), up_ne (by omega), up_ne (by omega), up_ne (by omega), up_ne (by omega), up_ne (by omega), up_ne (by omega), up_ne (by omega), up_ne (by omega), up_ne (by omega), up_ne (by omega), up_ne (by omega), up_ne (by omega), up_ne (by omega), up_ne (by omega), up_ne (by omega), up_ne (by omega), up_ne (by omega), up_ne (by omega), up_ne (by omega), up_ne (by omega), up_ne (by omega), up_ne (by omega), up_ne (by omega), up_ne (by omega), up_ne (by omega), up_ne (by omega), up_ne (by omega), up_ne (by omega), up_ne (by omega), up_ne (by omega), up_ne (by omega), up_ne (by omega), up_ne (by omega), up_ne (by omega), up_ne (by omega), up_ne (by omega), up_ne (by omega), up_ne (by omega), up_ne (by omega), up_ne (by omega), up_ne (by omega), up_ne (by omega), up_ne (by omega), up_ne (by omega), up_ne (by omega), up_ne (by omega), up_ne (by omega), up_ne (by omega), up_ne (by omega), up_ne (by omega), up_ne (by omega), up_ne (by omega), up_ne (by omega), up_ne (by omega), up_ne (by omega), up_ne (by omega), up_ne (by omega), up_ne (by omega), up_ne (by omega), up_ne (by omega), up_ne (by omega), up_ne (by omega), up_ne (by omega), up_ne (by omega), up_ne (by omega), up_ne (by omega)]
