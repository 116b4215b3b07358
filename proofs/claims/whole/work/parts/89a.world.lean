/-! THE WORLD at the law's entry: all of it -/
section WORLD2
variable {s : State} {b N : Nat} {xs : Nat → Int32}
theorem w_sT : ∀ i, i < 15 → am_sT (i + 1) = ((am_sT (i + 1)).1, (am_sT (i + 1)).2.1, (am_sT (i + 1)).2.2.1, .ref (i + 1)) := by
  intro i hi
  have h : i = 0 ∨ i = 1 ∨ i = 2 ∨ i = 3 ∨ i = 4 ∨ i = 5 ∨ i = 6 ∨ i = 7 ∨ i = 8 ∨ i = 9 ∨ i = 10 ∨ i = 11 ∨ i = 12 ∨ i = 13 ∨ i = 14 := by omega
  rcases h with rfl | rfl | rfl | rfl | rfl | rfl | rfl | rfl | rfl | rfl | rfl | rfl | rfl | rfl | rfl <;> rfl
theorem w_sQ : ∀ q ∈ am_sQ, ∃ i, i < 29 ∧ q = 16 + 2 * i := by decide +kernel
theorem w_fld (hts : ∀ w ∈ lw_tbl, w.before #[Value.ref b] s = true) (hs : ∀ c ∈ wL, c.before #[Value.ref b] s = true) {c k : Nat} (hc : c < 13) (hk : k < am_NN c) : ∃ cf kf fi f, s.fieldFound? (am_TT c k).1 (am_TT c k).2.1 (am_TT c k).2.2.1 = some (cf, kf, fi, f) ∧ f.isStatic = false := by
  by_cases h9 : c = 9
  · subst h9
    obtain ⟨i, hi29, ei⟩ := wtx 0 (by decide)
    obtain ⟨u, v, cellS, cellV, u1, -⟩ := w_S hs hi29
    obtain ⟨a, cell, a1, a2, a3, a4, ⟨cf, kf, fi, f, f1, f2, f3⟩, ⟨cf', kf', fi', f', g1, g2, g3⟩⟩ := w_W hs (j := 0) (by decide) (show wEv s b (tmS (am_tx (0 + 1))) = some (.ref u) by rw [ei]; exact u1)
    have hk' : k < 2 := hk
    have hk2 : k = 0 ∨ k = 1 := by omega
    rcases hk2 with rfl | rfl
    · exact ⟨cf, kf, fi, f, f1, f2⟩
    · exact ⟨cf', kf', fi', f', g1, g2⟩
  · by_cases h12 : c = 12
    · subst h12
      obtain ⟨a, v, cell, cellV, a1, a2, ⟨a3, a4, a5, a6, ⟨cf, kf, fi, f, f1, f2, f3⟩, ⟨cf', kf', fi', f', g1, g2, g3⟩⟩, -⟩ := w_S hs (i := 0) (by decide)
      have hk' : k < 2 := hk
      have hk2 : k = 0 ∨ k = 1 := by omega
      rcases hk2 with rfl | rfl
      · exact ⟨cf, kf, fi, f, f1, f2⟩
      · exact ⟨cf', kf', fi', f', g1, g2⟩
    · rcases u_lays hts (am_lay_in c (by omega) h9) hk with h | h
      · obtain ⟨c', k', cf', kf', fi', fd', r1, r2, hi', hst, -⟩ := Cond.lays_spec h
        exact ⟨cf', kf', fi', fd', hi', hst⟩
      · obtain ⟨c', k', cf', kf', fi', fd', r1, r2, hi', hst, -⟩ := Cond.laysFinal_spec h
        exact ⟨cf', kf', fi', fd', hi', hst⟩
theorem w_ap (hts : ∀ w ∈ lw_tbl, w.before #[Value.ref b] s = true) (hs : ∀ c ∈ wL, c.before #[Value.ref b] s = true) {c k k' : Nat} (hc : c < 13) (hk : k < am_NN c) (hk' : k' < am_NN c) (hne : k ≠ k') : wdI s c k ≠ wdI s c k' := by
  by_cases h9 : c = 9
  · subst h9
    obtain ⟨i, hi29, ei⟩ := wtx 0 (by decide)
    obtain ⟨u, v, cellS, cellV, u1, -⟩ := w_S hs hi29
    obtain ⟨a, cell, a1, a2, a3, a4, ⟨cf, kf, fi, f, f1, f2, f3⟩, ⟨cf', kf', fi', f', g1, g2, g3⟩⟩ := w_W hs (j := 0) (by decide) (show wEv s b (tmS (am_tx (0 + 1))) = some (.ref u) by rw [ei]; exact u1)
    have e : f.slot ≠ f'.slot := fun z => by
      rw [z, g3] at f3
      cases f3
    have h1 : k < 2 := hk
    have h2 : k' < 2 := hk'
    have h3 : k = 0 ∧ k' = 1 ∨ k = 1 ∧ k' = 0 := by omega
    rcases h3 with ⟨rfl, rfl⟩ | ⟨rfl, rfl⟩
    · rw [wdI_of (c := 9) (k := 0) f1, wdI_of (c := 9) (k := 1) g1]
      exact e
    · rw [wdI_of (c := 9) (k := 0) f1, wdI_of (c := 9) (k := 1) g1]
      exact e.symm
  · by_cases h12 : c = 12
    · subst h12
      obtain ⟨a, v, cell, cellV, a1, a2, ⟨a3, a4, a5, a6, ⟨cf, kf, fi, f, f1, f2, f3⟩, ⟨cf', kf', fi', f', g1, g2, g3⟩⟩, -⟩ := w_S hs (i := 0) (by decide)
      have e : f.slot ≠ f'.slot := fun z => by
        rw [z, g3] at f3
        cases f3
      have h1 : k < 2 := hk
      have h2 : k' < 2 := hk'
      have h3 : k = 0 ∧ k' = 1 ∨ k = 1 ∧ k' = 0 := by omega
      rcases h3 with ⟨rfl, rfl⟩ | ⟨rfl, rfl⟩
      · rw [wdI_of (c := 12) (k := 0) f1, wdI_of (c := 12) (k := 1) g1]
        exact e
      · rw [wdI_of (c := 12) (k := 0) f1, wdI_of (c := 12) (k := 1) g1]
        exact e.symm
    · obtain ⟨cf, kf, fi, f, f1, f2⟩ := w_fld hts hs hc hk
      obtain ⟨cf', kf', fi', f', g1, g2⟩ := w_fld hts hs hc hk'
      rw [wdI_of f1, wdI_of g1]
      refine u_apart (u_lays hts (am_lay_in c (by omega) h9) hk) (u_lays hts (am_lay_in c (by omega) h9) hk') f1 g1 ?_
      obtain ⟨t, ht⟩ := Option.isSome_iff_exists.mp (wn_2 c hc k hk)
      obtain ⟨t', ht'⟩ := Option.isSome_iff_exists.mp (wn_2 c hc k' hk')
      rw [(State.fieldFound?_type f1 ht).1, (State.fieldFound?_type g1 ht').1]
      exact wn_1 c hc k hk k' hk' hne
theorem w_fv (hs : ∀ c ∈ wL, c.before #[Value.ref b] s = true) : wEv s b (tmW 17) = some (wfv s b) ∧ (wfv s b = .null ∨ ∃ a, wfv s b = .ref a) := by
  have h := hs _ wm_b.2.1
  unfold wfv
  cases hv : wEv s b (tmW 17) with
  | none =>
    have hv' : (tmW 17).eval #[Value.ref b] s none [] s = none := hv
    simp [Cond.before, Cond.holds, Cond.value, hv'] at h
  | some w =>
    have hv' : (tmW 17).eval #[Value.ref b] s none [] s = some w := hv
    refine ⟨rfl, ?_⟩
    simp only [Cond.before, Cond.holds, Cond.value, hv'] at h
    cases w <;> simp_all
theorem w_Wd (hts : ∀ w ∈ lw_tbl, w.before #[Value.ref b] s = true) (hs : ∀ c ∈ wL, c.before #[Value.ref b] s = true) (hX : va_X b N xs s s.heap) : am_Wd s #[Value.ref b] (wad s b) (wfv s b) (wdC s) (wdI s) := by
  refine ⟨hts, fun i h => wad_hi h, fun i hi h74 => ?_, fun c k hc hk => ?_, fun c hc => ?_, fun c k k' hc hk hk' hne => w_ap hts hs hc hk hk' hne, (w_fv hs).2⟩
  · obtain ⟨cell, h1, -⟩ := w_cell hs hX i hi h74
    exact (Array.getElem?_eq_some_iff.mp h1).1
  · obtain ⟨cf, kf, fi, f, f1, f2⟩ := w_fld hts hs hc hk
    exact ⟨cf, kf, fi, f, f1, f2, (wdI_of f1).symm⟩
  · by_cases h12 : c = 12
    · subst h12
      obtain ⟨a, v, cell, cellV, a1, a2, ⟨a3, a4, a5, ⟨k, a6⟩, -⟩, -⟩ := w_S hs (i := 0) (by decide)
      refine ⟨?_, k, ?_, fun h => absurd h (by decide)⟩
      · rw [wdC_of (c := 12) a5]
        exact a5
      · rw [wdC_of (c := 12) a5]
        exact a6
    · obtain ⟨cC, kC, hfc, hk, hkind, -⟩ := Cond.instantiable_spec (hts _ (wt_5 c (by omega)))
      refine ⟨?_, kC, ?_, fun _ => hkind⟩
      · rw [wdC_of hfc]
        exact hfc
      · rw [wdC_of hfc]
        exact hk
theorem w_wd (hs : ∀ c ∈ wL, c.before #[Value.ref b] s = true) : ∀ i, i < 15 → wEv s b (tmW (i + 1)) = some (.ref (wad s b (i + 1))) := by
  have hw : ∀ j, j < 14 → wEv s b (tmW (j + 1)) = some (.ref (wad s b (j + 1))) := fun j hj => by
    obtain ⟨i, hi29, ei⟩ := wtx j hj
    obtain ⟨u, v, cellS, cellV, u1, -⟩ := w_S hs hi29
    obtain ⟨a, cell, a1, -⟩ := w_W hs hj (show wEv s b (tmS (am_tx (j + 1))) = some (.ref u) by rw [ei]; exact u1)
    rw [wad_of (by omega) (by rw [wTm_W (by omega)]; exact a1)]
    exact a1
  intro i hi
  by_cases h : i < 14
  · exact hw i h
  · have : i = 14 := by omega
    subst this
    obtain ⟨t, cell, t1, -⟩ := w_A (f := fun j => .ref (wad s b (j + 1))) (hs _ wm_9.1) (hs _ wm_9.2) (by decide) (fun j hj => w_eqr (hs _ (wm_a j hj)) (hw j hj))
    rw [wad_of (i := 14 + 1) (by decide) (show wEv s b (wTm 15) = some (.ref t) from t1)]
    exact t1
theorem w_We {l : Launch} (hts : ∀ w ∈ lw_tbl, w.before #[Value.ref b] s = true) (hs : ∀ c ∈ wL, c.before #[Value.ref b] s = true) (hl : l.stackTraces = false) : am_We s (wad s b) (wfv s b) l := by
  have hA : ∀ a : Nat, a < s.heap.size → ¬ s.heap.size ≤ a := fun a h => by omega
  refine ⟨fun t h1 h18 => ?_, fun q hq => ?_, fun i hi => ?_, vx_Zqof (hts _ wt_4.1) (hts _ wt_4.2.2) (hs _ wm_b.2.2.1) hA, vx_Zqof (hts _ wt_4.2.1) (hts _ wt_4.2.2) (hs _ wm_b.2.2.2.1) hA, va_Nc.of (hs _ wm_b.2.2.2.2.1), hl⟩
  · obtain ⟨i, rfl⟩ : ∃ i, t = i + 1 := ⟨t - 1, by omega⟩
    obtain ⟨w1, w2⟩ := wt_1 i (by omega)
    refine va_Zof (hts _ w1) (hts _ w2) ?_ hA
    show wEv s b (tmW (i + 1)) = some (am_val (wad s b) (wfv s b) (am_sT (i + 1)).2.2.2)
    by_cases h15 : i < 15
    · rw [w_sT i h15, w_wd hs i h15]
      show _ = some (am_val (wad s b) (wfv s b) (.ref (i + 1)))
      rw [w_val (by omega)]
    · have h2 : i = 15 ∨ i = 16 := by omega
      rcases h2 with rfl | rfl
      · exact va_eqt (hs _ wm_b.1)
      · exact (w_fv hs).1
  · obtain ⟨i, hi, rfl⟩ := w_sQ q hq
    obtain ⟨a, v, cell, cellV, a1, -⟩ := w_S hs hi
    refine vk_R.of (hts _ (wt_2 i hi)) ?_
    rw [wad_of (by omega) (by rw [wTm_S]; exact a1)]
    exact a1
  · obtain ⟨cC, kC, hfc, -⟩ := Cond.instantiable_spec (hts _ (wt_5 10 (by decide)))
    have hr := hts _ (wt_3 i hi)
    obtain ⟨k, cf, j, a, -, -, -, -, -, h6⟩ := Cond.stringRef_spec hfc hr
    exact ⟨a, vk_R.of hr h6⟩
theorem w_HR (hs : ∀ c ∈ wL, c.before #[Value.ref b] s = true) (hX : va_X b N xs s s.heap) : am_HR s (wad s b) (wfv s b) (wdC s) (wdI s) (wH N xs) s.heap := by
  refine ⟨fun q _ => rfl, ⟨fun _ => rfl, Nat.le_refl _⟩, Nat.le_refl _, fun i hi => ?_, rfl, fun i hi h74 => w_cell hs hX i hi h74⟩
  have hi' : 75 ≤ i := hi
  show (kS 75 N i).1 = 98
  unfold kS
  rw [k_ble hi']
  rfl
end WORLD2
