/-! judge: the pair -/
theorem mm_ctxB (h : mm_M) (a : Int) (hI : mm_Inv h) (ha : mm_r32 a) (hz : bWhy h a = 0) : ∃ g, mm_call mX9_layOutBoth [vR 0, vI a] h = some ([vI 0], g) ∧ mm_sh g (a.tmod 10) ∧ mm_WG g ∧ mm_Sm h g ∧ mm_Inv g ∧ (∀ p : Int, 0 ≤ p → p < 7 → mm_bok (bh g p)) ∧ mm_nok g ∧ ∀ h1, mm_Sm g h1 → ∃ f, mm_call mX10_layBoth [vR 47, vI a] h1 = some ([vI 0], f) ∧ mm_LAY g f ∧ mm_Sm h1 f ∧ mm_Inv f ∧ mm_rok f ∧ mm_rby f ∧ (∀ i, f 11 i = g 11 i) ∧ f 1 1 = g 1 1 ∧ (∀ i, f 81 i = g 81 i) ∧ (∀ i, f 80 i = g 80 i) := by
  obtain ⟨z, z1, z2⟩ := bWhy0 hz
  obtain ⟨t0, t2, w1⟩ := rs_b ha z.1
  have k0 : kWhy h (a.tdiv 10) 0 = 0 := by
    unfold kWhy
    rw [if_pos ⟨t0, z.2.1⟩, if_neg (by omega), if_pos z1]
  obtain ⟨g, a1, a2, a3, a4, a5, a6, a7, a8⟩ := mm_ctx h _ hI k0
  refine ⟨g, ?_, mm_sh.of a5.2.2.2.2.2.1 ⟨t2, z.2.2⟩ (by rw [a4 19 _ (by unfold mm_sc; omega)]; exact z2), a3, a4, a5, a6, a7, fun h1 m => ?_⟩
  · rw [c_both h a ha, if_pos hz, a2, mm_be0, X9_layOutBoth_105]
  · obtain ⟨f, b1, b2, b3, b4, b5, b6, b7, b8, b9⟩ := a8 h1 m
    have I1 := mm_Inv_Sm (a4.tr m) hI
    have gS := m.tr b4
    refine ⟨f, ?_, b3, b4, b5, b6, b7, b8, b9, fun i => gS 81 i (by unfold mm_sc; omega), fun i => gS 80 i (by unfold mm_sc; omega)⟩
    rw [s_both h1 a ha z I1.2.2.2.2.2.1, if_pos (by rw [bWhy_Sm (a4.tr m)]; exact hz), b2, mm_be0, X10_layBoth_64]
theorem mm_va_co {h g : mm_M} {u k : Int} (e22 : ∀ i, g 22 i = h 22 i) (e1 : g 1 1 = h 1 1) : mm_va g u k ↔ mm_va h u k := by
  unfold mm_va sE
  rw [e22, e22, e22, e1]
theorem p_judge (h : mm_M) (a : Int) (hI : mm_Inv h) (ha : mm_r32 a) : mm_Pr mX9_judge mX10_judge [vI a] h mm_Inv := by
  by_cases hz : bWhy h a = 0
  · obtain ⟨z, z1, z2⟩ := bWhy0 hz
    obtain ⟨t0, t2, w1⟩ := rs_b ha z.1
    obtain ⟨g, a1, sh, a3, a4, a5, a6, a7, a8⟩ := mm_ctxB h a hI ha hz
    obtain ⟨f, b1, b3, b4, b5, b6, b7, b8, b9, b81, b80⟩ := a8 g mm_Sm.rf
    have ag := AG_of b3 b5.1 b8 b9
    obtain ⟨r, r1, r2⟩ := c_judgeL g a _ sh a6 a7
    have eC : mm_call mX9_judge [vR 0, vI a] h = some ([vI r], g) := by
      rw [X9_judge_c, a1, mm_be1, X9_judge_5, if_pos rfl, if_pos ⟨t2, z.2.2⟩]
      exact r1
    have gS := a5.2.2.2.2.2.1
    have tt := (gS (a.tmod 10) t2 z.2.2).2.2.2.2.2.2.2 (by rw [sh.2.1]; decide)
    obtain ⟨r', c1, c2⟩ := s_wrong g f (a.tmod 10) sh gS b81 (by rw [b80, tt.1]) (by rw [ag.1]) ⟨a5.1.1, a5.1.2.1⟩ b6
    have er : r = r' := mm_wr_u (fun k k0 k1 => by
      have v := sh.2.2.2.2 (3 * k + 1) (by omega) (by omega)
      obtain ⟨g1, g2, g3, g4, g5, g6⟩ := ag
      unfold cSo rSo
      constructor
      · intro w
        have p7 : 0 ≤ sE g (a.tmod 10) (3 * k) ∧ sE g (a.tmod 10) (3 * k) < 7 := by have := w.1.1; have := a7.2.2.1; omega
        refine ⟨w.1, ?_⟩
        rw [g6 _ p7.1 p7.2, g2, g3, (N11 b5.1).1, b8]
        exact (let_eq (a6 _ p7.1 p7.2) a7.1 (by omega) a7.2.1.1).1 w.2
      · intro w
        have p7 : 0 ≤ sE g (a.tmod 10) (3 * k) ∧ sE g (a.tmod 10) (3 * k) < 7 := by have := w.1.1; have := a7.2.2.1; omega
        refine ⟨w.1, ?_⟩
        have t := w.2
        rw [g6 _ p7.1 p7.2, g2, g3, (N11 b5.1).1, b8] at t
        exact (let_eq (a6 _ p7.1 p7.2) a7.1 (by omega) a7.2.1.1).2 t) r2 c2
    refine mm_Pr.of eC ?_ b5
    rw [X10_judge_c, s_areSh g a ha, if_pos z, mm_be1, X10_judge_4, if_pos (by decide), b1, mm_be1, X10_judge_14, if_pos (by decide), c1, mm_be1, X10_judge_31, er]
  · have eC : mm_call mX9_judge [vR 0, vI a] h = some ([vI (bWhy h a)], h) := by
      rw [X9_judge_c, c_both h a ha, if_neg hz, mm_be1, X9_judge_5, if_neg hz]
    refine mm_Pr.of eC ?_ hI
    rw [X10_judge_c, s_areSh h a ha, mm_be1, X10_judge_4]
    by_cases z : 0 ≤ a ∧ a.tdiv 10 < 6 ∧ a.tmod 10 < 6
    · have ng := bWhy_neg hz
      rw [if_pos z, if_pos (by decide), s_both h a ha z hI.2.2.2.2.2.1, if_neg hz, mm_be1, X10_judge_14, if_neg (by omega), X10_judge_31]
    · rw [if_neg z, if_neg (fun w => w rfl), bWhy_no z]
