/-! hears, letsIn, patrol: the pairs -/
theorem p_hears (h : mm_M) (s p : Int) (hI : mm_Inv h) : mm_Pr mX9_hears mX10_hears [vI s, vI p] h mm_Inv := by
  obtain ⟨n0, n7, n47, -⟩ := id hI.1
  have w1 : ∀ x : mm_M, x 47 1 = h 1 1 → w32 (x 47 1 - 1) = h 1 1 - 1 := fun x e => by rw [e]; exact w32_id (by unfold mm_r32; omega)
  by_cases hp : -2 ≤ p ∧ p < h 1 1
  · have eC : mm_call mX9_hears [vR 0, vI s, vI p] h = (mm_call mX9_layOut [vR 0, vI s] h).bind (fun w => mm_ev mX9_hears 6 24 [some (vR 0), some (vI s), some (vI p), none, none] (w.1 ++ []) w.2) := by
      rw [X9_hears_c, if_neg (by omega), if_pos (by omega)]
    have eR : 0 ≤ s ∧ s < 6 → ∀ x : mm_M, x 47 1 = h 1 1 → mm_call mX10_hears [vR 47, vI s, vI p] x = (mm_call mX10_rowFault [vR 47, vI s, vI 0] x).bind (fun w => mm_ev mX10_hears 5 30 [some (vR 47), some (vI s), some (vI p)] (w.1 ++ []) w.2) := fun hs x e => by
      rw [X10_hears_c, s_shelf, if_pos hs, mm_be1]
      refine (X10_hears_4 _ _ _ _).trans ?_
      rw [if_neg (by decide), w1 x e, s_in, if_pos (by omega), mm_be1]
      exact (X10_hears_19 _ _ _ _).trans (if_pos (by decide))
    by_cases hz : kWhy h s 0 = 0
    · obtain ⟨hs, -⟩ := kWhy0 hz
      obtain ⟨g, a1, -, a3, a4, a5, a6, a7, a8⟩ := mm_ctx h s hI hz
      obtain ⟨f, b1, b2, b3, b4, b5, b6, b7, b8, b9⟩ := a8 g mm_Sm.rf
      rw [a1, mm_be1] at eC
      have eC := eC.trans (X9_hears_24 _ _ _ _)
      rw [if_pos rfl] at eC
      have eR := eR hs g (by rw [a4 47 1 (by unfold mm_sc; omega)]; exact n47)
      rw [s_rowFault g s 0 hs (by decide) a5.2.2.2.2.2.1, kWhy_Sm a4, hz, mm_be1] at eR
      have eR := eR.trans (X10_hears_30 _ _ _ _)
      rw [if_pos (by decide), b2, mm_be0] at eR
      have eR := eR.trans (X10_hears_45 _ _ _)
      have g7 : g 1 1 ≤ 7 := a7.2.2.1
      have gxy := N_xy a5.1
      have n10 := N10 b5.1
      have f12 : 0 ≤ f 47 12 ∧ f 47 12 ≤ 999 := by omega
      have e12 : f 47 12 = g 11 55 := by rw [n10.1, b8]
      by_cases q1 : p = -1
      · rw [if_neg (fun w => w q1), c_at, mm_be1] at eC
        have eC := eC.trans (X9_hears_45 _ _ _ _ _)
        have l := s_latest f (ar (wDi g) (g 23)) (by rw [b3.1]; exact ⟨a3.1, a3.2.1⟩) f12 (fun j j0 j1 => LAY_A a3 g7 gxy b3 j0 j1)
        rw [if_pos (by omega), if_neg (fun w => w q1), l, mm_be1] at eR
        have eR := eR.trans (X10_hears_67 _ _ _ _)
        have c : mm_call mX8_latest [vR 4] g = some ([vI (if f 47 35 = 0 then 0 else ar (wDi g) (g 23) (f 47 35 - 1))], g) := by
          rw [X8a_latest_c, b3.1]
          by_cases q : g 4 0 = 0
          · rw [if_neg (fun w => w q), if_pos q]
          · have z0 := a3.1
            have z6 := a3.2.1
            obtain ⟨x1, x2, x3, x4, x5⟩ := WG_A a3 g7 gxy (j := g 4 0 - 1) (by omega) (by omega)
            have w2 : w32 (g 4 0 - 1) = g 4 0 - 1 := w32_id (by unfold mm_r32; omega)
            rw [if_pos q, w2, if_pos (by omega), if_pos (by omega), if_neg q, x2]
        rw [c, mm_be1] at eC
        have eC := eC.trans (X9_hears_52 _ _ _ _ _ _)
        have b : 0 ≤ (if f 47 35 = 0 then 0 else ar (wDi g) (g 23) (f 47 35 - 1)) ∧ (if f 47 35 = 0 then 0 else ar (wDi g) (g 23) (f 47 35 - 1)) ≤ 1392 := by
          have z0 := a3.1
          have z6 := a3.2.1
          have y1 := b3.1
          by_cases q : f 47 35 = 0
          · rw [if_pos q]
            omega
          · rw [if_neg q]
            exact WG_ab a3 g7 gxy (by omega) (by omega)
        have n1 := a7.1
        rw [w32_id (by unfold mm_r32; omega), ← e12] at eC
        exact mm_Pr.of eC eR b5
      · by_cases q2 : p = -2
        · have c := c_together g (ar (wDi g) (g 23)) ⟨a3.1, a3.2.1⟩ (fun j j0 j1 => by
            obtain ⟨x1, x2, x3, x4, x5⟩ := WG_A a3 g7 gxy j0 j1
            exact ⟨x1, x2, x3, x4⟩)
          have l := s_together f (ar (wDi g) (g 23)) (by rw [b3.1]; exact ⟨a3.1, a3.2.1⟩) f12 (fun j j0 j1 => by
            obtain ⟨x1, x2, x3, x4, x5⟩ := LAY_A a3 g7 gxy b3 j0 j1
            exact ⟨x1, x2, x3, x4⟩)
          rw [if_pos q1, if_neg (fun w => w q2), c, mm_be1] at eC
          rw [if_neg (fun w => w q2), l, mm_be1, b3.1] at eR
          exact mm_Pr.of (eC.trans (X9_hears_67 _ _ _ _ _)) (eR.trans (X10_hears_55 _ _ _ _)) b5
        · have p7 : 0 ≤ p ∧ p < 7 := by omega
          have bp := a6 p p7.1 p7.2
          rw [if_pos q1, if_pos q2, c_hearing g p p7 bp a7.1, mm_be1] at eC
          have eC := eC.trans (X9_hears_80 _ _ _ _ _)
          rw [if_pos q2, if_pos q1, if_pos p7, b3.2.2 p p7.1 p7.2, e12] at eR
          have n1 := a7.1
          unfold mm_tH at eR
          by_cases q : bh g p = 1000000
          · rw [cT1 q, if_neg (fun w => w rfl)] at eC
            rw [if_pos q] at eR
            exact mm_Pr.of eC eR b5
          · rw [cT2 q, if_pos (by omega)] at eC
            rw [if_neg q] at eR
            exact mm_Pr.of eC eR b5
    · rw [lay_bad h s hz, mm_be1] at eC
      have eC := eC.trans (X9_hears_24 _ _ _ _)
      rw [if_neg hz] at eC
      refine mm_Pr.of eC ?_ hI
      by_cases hs : 0 ≤ s ∧ s < 6
      · have ng := kWhy_neg hz
        rw [eR hs h n47, s_rowFault h s 0 hs (by decide) hI.2.2.2.2.2.1, mm_be1]
        refine (X10_hears_30 _ _ _ _).trans ?_
        rw [if_neg (by omega), s_rowFault h s 0 hs (by decide) hI.2.2.2.2.2.1, mm_be1]
        exact X10_hears_39 _ _ _ _
      · rw [X10_hears_c, s_shelf, if_neg hs, mm_be1, kWhy_no hs]
        exact (X10_hears_4 _ _ _ _).trans (if_pos rfl)
  · refine mm_Pr.of (v := vI (-1)) (h1 := h) (h2 := h) ?_ ?_ hI
    · rw [X9_hears_c]
      by_cases q : p < -2
      · rw [if_pos q]
      · rw [if_neg q, if_neg (by omega)]
    · rw [X10_hears_c, s_shelf, mm_be1]
      refine (X10_hears_4 _ _ _ _).trans ?_
      by_cases hs : 0 ≤ s ∧ s < 6
      · rw [if_pos hs, if_neg (by decide), w1 h n47, s_in, if_neg (by omega), mm_be1]
        exact (X10_hears_19 _ _ _ _).trans (if_neg (fun w => w rfl))
      · rw [if_neg hs, if_pos rfl]
