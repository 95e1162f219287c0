/-! odds: the pair -/
theorem s_homeBy (f : mm_M) (k e : Int) (hk : 0 ≤ k ∧ k < 4) (ho : mm_rok f) (hb : mm_rby f) : mm_call mX10_isHomeBy [vR 47, vI k, vI e] f = some ([vI (if f 55 k < f 47 1 ∧ rLet (f 69 (f 55 k)) (f 47 10) e (f 47 13) (f 54 k) (rKn f k) then 1 else 0)], f) := by
  have b := hb.2 k hk.1 hk.2
  rw [X10_isHomeBy_c, if_pos hk, s_post f _ hb.1, mm_be1, X10_isHomeBy_12]
  by_cases q : f 55 k < f 47 1
  · have e48 : ¬ (rKn f k = f 47 10 ∧ (f 69 (f 55 k) < 0 ∨ f 54 k < f 69 (f 55 k) + f 47 13)) → (mm_call mX10_knows [vR 47, vI k] f).bind (fun w => mm_ev mX10_isHomeBy 3 48 [some (vR 47), some (vI k), some (vI e), some (vI (f 55 k))] (w.1 ++ []) w.2) = some ([vI (if f 55 k < f 47 1 ∧ rLet (f 69 (f 55 k)) (f 47 10) e (f 47 13) (f 54 k) (rKn f k) then 1 else 0)], f) := fun no => by
      rw [s_knows f k hk, mm_be1, X10_isHomeBy_48]
      by_cases z : rKn f k = e
      · rw [if_neg (fun w => w z), if_pos hk, s_isNewIn f _ _ (by omega), mm_be1, X10_isHomeBy_63]
        by_cases z2 : 0 ≤ f 69 (f 55 k) ∧ f 69 (f 55 k) ≤ f 54 k
        · rw [if_pos z2, if_neg (by decide), if_pos ⟨q, Or.inr ⟨z, z2.1, z2.2⟩⟩]
        · rw [if_neg z2, if_pos rfl, if_neg]
          intro w
          rcases w.2 with w | w
          · exact no w
          · exact z2 w.2
      · rw [if_pos z, if_neg]
        intro w
        rcases w.2 with w | w
        · exact no w
        · exact z w.1
    rw [if_pos (⟨b.1, q⟩ : 0 ≤ f 55 k ∧ f 55 k < f 47 1), if_pos (by decide), s_knows f k hk, mm_be1, X10_isHomeBy_22]
    by_cases z : rKn f k = f 47 10
    · rw [if_neg (fun w => w z), if_pos hk, s_isOldIn f _ _ (by omega) ho, mm_be1, X10_isHomeBy_40]
      by_cases z2 : f 69 (f 55 k) < 0 ∨ f 54 k < f 69 (f 55 k) + f 47 13
      · rw [if_pos z2, if_pos (by decide), if_pos ⟨q, Or.inl ⟨z, z2⟩⟩]
      · rw [if_neg z2, if_neg (fun w => w rfl)]
        exact e48 (fun w => z2 w.2)
    · rw [if_pos z]
      exact e48 (fun w => z w.1)
  · rw [if_neg (fun w : 0 ≤ f 55 k ∧ f 55 k < f 47 1 => q w.2), if_neg (fun w => w rfl), if_neg (fun w => q w.1)]
theorem homeBy_cg {g f : mm_M} {k : Int} (e : Int) (hk : 0 ≤ k ∧ k < 4) (ag : mm_AG g f) (hn : mm_nok g) (e13 : f 47 13 = g 11 56) (hb : ∀ p : Int, 0 ≤ p → p < 7 → mm_bok (bh g p)) : (f 55 k < f 47 1 ∧ rLet (f 69 (f 55 k)) (f 47 10) e (f 47 13) (f 54 k) (rKn f k)) ↔ cGo g k e := by
  obtain ⟨n1, n2, n3, n4, n5⟩ := hn
  obtain ⟨m1, m2, m3, m4⟩ := n5 k hk.1 hk.2
  obtain ⟨g1, g2, g3, g4, g5, g6⟩ := ag
  obtain ⟨k1, k2, k3⟩ := g5 k hk.1 hk.2
  have ek : rKn f k = kn g k := by
    unfold rKn kn
    rw [k1, g4, g2, g3]
  have le := let_eq (b := bh g (g 11 (49 + k))) (a := g 11 55) (m := g 11 (45 + k)) (old := g 11 53) (e := e) (hd := g 11 56) (w := kn g k) (hb _ m3 (by omega)) n1 (by omega) n2.1
  rw [k3, k2, ek, g1, g2, e13, g6 _ m3 (by omega), ← le]
theorem p_odds (h : mm_M) (s k pt : Int) (hI : mm_Inv h) : mm_Pr mX9_odds mX10_odds [vI s, vI k, vI pt] h mm_Inv := by
  have eC : mm_call mX9_odds [vR 0, vI s, vI k, vI pt] h = if (0 ≤ k ∧ k < 4) ∧ 0 ≤ pt ∧ pt ≤ 1 then (mm_call mX9_layOut [vR 0, vI s] h).bind (fun z => mm_ev mX9_odds 6 21 [some (vR 0), some (vI s), some (vI k), some (vI pt), none, none, none, none] (z.1 ++ []) z.2) else some ([vL (-9223372036854775808)], h) := by
    rw [X9_odds_c]
    by_cases q1 : k < 0
    · rw [if_pos q1, if_neg (by omega)]
    · rw [if_neg q1]
      by_cases q2 : 4 ≤ k
      · rw [if_pos q2, if_neg (by omega)]
      · rw [if_neg q2, c_isPart, mm_be1, X9_odds_13]
        by_cases q3 : 0 ≤ pt ∧ pt ≤ 1
        · rw [if_pos q3, if_neg (by decide), if_pos ⟨by omega, q3⟩]
        · rw [if_neg q3, if_pos rfl, if_neg (fun w => q3 w.2)]
  have eR : ∀ x : mm_M, mm_call mX10_odds [vR 47, vI s, vI k, vI pt] x = if (0 ≤ s ∧ s < 6) ∧ (0 ≤ k ∧ k < 4) ∧ 0 ≤ pt ∧ pt ≤ 1 then (mm_call mX10_layOr [vR 47, vI s] x).bind (fun z => mm_ev mX10_odds 6 28 [some (vR 47), some (vI s), some (vI k), some (vI pt), none, none, none] (z.1 ++ []) z.2) else some ([vL (-9223372036854775808)], x) := by
    intro x
    rw [X10_odds_c, s_shelf, mm_be1, X10_odds_4]
    by_cases hs : 0 ≤ s ∧ s < 6
    · rw [if_pos hs, if_neg (by decide), s_in, mm_be1, X10_odds_13]
      by_cases q2 : 0 ≤ k ∧ k < 4
      · rw [if_pos (show 0 ≤ k ∧ k ≤ 3 by omega), if_neg (by decide), s_isPart, mm_be1, X10_odds_20]
        by_cases q3 : 0 ≤ pt ∧ pt ≤ 1
        · rw [if_pos q3, if_neg (by decide), if_pos ⟨hs, q2, q3⟩]
        · rw [if_neg q3, if_pos rfl, if_neg (fun w => q3 w.2.2)]
      · rw [if_neg (show ¬ (0 ≤ k ∧ k ≤ 3) by omega), if_pos rfl, if_neg (fun w => q2 w.2.1)]
    · rw [if_neg hs, if_pos rfl, if_neg (fun w => hs w.1)]
  by_cases q : (0 ≤ k ∧ k < 4) ∧ 0 ≤ pt ∧ pt ≤ 1
  · rw [if_pos q] at eC
    have hk := q.1
    by_cases hz : kWhy h s 0 = 0
    · obtain ⟨hs, -⟩ := kWhy0 hz
      obtain ⟨g, a1, -, W, a4, a5, a6, a7, a8⟩ := mm_ctx h s hI hz
      have W0 := W.1
      have W6 := W.2.1
      have n9 := (N9 hI.1).2
      have g11 : ∀ i, g 11 i = h 11 i := fun i => a4 11 i (by unfold mm_sc; omega)
      have g1 : g 1 1 = h 1 1 := a4 1 1 (by unfold mm_sc; omega)
      obtain ⟨n1, n2, n3, n4, n5⟩ := id a7
      obtain ⟨m1, m2, m3, m4⟩ := n5 k hk.1 hk.2
      -- the place of the patrol's post
      have pl : (0 ≤ g 24 (g 11 (49 + k)) ∧ g 24 (g 11 (49 + k)) < g 4 0 ∧ g 23 (g 24 (g 11 (49 + k))) = g 11 (49 + k) ∧ g 11 (49 + k) < g 1 1) ∨ (g 24 (g 11 (49 + k)) < 0 ∧ ∀ j : Int, 0 ≤ j → j < g 4 0 → ¬ g 23 j = g 11 (49 + k)) := by
        by_cases z : 0 ≤ g 24 (g 11 (49 + k))
        · obtain ⟨c1, c2⟩ := WG_in W m3 (show g 11 (49 + k) < 7 by omega) z
          have v := (W.2.2.1 _ z c1).1
          rw [c2] at v
          exact Or.inl ⟨z, c1, c2, v.2⟩
        · refine Or.inr ⟨by omega, fun j j0 j1 ej => ?_⟩
          have v := (W.2.2.1 j j0 j1).2.1
          rw [ej] at v
          omega
      have hx : ∃ X : Int, X = (if 0 ≤ g 24 (g 11 (49 + k)) then misV h (h 11 54) (g 11 (49 + k)) (g 24 (g 11 (49 + k))) else 0) := ⟨_, rfl⟩
      obtain ⟨X, hX⟩ := hx
      have Xb : 0 ≤ X ∧ X ≤ 12 := by
        rw [hX]
        split
        · exact misV_b _ _ _ _
        · omega
      -- the class up to the mishearing
      have C1 : ∃ x, mm_ev mX9_odds 6 21 [some (vR 0), some (vI s), some (vI k), some (vI pt), none, none, none, none] [vI 0] g = mm_ev mX9_odds 6 106 [some (vR 0), some (vI s), some (vI k), some (vI pt), some (vI (g 11 54)), some (vI (g 11 (49 + k))), some (vI X), none] [] x ∧ mm_kf g x := by
        rw [X9_odds_21, if_pos rfl, c_new, mm_be1, X9_odds_37, g_by g k hk, mm_be1, X9_odds_49, c_isPost, mm_be1, X9_odds_63]
        rcases pl with ⟨z1, z2, z3, z4⟩ | ⟨z1, z2⟩
        · obtain ⟨x, x1, x2⟩ := c_mis h g hI a4 (h 11 54) (g 11 (49 + k)) (g 24 (g 11 (49 + k))) (by omega) (by omega) (by omega)
          rw [if_pos z1] at hX
          refine ⟨x, ?_, x2⟩
          rw [if_pos (⟨m3, z4⟩ : 0 ≤ g 11 (49 + k) ∧ g 11 (49 + k) < g 1 1), if_neg (by decide), if_pos (by omega), if_neg (by omega), if_pos (by omega), g11 54, x1, mm_be1, X9_odds_104, hX]
        · rw [if_neg (by omega)] at hX
          refine ⟨g, ?_, mm_kf.rf⟩
          rw [hX]
          by_cases z : 0 ≤ g 11 (49 + k) ∧ g 11 (49 + k) < g 1 1
          · rw [if_pos z, if_neg (by decide), if_pos (by omega), if_pos z1]
          · rw [if_neg z, if_pos rfl]
      obtain ⟨x, c1, xf⟩ := C1
      have bx : ∀ p, bh x p = bh g p := fun p => by
        unfold bh
        rw [xf 24 p (by decide) (by omega), xf 25 p (by decide) (by omega)]
      have xn : mm_nok x := by
        refine ⟨by rw [xf 11 _ (by decide) (by omega)]; exact n1, by rw [xf 11 _ (by decide) (by omega)]; exact n2, by rw [xf 1 1 (by decide) (by omega)]; exact n3, by rw [xf 11 _ (by decide) (by omega)]; exact n4, fun j j0 j1 => ?_⟩
        rw [xf 11 _ (by decide) (by omega), xf 11 _ (by decide) (by omega)]
        exact n5 j j0 j1
      have xb : ∀ p : Int, 0 ≤ p → p < 7 → mm_bok (bh x p) := fun p p0 p7 => by rw [bx]; exact a6 p p0 p7
      have xgo : ∀ e : Int, cGo x k e ↔ cGo g k e := fun e => by
        have e11 : ∀ i, x 11 i = g 11 i := fun i => xf 11 i (by decide) (by omega)
        unfold cGo kn
        rw [bx, e11, e11, e11, e11, e11, e11, e11, xf 1 1 (by decide) (by omega)]
      have x54 : x 11 54 = g 11 54 := xf 11 54 (by decide) (by omega)
      have w12 : w32 (12 - X) = 12 - X := w32_id (by unfold mm_r32; omega)
      have hU : ∃ U : Int, U = (if cGo g k (g 11 54) then 12 - X else 0) + (if cGo g k (g 11 (31 + g 11 54)) then X else 0) := ⟨_, rfl⟩
      obtain ⟨U, hU⟩ := hU
      have Ub : 0 ≤ U ∧ U ≤ 12 := by
        rw [hU]
        split <;> split <;> omega
      obtain ⟨v, v1, v2⟩ := part_both U 12 pt Ub.1 (by decide) (by decide)
      have eC2 : mm_call mX9_odds [vR 0, vI s, vI k, vI pt] h = some ([vL v], x) := by
        have e136 : ∀ a7' : Int, a7' = (if cGo g k (g 11 54) then 12 - X else 0) → mm_ev mX9_odds 6 136 [some (vR 0), some (vI s), some (vI k), some (vI pt), some (vI (g 11 54)), some (vI (g 11 (49 + k))), some (vI X), some (vI a7')] [] x = some ([vL v], x) := by
          intro a7' h7
          have xl : x 11 (31 + g 11 54) = g 11 (31 + g 11 54) := xf 11 _ (by decide) (by omega)
          rw [X9_odds_136, g_like x _ (by omega), mm_be1, X9_odds_155, xl, c_goesIn x k _ hk xb xn, mm_be1, X9_odds_158]
          by_cases z : cGo g k (g 11 (31 + g 11 54))
          · rw [if_pos z] at hU
            have w1 : w32 (a7' + X) = U := by
              rw [hU, h7]
              exact w32_id (by unfold mm_r32; split <;> omega)
            rw [if_pos ((xgo _).2 z), if_neg (by decide), w1, v1, mm_be1, X9_odds_178]
          · rw [if_neg z] at hU
            rw [if_neg (fun w => z ((xgo _).1 w)), if_pos rfl, show a7' = U by omega, v1, mm_be1, X9_odds_178]
        rw [eC, a1, mm_be1, c1, X9_odds_106, c_goesIn x k _ hk xb xn, mm_be1, X9_odds_123]
        by_cases z : cGo g k (g 11 54)
        · rw [if_pos ((xgo _).2 z), if_neg (by decide), w12, show (0 : Int) + (12 - X) = 12 - X from by omega, w12]
          exact e136 _ (by rw [if_pos z])
        · rw [if_neg (fun w => z ((xgo _).1 w)), if_pos rfl]
          exact e136 _ (by rw [if_neg z])
      -- the reference
      obtain ⟨f, b1, -, Ly, b4, b5, b6, b7, b8, b9⟩ := a8 x xf.Sm
      have fS := (a4.tr xf.Sm).tr b4
      have R := rr_of hI fS Ly
      have ag := AG_of Ly b5.1 b8 b9
      have e13 : f 47 13 = g 11 56 := by rw [(N11 b5.1).1, b8]
      have f55 : f 55 k = g 11 (49 + k) := (ag.2.2.2.2.1 k hk.1 hk.2).2.2
      have R1 : ∃ y a4', mm_ev mX10_odds 6 28 [some (vR 47), some (vI s), some (vI k), some (vI pt), none, none, none] [vI 0] f = mm_ev mX10_odds 6 68 [some (vR 47), some (vI s), some (vI k), some (vI pt), some (vI a4'), none, none] [vI X] y ∧ mm_rx f y := by
        rw [X10_odds_28, if_pos (by decide), if_pos hk, f55]
        have n35 := R.2.1
        rcases pl with ⟨z1, z2, z3, z4⟩ | ⟨z1, z2⟩
        · rcases s_placeOf f (g 11 (49 + k)) (by omega) (by omega) with ⟨j, j0, j1, j2, j3, j4⟩ | ⟨j1, j2⟩
          · have ej : j = g 24 (g 11 (49 + k)) := by
              have v := (W.2.2.1 j j0 (by omega)).2.1
              rw [← R.2.2 j j0 (by omega), j2] at v
              exact v.symm
            obtain ⟨y, y1, y2⟩ := s_mis h f hI (h 11 54) (g 11 (49 + k)) j R.1 (by omega) (by omega) (by omega)
            rw [if_pos z1, ← ej] at hX
            refine ⟨y, j, ?_, y2⟩
            rw [j3, mm_be1, X10_odds_45, if_pos j0, if_pos hk, f55, y1, mm_be1, hX]
          · exact absurd ((R.2.2 _ z1 z2).trans z3) (j1 _ z1 (by omega))
        · rcases s_placeOf f (g 11 (49 + k)) (by omega) (by omega) with ⟨j, j0, j1, j2, j3, j4⟩ | ⟨j1, j2⟩
          · exact absurd ((R.2.2 j j0 (by omega)).symm.trans j2) (z2 j j0 (by omega))
          · rw [if_neg (by omega)] at hX
            refine ⟨f, -1, ?_, mm_rx.rf⟩
            rw [j2, mm_be1, X10_odds_45, if_neg (by decide), hX]
      obtain ⟨y, a4', d1, d2⟩ := R1
      have yS := fS.tr d2.Sm
      have yI := mm_Inv_Sm yS hI
      have y11 : ∀ i, y 11 i = g 11 i := fun i => by rw [d2 11 (by decide) (by decide)]; exact b8 i
      have yag : mm_AG g y := by
        obtain ⟨g1, g2, g3, g4, g5, g6⟩ := ag
        have e47 : y 47 = f 47 := d2 47 (by decide) (by decide)
        refine ⟨by rw [e47]; exact g1, by rw [e47]; exact g2, by rw [e47]; exact g3, by rw [e47]; exact g4, fun j j0 j1 => ?_, fun p p0 p7 => by rw [d2 69 (by decide) (by decide)]; exact g6 p p0 p7⟩
        rw [d2 53 (by decide) (by decide), d2 54 (by decide) (by decide), d2 55 (by decide) (by decide)]
        exact g5 j j0 j1
      have y13 : y 47 13 = g 11 56 := by rw [d2 47 (by decide) (by decide)]; exact e13
      have yok : mm_rok y := ⟨fun p p0 p7 => by rw [d2 69 (by decide) (by decide)]; exact b6.1 p p0 p7, by rw [d2 47 (by decide) (by decide)]; exact b6.2.1, by rw [d2 47 (by decide) (by decide)]; exact b6.2.2⟩
      have yby : mm_rby y := ⟨by rw [d2 47 (by decide) (by decide)]; exact b7.1, fun j j0 j1 => by rw [d2 55 (by decide) (by decide)]; exact b7.2 j j0 j1⟩
      have y47 : y 47 11 = g 11 54 := yag.2.2.1
      have y52 : y 52 (g 11 54) = g 11 (31 + g 11 54) := by rw [(N4 yI.1 (g 11 54) n4.1 (by omega)).1, y11]
      have hb := fun e => homeBy_cg (g := g) (f := y) e hk yag a7 y13 a6
      have eR2 : mm_call mX10_odds [vR 47, vI s, vI k, vI pt] x = some ([vL v], y) := by
        have e91 : ∀ a : Int, a = (if cGo g k (g 11 54) then 12 - X else 0) → mm_ev mX10_odds 6 91 [some (vR 47), some (vI s), some (vI k), some (vI pt), some (vI a4'), some (vI X), none] [vI a] y = some ([vL v], y) := by
          intro a ha
          have e114 : ∀ b : Int, b = (if cGo g k (g 11 (31 + g 11 54)) then X else 0) → mm_ev mX10_odds 6 114 [some (vR 47), some (vI s), some (vI k), some (vI pt), some (vI a4'), some (vI X), none] [vI b, vI a] y = some ([vL v], y) := by
            intro b hb
            have w1 : w32 (a + b) = U := by
              rw [hU, ha, hb]
              exact w32_id (by unfold mm_r32; split <;> split <;> omega)
            rw [X10_odds_114, w1, v2, mm_be1, X10_odds_127]
          rw [X10_odds_91, y47, if_pos (by omega), y52, s_homeBy y k _ hk yok yby, mm_be1, X10_odds_105]
          by_cases z : cGo g k (g 11 (31 + g 11 54))
          · rw [if_pos ((hb _).2 z), if_neg (by decide)]
            exact e114 X (by rw [if_pos z])
          · rw [if_neg (fun w => z ((hb _).1 w)), if_pos rfl]
            exact e114 0 (by rw [if_neg z])
        rw [eR x, if_pos ⟨hs, q⟩, b1, mm_be1, d1, X10_odds_68, y47, s_homeBy y k _ hk yok yby, mm_be1, X10_odds_79, w12]
        by_cases z : cGo g k (g 11 54)
        · rw [if_pos ((hb _).2 z), if_neg (by decide)]
          exact e91 _ (by rw [if_pos z])
        · rw [if_neg (fun w => z ((hb _).1 w)), if_pos rfl]
          exact e91 _ (by rw [if_neg z])
      exact mm_Pr.of eC2 eR2 yI
    · rw [lay_bad h s hz, mm_be1, X9_odds_21, if_neg hz] at eC
      refine mm_Pr.of eC ?_ hI
      rw [eR h]
      by_cases hs : 0 ≤ s ∧ s < 6
      · have ng := kWhy_neg hz
        rw [if_pos ⟨hs, q⟩, rlay_bad h s hI hs hz, mm_be1, X10_odds_28, if_neg (by omega)]
      · rw [if_neg (fun w => hs w.1)]
  · rw [if_neg q] at eC
    refine mm_Pr.of eC ?_ hI
    rw [eR h, if_neg (fun w => q w.2)]
