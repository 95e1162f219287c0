/-! letsIn, patrol: the pairs -/
/-- class and reference say the same of the numbers and of the way -/
def mm_AG (g f : mm_M) : Prop := f 47 1 = g 1 1 ∧ f 47 10 = g 11 53 ∧ f 47 11 = g 11 54 ∧ f 47 12 = g 11 55 ∧ (∀ k : Int, 0 ≤ k → k < 4 → f 53 k = g 11 (41 + k) ∧ f 54 k = g 11 (45 + k) ∧ f 55 k = g 11 (49 + k)) ∧ ∀ p : Int, 0 ≤ p → p < 7 → f 69 p = mm_tH (bh g p) (g 11 55)
theorem AG_of {g f : mm_M} (y : mm_LAY g f) (z : mm_RN f) (e11 : ∀ i, f 11 i = g 11 i) (e1 : f 1 1 = g 1 1) : mm_AG g f := by
  have n10 := N10 z
  refine ⟨by rw [z.2.2.1, e1], by rw [(N8 z).1, e11], by rw [(N9 z).1, e11], by rw [n10.1, e11], fun k k0 k1 => ⟨by rw [(N5 z k k0 k1).1, e11], by rw [(N6 z k k0 k1).1, e11], by rw [(N7 z k k0 k1).1, e11]⟩, fun p p0 p7 => ?_⟩
  rw [y.2.2 p p0 p7, n10.1, e11]
theorem let_eq {b a m old e hd w : Int} (hb : mm_bok b) (ha : 0 ≤ a ∧ a ≤ 999) (hm : m < 1000000) (hh : 0 ≤ hd) : cLet (cT b a) old e hd m w ↔ rLet (mm_tH b a) old e hd m w := by
  unfold mm_tH
  by_cases q : b = 1000000
  · rw [if_pos q, show cT b a = 1000000 from if_pos q]
    omega
  · rw [if_neg q, show cT b a = a + b from if_neg q]
    omega
def cBits (T old new hd m : Int) : Int := if old = new then 3 else (if m < T + hd then 1 else 0) + (if T ≤ m then 2 else 0)
theorem bits_eq {b a m old e hd : Int} (hb : mm_bok b) (ha : 0 ≤ a ∧ a ≤ 999) (hm : m < 1000000) (hh : 0 ≤ hd) : cBits (cT b a) old e hd m = rBits (mm_tH b a) old e hd m := by
  unfold mm_tH cBits rBits
  by_cases q : b = 1000000
  · rw [if_pos q, show cT b a = 1000000 from if_pos q]
    repeat' split
    all_goals omega
  · rw [if_neg q, show cT b a = a + b from if_neg q]
    repeat' split
    all_goals omega
theorem c_lets (g : mm_M) (p m : Int) (hp : 0 ≤ p ∧ p < 7) (hb : mm_bok (bh g p)) (hn : mm_nok g) : mm_call mX8_lets [vR 4, vR 1, vI p, vI m] g = some ([vI (cBits (cT (bh g p) (g 11 55)) (g 11 53) (g 11 54) (g 11 56) m)], g) := by
  obtain ⟨n1, n2, n3⟩ := hn
  rw [X8a_lets_c, c_hearing g p hp hb n1, mm_be1]
  refine (X8a_lets_6 _ _ _ _).trans ?_
  have hT : ∃ T, T = cT (bh g p) (g 11 55) := ⟨_, rfl⟩
  obtain ⟨T, hT⟩ := hT
  have bT : 0 ≤ T ∧ T ≤ 1000000 := by
    rw [hT]
    exact cT_b hb n1
  rw [← hT, c_holds, mm_be1]
  refine (X8a_lets_17 _ _ _ _ _ _ _).trans ?_
  have w1 : w32 (T + g 11 56) = T + g 11 56 := w32_id (by unfold mm_r32; omega)
  rw [w1]
  have e26 : ∀ a : Int, a = (if m < T + g 11 56 then 1 else 0) → mm_ev mX8_lets 3 26 [some (vR 4), some (vR 1), some (vI p), some (vI m), some (vI T), none, none] [vI a] g = some ([vI (cBits T (g 11 53) (g 11 54) (g 11 56) m)], g) := by
    intro a ha
    have e45 : ∀ b : Int, b = (if T ≤ m then 1 else 0) → (mm_call mX4_areAlike [vR 1] g).bind (fun w => mm_ev mX8_lets 3 45 [some (vR 4), some (vR 1), some (vI p), some (vI m), some (vI T), some (vI a), some (vI b)] (w.1 ++ []) w.2) = some ([vI (cBits T (g 11 53) (g 11 54) (g 11 56) m)], g) := by
      intro b hb
      rw [c_alike, mm_be1]
      refine (X8a_lets_45 _ _ _ _ _ _ _).trans ?_
      unfold cBits
      by_cases q : g 11 53 = g 11 54
      · rw [if_pos q, if_neg (by decide), if_pos q]
      · rw [if_neg q, if_pos rfl, if_neg q, ← ha]
        have e60 : ∀ a' : Int, a' = a → mm_ev mX8_lets 3 60 [some (vR 4), some (vR 1), some (vI p), some (vI m), some (vI T), some (vI a), some (vI b)] [vI a'] g = some ([vI (a + if T ≤ m then 2 else 0)], g) := by
          intro a' e
          rw [X8a_lets_60, e]
          by_cases q2 : T ≤ m
          · rw [if_pos q2] at hb
            rw [hb, if_neg (by decide), if_pos q2]
            rw [w32_id (by unfold mm_r32; rw [ha]; split <;> omega)]
          · rw [if_neg q2] at hb
            rw [hb, if_pos rfl, if_neg q2]
            rw [w32_id (by unfold mm_r32; rw [ha]; split <;> omega)]
        by_cases q2 : m < T + g 11 56
        · rw [if_pos q2] at ha
          rw [if_neg (by omega)]
          exact e60 1 ha.symm
        · rw [if_neg q2] at ha
          rw [if_pos ha]
          exact e60 0 ha.symm
    rw [X8a_lets_26]
    by_cases q : m < T
    · rw [if_pos q]
      exact e45 0 (by rw [if_neg (by omega)])
    · rw [if_neg q]
      exact e45 1 (by rw [if_pos (by omega)])
  by_cases q : T + g 11 56 ≤ m
  · rw [if_pos q]
    exact e26 0 (by rw [if_neg (by omega)])
  · rw [if_neg q]
    exact e26 1 (by rw [if_pos (by omega)])
theorem p_letsIn (h : mm_M) (s a : Int) (hI : mm_Inv h) (ha : mm_r32 a) : mm_Pr mX9_letsIn mX10_letsIn [vI s, vI a] h mm_Inv := by
  obtain ⟨n0, n7, n47, -⟩ := id hI.1
  have eC : mm_call mX9_letsIn [vR 0, vI s, vI a] h = if 0 ≤ a ∧ a.tdiv 1000 < h 1 1 then (mm_call mX9_layOut [vR 0, vI s] h).bind (fun w => mm_ev mX9_letsIn 6 15 [some (vR 0), some (vI s), some (vI a), none] (w.1 ++ []) w.2) else some ([vI (-1)], h) := by
    rw [X9_letsIn_c, c_isPM h a ha, mm_be1]
    refine (X9_letsIn_5 _ _ _ _).trans ?_
    by_cases q : 0 ≤ a ∧ a.tdiv 1000 < h 1 1
    · rw [if_pos q, if_pos (by decide), if_pos q]
    · rw [if_neg q, if_neg (fun w => w rfl), if_neg q]
  have eR : ∀ x : mm_M, x 47 1 = h 1 1 → mm_call mX10_letsIn [vR 47, vI s, vI a] x = if 0 ≤ s ∧ s < 6 then (if 0 ≤ a ∧ a.tdiv 1000 < h 1 1 then (mm_call mX10_layOr [vR 47, vI s] x).bind (fun w => mm_ev mX10_letsIn 6 25 [some (vR 47), some (vI s), some (vI a), none] (w.1 ++ []) w.2) else some ([vI (-1)], x)) else some ([vI (-1)], x) := by
    intro x e
    rw [X10_letsIn_c, s_shelf, mm_be1]
    refine (X10_letsIn_4 _ _ _ _).trans ?_
    by_cases hs : 0 ≤ s ∧ s < 6
    · rw [if_pos hs, if_neg (by decide), if_pos hs, s_arePost x a ha (by omega), mm_be1, e]
      refine (X10_letsIn_15 _ _ _ _).trans ?_
      by_cases q : 0 ≤ a ∧ a.tdiv 1000 < h 1 1
      · rw [if_pos q, if_pos (by decide), if_pos q]
      · rw [if_neg q, if_neg (fun w => w rfl), if_neg q]
    · rw [if_neg hs, if_pos rfl, if_neg hs]
  by_cases q : 0 ≤ a ∧ a.tdiv 1000 < h 1 1
  · rw [if_pos q] at eC
    obtain ⟨pm1, pm2, pm3⟩ := pm_b ha n7 q
    by_cases hz : kWhy h s 0 = 0
    · obtain ⟨hs, -⟩ := kWhy0 hz
      obtain ⟨g, a1, -, a3, a4, a5, a6, a7, a8⟩ := mm_ctx h s hI hz
      obtain ⟨f, b1, b2, b3, b4, b5, b6, b7, b8, b9⟩ := a8 g mm_Sm.rf
      have ag := AG_of b3 b5.1 b8 b9
      have eR := eR g (by rw [a4 47 1 (by unfold mm_sc; omega)]; exact n47)
      rw [if_pos hs, if_pos q, b1, mm_be1] at eR
      have eR := eR.trans (X10_letsIn_25 _ _ _ _)
      rw [if_pos (by decide), pm3, s_bitsIn f _ _ pm1 b6, mm_be1] at eR
      have eR := eR.trans (X10_letsIn_48 _ _ _ _ _)
      rw [a1, mm_be1] at eC
      have eC := eC.trans (X9_letsIn_15 _ _ _ _)
      have bp := a6 (a.tdiv 1000) pm1.1 pm1.2
      rw [if_pos rfl, pm3, c_lets g _ _ pm1 bp a7, mm_be1] at eC
      have eC := eC.trans (X9_letsIn_45 _ _ _ _ _)
      rw [bits_eq bp a7.1 (by omega) a7.2.1.1] at eC
      obtain ⟨g1, g2, g3, g4, g5, g6⟩ := ag
      rw [g6 _ pm1.1 pm1.2, g2, g3, (N11 b5.1).1, b8] at eR
      exact mm_Pr.of eC eR b5
    · rw [lay_bad h s hz, mm_be1] at eC
      have eC := eC.trans (X9_letsIn_15 _ _ _ _)
      rw [if_neg hz] at eC
      refine mm_Pr.of (eC.trans (X9_letsIn_45 _ _ _ _ _)) ?_ hI
      rw [eR h n47]
      by_cases hs : 0 ≤ s ∧ s < 6
      · have ng := kWhy_neg hz
        rw [if_pos hs, if_pos q, rlay_bad h s hI hs hz, mm_be1]
        refine (X10_letsIn_25 _ _ _ _).trans ?_
        rw [if_neg (by omega)]
        exact X10_letsIn_48 _ _ _ _ _
      · rw [if_neg hs, kWhy_no hs]
  · rw [if_neg q] at eC
    refine mm_Pr.of eC ?_ hI
    rw [eR h n47, if_neg q]
    by_cases hs : 0 ≤ s ∧ s < 6
    · rw [if_pos hs]
    · rw [if_neg hs]
theorem iShr0 (x : Int) (hx : 0 ≤ x ∧ x ≤ 6) : iAnd (iShr 0 x) 1 = 0 := by
  have : x = 0 ∨ x = 1 ∨ x = 2 ∨ x = 3 ∨ x = 4 ∨ x = 5 ∨ x = 6 := by omega
  rcases this with rfl | rfl | rfl | rfl | rfl | rfl | rfl <;> decide +kernel
theorem cPat0 (g : mm_M) (k : Int) (hk : 0 ≤ k ∧ k < 4) (hn : mm_nok g) : cPat g 0 k = if cGo g k (g 11 54) then 1 else 0 := by
  obtain ⟨m1, m2, m3, m4⟩ := hn.2.2.2.2 k hk.1 hk.2
  unfold cPat
  rw [if_pos (iShr0 _ ⟨m3, m4⟩)]
theorem home_eq {g f : mm_M} {k : Int} (hk : 0 ≤ k ∧ k < 4) (ag : mm_AG g f) : rHome f k ↔ (g 11 (49 + k) < g 1 1 ∧ (0 ≤ g 11 (49 + k) ∧ g 11 (49 + k) < 7 → rLet (mm_tH (bh g (g 11 (49 + k))) (g 11 55)) (g 11 53) (g 11 54) (f 47 13) (g 11 (45 + k)) (kn g k)) ∧ (¬ (0 ≤ g 11 (49 + k) ∧ g 11 (49 + k) < 7) → rHome f k)) := by
  obtain ⟨g1, g2, g3, g4, g5, g6⟩ := ag
  obtain ⟨k1, k2, k3⟩ := g5 k hk.1 hk.2
  have ek : rKn f k = kn g k := by
    unfold rKn kn
    rw [k1, g4, g2, g3]
  unfold rHome
  rw [k3, k2, ek, g1, g2, g3]
  by_cases q : 0 ≤ g 11 (49 + k) ∧ g 11 (49 + k) < 7
  · rw [g6 _ q.1 q.2]
    constructor
    · intro w
      exact ⟨w.1, fun _ => w.2, fun z => absurd q z⟩
    · intro w
      exact ⟨w.1, w.2.1 q⟩
  · constructor
    · intro w
      exact ⟨w.1, fun z => absurd z q, fun _ => w⟩
    · intro w
      exact w.2.2 q
theorem home_cg {g f : mm_M} {k : Int} (hk : 0 ≤ k ∧ k < 4) (ag : mm_AG g f) (hn : mm_nok g) (e13 : f 47 13 = g 11 56) (hb : ∀ p : Int, 0 ≤ p → p < 7 → mm_bok (bh g p)) : rHome f k ↔ cGo g k (g 11 54) := by
  obtain ⟨n1, n2, n3, n4, n5⟩ := hn
  obtain ⟨m1, m2, m3, m4⟩ := n5 k hk.1 hk.2
  rw [home_eq hk ag, e13]
  have le := let_eq (b := bh g (g 11 (49 + k))) (a := g 11 55) (m := g 11 (45 + k)) (old := g 11 53) (e := g 11 54) (hd := g 11 56) (w := kn g k) (hb _ m3 (by omega)) n1 (by omega) n2.1
  constructor
  · intro w
    exact ⟨w.1, le.2 (w.2.1 ⟨m3, by omega⟩)⟩
  · intro w
    exact ⟨w.1, fun _ => le.1 w.2, fun z => absurd ⟨m3, by omega⟩ z⟩
theorem pat_eq {g f : mm_M} {k : Int} (hk : 0 ≤ k ∧ k < 4) (ag : mm_AG g f) (hn : mm_nok g) (e13 : f 47 13 = g 11 56) (hb : ∀ p : Int, 0 ≤ p → p < 7 → mm_bok (bh g p)) : rPat f k = cPat g 0 k := by
  rw [cPat0 g k hk hn]
  unfold rPat
  have e := home_cg hk ag hn e13 hb
  by_cases q : rHome f k
  · rw [if_pos q, if_pos (e.1 q)]
  · rw [if_neg q, if_neg (fun w => q (e.2 w))]
theorem p_patrol (h : mm_M) (s k : Int) (hI : mm_Inv h) : mm_Pr mX9_patrol mX10_patrol [vI s, vI k] h mm_Inv := by
  obtain ⟨n0, n7, n47, -⟩ := id hI.1
  have eR : ∀ x : mm_M, mm_call mX10_patrol [vR 47, vI s, vI k] x = if 0 ≤ s ∧ s < 6 then (if -1 ≤ k ∧ k < 4 then (mm_call mX10_layOr [vR 47, vI s] x).bind (fun w => mm_ev mX10_patrol 6 23 [some (vR 47), some (vI s), some (vI k), none] (w.1 ++ []) w.2) else some ([vI (-1)], x)) else some ([vI (-1)], x) := by
    intro x
    rw [X10_patrol_c, s_shelf, mm_be1]
    refine (X10_patrol_4 _ _ _ _).trans ?_
    by_cases hs : 0 ≤ s ∧ s < 6
    · rw [if_pos hs, if_neg (by decide), if_pos hs, s_in, mm_be1]
      refine (X10_patrol_13 _ _ _ _).trans ?_
      by_cases q : -1 ≤ k ∧ k < 4
      · rw [if_pos (show -1 ≤ k ∧ k ≤ 3 by omega), if_pos (by decide), if_pos q]
      · rw [if_neg (show ¬ (-1 ≤ k ∧ k ≤ 3) by omega), if_neg (fun w => w rfl), if_neg q]
    · rw [if_neg hs, if_pos rfl, if_neg hs]
  by_cases q : -1 ≤ k ∧ k < 4
  · have eC : mm_call mX9_patrol [vR 0, vI s, vI k] h = (mm_call mX9_layOut [vR 0, vI s] h).bind (fun w => mm_ev mX9_patrol 6 17 [some (vR 0), some (vI s), some (vI k), none] (w.1 ++ []) w.2) := by
      rw [X9_patrol_c, if_neg (by omega), if_pos (by omega)]
    by_cases hz : kWhy h s 0 = 0
    · obtain ⟨hs, -⟩ := kWhy0 hz
      obtain ⟨g, a1, -, a3, a4, a5, a6, a7, a8⟩ := mm_ctx h s hI hz
      obtain ⟨f, b1, b2, b3, b4, b5, b6, b7, b8, b9⟩ := a8 g mm_Sm.rf
      have ag := AG_of b3 b5.1 b8 b9
      have e13 : f 47 13 = g 11 56 := by rw [(N11 b5.1).1, b8]
      have eR := eR g
      rw [if_pos hs, if_pos q, b1, mm_be1] at eR
      have eR := eR.trans (X10_patrol_23 _ _ _ _)
      rw [if_pos (by decide)] at eR
      rw [a1, mm_be1] at eC
      have eC := eC.trans (X9_patrol_17 _ _ _ _)
      rw [if_pos rfl] at eC
      by_cases q2 : 0 ≤ k
      · have k4 : 0 ≤ k ∧ k < 4 := by omega
        rw [if_pos q2, s_isHome f k k4 b6 b7, mm_be1] at eR
        have eR := eR.trans (X10_patrol_48 _ _ _ _ _)
        rw [if_pos q2, c_new, mm_be1] at eC
        have eC := eC.trans (X9_patrol_61 _ _ _ _ _ _)
        rw [c_goesIn g k _ k4 a6 a7, mm_be1] at eC
        have eC := eC.trans (X9_patrol_64 _ _ _ _ _)
        have e := home_cg k4 ag a7 e13 a6
        by_cases w : rHome f k
        · rw [if_pos w, if_neg (by decide)] at eR
          rw [if_pos (e.1 w), if_neg (by decide)] at eC
          exact mm_Pr.of eC eR b5
        · rw [if_neg w, if_pos rfl] at eR
          rw [if_neg (fun z => w (e.2 z)), if_pos rfl] at eC
          exact mm_Pr.of eC eR b5
      · rw [if_neg q2, s_homeMany f b6 b7, mm_be1] at eR
        have eR := eR.trans (X10_patrol_39 _ _ _ _ _ _)
        rw [if_neg q2, c_patrolsIn g 0 a6 a7, mm_be1] at eC
        have eC := eC.trans (X9_patrol_41 _ _ _ _ _ _)
        rw [pat_eq (by decide) ag a7 e13 a6, pat_eq (by decide) ag a7 e13 a6, pat_eq (by decide) ag a7 e13 a6, pat_eq (by decide) ag a7 e13 a6] at eR
        exact mm_Pr.of eC eR b5
    · rw [lay_bad h s hz, mm_be1] at eC
      have eC := eC.trans (X9_patrol_17 _ _ _ _)
      rw [if_neg hz] at eC
      refine mm_Pr.of eC ?_ hI
      rw [eR h]
      by_cases hs : 0 ≤ s ∧ s < 6
      · have ng := kWhy_neg hz
        rw [if_pos hs, if_pos q, rlay_bad h s hI hs hz, mm_be1]
        refine (X10_patrol_23 _ _ _ _).trans ?_
        rw [if_neg (by omega)]
      · rw [if_neg hs, kWhy_no hs]
  · refine mm_Pr.of (v := vI (-1)) (h1 := h) (h2 := h) ?_ ?_ hI
    · rw [X9_patrol_c]
      by_cases q2 : k < -1
      · rw [if_pos q2]
      · rw [if_neg q2, if_neg (by omega)]
    · rw [eR h, if_neg q]
      by_cases hs : 0 ≤ s ∧ s < 6
      · rw [if_pos hs]
      · rw [if_neg hs]
