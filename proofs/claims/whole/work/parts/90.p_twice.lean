/-! twice: the pair -/
def tV (h : mm_M) (w : Int) (e : Int → Int) (n u : Int) : Int := prN (vRt h w e u) n.toNat
theorem c_best (h x : mm_M) (w : Int) (e : Int → Int) (n due : Int) (wt : mm_wt h x w e n) (n0 : 0 ≤ n ∧ n ≤ 6) (x4 : x 4 0 = n) (x23 : ∀ j : Int, 0 ≤ j → j < n → x 23 j = e j ∧ 0 ≤ e j ∧ e j < 7) : mm_call mX1_bestSet [vR 6, vR 4, vI due] x = some ([vI (if bsS (mkN e n.toNat) due (tV h w e n) 128 < 0 then 0 else bsS (mkN e n.toNat) due (tV h w e n) 128)], x) := by
  have L1 : ∀ (c : Nat) (k : Int), 0 ≤ k → k ≤ n → n - k ≤ c → mm_ev mX1_bestSet 3 5 [some (vR 6), some (vR 4), some (vI due), some (vI (mkN e k.toNat)), some (vI k), none, none, none] [] x = mm_ev mX1_bestSet 3 43 [some (vR 6), some (vR 4), some (vI due), some (vI (mkN e n.toNat)), some (vI 0), some (vL (-1)), none, some (vI 0)] [] x := by
    intro c
    induction c with
    | zero =>
      intro k k0 k1 kc
      rw [X1_bestSet_5, x4, if_pos (by omega), show k = n from by omega]
    | succ c ih =>
      intro k k0 k1 kc
      by_cases q : n ≤ k
      · rw [X1_bestSet_5, x4, if_pos q, show k = n from by omega]
      · have w4 : w32 (k + 1) = k + 1 := w32_id (by unfold mm_r32; omega)
        have e1 : iOr (mkN e k.toNat) (iShl 1 (e k)) = mkN e (k + 1).toNat := by
          rw [show (k + 1).toNat = k.toNat + 1 from by omega]
          show _ = iOr (mkN e k.toNat) (iShl 1 (e (k.toNat : Int)))
          rw [show (k.toNat : Int) = k from by omega]
        rw [X1_bestSet_5, x4, if_neg q, if_pos (by omega), (x23 k k0 (by omega)).1, e1, w4]
        exact ih (k + 1) (by omega) (by omega) (by omega)
  have L2 : ∀ (c : Nat) (k a b : Int), 0 ≤ k → k ≤ 128 → 128 - k ≤ c → (a = if bsS (mkN e n.toNat) due (tV h w e n) k.toNat < 0 then 0 else bsS (mkN e n.toNat) due (tV h w e n) k.toNat) → (b = if bsS (mkN e n.toNat) due (tV h w e n) k.toNat < 0 then -1 else tV h w e n (bsS (mkN e n.toNat) due (tV h w e n) k.toNat)) → mm_ev mX1_bestSet 3 43 [some (vR 6), some (vR 4), some (vI due), some (vI (mkN e n.toNat)), some (vI a), some (vL b), none, some (vI k)] [] x = some ([vI (if bsS (mkN e n.toNat) due (tV h w e n) 128 < 0 then 0 else bsS (mkN e n.toNat) due (tV h w e n) 128)], x) := by
    intro c
    induction c with
    | zero =>
      intro k a b k0 k1 kc ha hb
      have : k = 128 := by omega
      subst this
      rw [X1_bestSet_43, if_pos (by decide), ha]
      rfl
    | succ c ih =>
      intro k a b k0 k1 kc ha hb
      by_cases q : k = 128
      · subst q
        rw [X1_bestSet_43, if_pos (by decide), ha]
        rfl
      · have w4 : w32 (k + 1) = k + 1 := w32_id (by unfold mm_r32; omega)
        have sb := bsS_s (mkN e n.toNat) due (tV h w e n) k0
        have vb : 0 ≤ tV h w e n k := (prN_6 (A := vRt h w e k) n.toNat (by omega) (fun i i0 i1 => vRt_b _ _ _ _ _)).1
        have oA : mm_call mX1_ofAll [vR 6, vR 4, vI k] x = some ([vL (tV h w e n k)], x) := c_ofAll h x w e n k wt n0 x4 x23
        have nxt : ¬ (mm_cd (mkN e n.toNat) due k ∧ (bsS (mkN e n.toNat) due (tV h w e n) k.toNat < 0 ∨ tV h w e n (bsS (mkN e n.toNat) due (tV h w e n) k.toNat) < tV h w e n k)) → mm_ev mX1_bestSet 3 43 [some (vR 6), some (vR 4), some (vI due), some (vI (mkN e n.toNat)), some (vI a), some (vL b), none, some (vI (k + 1))] [] x = some ([vI (if bsS (mkN e n.toNat) due (tV h w e n) 128 < 0 then 0 else bsS (mkN e n.toNat) due (tV h w e n) 128)], x) := fun no => by
          rw [if_neg no] at sb
          exact ih (k + 1) a b (by omega) (by omega) (by omega) (by rw [sb]; exact ha) (by rw [sb]; exact hb)
        rw [X1_bestSet_43, if_neg (by omega), w4]
        by_cases q1 : iAnd k (iXor (mkN e n.toNat) (-1)) = 0
        · rw [if_neg (fun w => w q1), c_bitCount, mm_be1, X1_bestSet_65, w4]
          by_cases q2 : bcE k = due
          · rw [if_neg (fun w => w q2), oA, mm_be1, X1_bestSet_76, w4]
            by_cases q3 : tV h w e n k ≤ b
            · rw [if_pos (lCmp_le.2 q3)]
              refine nxt (fun no => ?_)
              by_cases z : bsS (mkN e n.toNat) due (tV h w e n) k.toNat < 0
              · rw [if_pos z] at hb
                omega
              · rw [if_neg z] at hb
                have := no.2
                omega
            · have ps : mm_cd (mkN e n.toNat) due k ∧ (bsS (mkN e n.toNat) due (tV h w e n) k.toNat < 0 ∨ tV h w e n (bsS (mkN e n.toNat) due (tV h w e n) k.toNat) < tV h w e n k) := by
                refine ⟨⟨q1, q2⟩, ?_⟩
                by_cases z : bsS (mkN e n.toNat) due (tV h w e n) k.toNat < 0
                · exact Or.inl z
                · rw [if_neg z] at hb
                  right
                  omega
              rw [if_pos ps] at sb
              rw [if_neg (fun w => q3 (lCmp_le.1 w)), oA, mm_be1, X1_bestSet_89, w4]
              exact ih (k + 1) _ _ (by omega) (by omega) (by omega) (by rw [sb, if_neg (by omega)]) (by rw [sb, if_neg (by omega)])
          · rw [if_pos q2]
            exact nxt (fun w => q2 w.1.2)
        · rw [if_pos q1]
          exact nxt (fun w => q1 w.1.1)
  rw [X1_bestSet_c]
  have t := L1 6 0 (by decide) n0.1 (by omega)
  exact t.trans (L2 128 0 0 (-1) (by decide) (by decide) (by decide) rfl rfl)
theorem s_cnt {f : mm_M} {e : Int → Int} {n P u : Int} (n0 : 0 ≤ n ∧ n ≤ 6) (R2 : f 47 35 = n) (R3 : ∀ j : Int, 0 ≤ j → j < n → f 68 j = e j) (fP : f 47 1 = P) (P7 : P ≤ 7) (hu : 0 ≤ u ∧ u < 128) (a1 a2 a3 a4 a5 : Int) : ∀ (c : Nat) (p : Int), 0 ≤ p → p ≤ P → P - p ≤ c → mm_ev mX10_twice 7 79 [some (vR 47), some (vI a1), some (vI a2), some (vI a3), some (vI a4), some (vI a5), some (vI u), some (vI (rmN e n u p.toNat)), some (vI p)] [] f = mm_ev mX10_twice 7 79 [some (vR 47), some (vI a1), some (vI a2), some (vI a3), some (vI a4), some (vI a5), some (vI u), some (vI (rmN e n u P.toNat)), some (vI P)] [] f := by
  intro c
  induction c with
  | zero => intro p p0 p1 pc; rw [show p = P from by omega]
  | succ c ih =>
    intro p p0 p1 pc
    by_cases q : p = P
    · rw [q]
    · have w4 : w32 (p + 1) = p + 1 := w32_id (by unfold mm_r32; omega)
      have rb := rm_b e n u p.toNat
      have rs := rm_s e n u p0
      have t := (tb_s (u := u) (p := p) (q := p) hu ⟨p0, by omega⟩ ⟨p0, by omega⟩).2.2
      have ih := ih (p + 1) (by omega) (by omega) (by omega)
      rw [X10_twice_79, fP, if_neg (by omega)]
      by_cases z : tb u p = 1
      · rw [if_neg (show ¬ ¬ iAnd (iShr u p) 1 = 1 from fun w => w z)]
        rw [if_pos z] at rs
        rcases s_placeOf f p (by omega) (by omega) with ⟨j, j0, j1, ej, cj, _⟩ | ⟨nj, cj⟩
        · have F : 0 ≤ fj e p n.toNat := by
            rcases fj_s e p n.toNat with ⟨a, _⟩ | ⟨_, b⟩
            · exact a
            · exact absurd ((R3 j j0 (by omega)).symm.trans ej) (b j j0 (by omega))
          rw [if_pos F] at rs
          rw [cj, mm_be1, X10_twice_107, if_neg (by omega), w4, w32_id (x := rmN e n u p.toNat + 1) (by unfold mm_r32; omega), ← rs]
          exact ih
        · have F : ¬ 0 ≤ fj e p n.toNat := fun F => by
            rcases fj_s e p n.toNat with ⟨_, b, c⟩ | ⟨a, _⟩
            · have b' : fj e p n.toNat < n := by omega
              exact nj _ F (by omega) ((R3 _ F b').trans c)
            · omega
          rw [if_neg F] at rs
          rw [cj, mm_be1, X10_twice_107, if_pos (by decide), w4, w32_id (x := rmN e n u p.toNat + 8) (by unfold mm_r32; omega), ← rs]
          exact ih
      · rw [if_pos (show ¬ iAnd (iShr u p) 1 = 1 from z), w4]
        rw [if_neg z, Int.add_zero] at rs
        rw [← rs]
        exact ih
theorem s_best (h f : mm_M) (hI : mm_Inv h) (w : Int) (e : Int → Int) (n P due : Int) (hw : 0 ≤ w ∧ w < 10) (n0 : 0 ≤ n ∧ n ≤ 6) (P0 : 0 ≤ P ∧ P ≤ 7) (he : ∀ j : Int, 0 ≤ j → j < n → 0 ≤ e j ∧ e j < P) (fP : f 47 1 = P) (R : mm_rr h f w e n) (d0 : 0 ≤ due ∧ due ≤ 6) (a1 a2 a3 : Int) : ∃ (y : mm_M) (a6 : Int) (o7 o8 : Option mm_V), mm_ev mX10_twice 7 62 [some (vR 47), some (vI a1), some (vI a2), some (vI a3), some (vI due), some (vI (-1)), some (vI 0), none, none] [] f = mm_ev mX10_twice 7 171 [some (vR 47), some (vI a1), some (vI a2), some (vI a3), some (vI due), some (vI (if bsS (mkN e n.toNat) due (tV h w e n) 128 < 0 then 0 else bsS (mkN e n.toNat) due (tV h w e n) 128)), some (vI a6), o7, o8] [] y ∧ mm_rx f y := by
  have sh := iShl_n P0
  have he7 : ∀ j : Int, 0 ≤ j → j < n → 0 ≤ e j ∧ e j < 7 := fun j j0 j1 => by
    have := he j j0 j1
    omega
  have hN : ∃ N, N = iShl 1 P := ⟨_, rfl⟩
  obtain ⟨N, hN⟩ := hN
  rw [← hN] at sh
  have top : bsS (mkN e n.toNat) due (tV h w e n) 128 = bsS (mkN e n.toNat) due (tV h w e n) N.toNat := by
    have t := bsS_up (mkN e n.toNat) due (tV h w e n) N.toNat (128 - N).toNat (fun u u0 u1 no => by
      have hu : 0 ≤ u ∧ u < 128 := by omega
      have mb := mkN_b he7 n.toNat (by omega)
      have lt := tb_lts hu P0 (fun q q0 q7 => by
        have t01 := (tb_s (u := u) (p := q) (q := q) hu ⟨by omega, q7⟩ ⟨by omega, q7⟩).2.2
        rcases t01 with t | t
        · exact t
        · have m1 := (tb_subs hu mb.1).1 no.1 q (by omega) q7 t
          obtain ⟨i, i0, i1, ei⟩ := (mb.2 q (by omega) q7).1 m1
          have := he i i0 (by omega)
          omega)
      rw [← hN] at lt
      omega)
    rw [show N.toNat + (128 - N).toNat = 128 from by omega] at t
    exact t
  have LL : ∀ (c : Nat) (k : Int) (o7 o8 : Option mm_V) (y : mm_M), 0 ≤ k → k ≤ N → N - k ≤ c → mm_rx f y → ∃ (z : mm_M) (a6 : Int) (p7 p8 : Option mm_V), mm_ev mX10_twice 7 62 [some (vR 47), some (vI a1), some (vI a2), some (vI a3), some (vI due), some (vI (bsS (mkN e n.toNat) due (tV h w e n) k.toNat)), some (vI k), o7, o8] [] y = mm_ev mX10_twice 7 171 [some (vR 47), some (vI a1), some (vI a2), some (vI a3), some (vI due), some (vI (if bsS (mkN e n.toNat) due (tV h w e n) 128 < 0 then 0 else bsS (mkN e n.toNat) due (tV h w e n) 128)), some (vI a6), p7, p8] [] z ∧ mm_rx f z := by
    intro c
    have fin : ∀ (k : Int) (o7 o8 : Option mm_V) (y : mm_M), k = N → mm_rx f y → ∃ (z : mm_M) (a6 : Int) (p7 p8 : Option mm_V), mm_ev mX10_twice 7 62 [some (vR 47), some (vI a1), some (vI a2), some (vI a3), some (vI due), some (vI (bsS (mkN e n.toNat) due (tV h w e n) k.toNat)), some (vI k), o7, o8] [] y = mm_ev mX10_twice 7 171 [some (vR 47), some (vI a1), some (vI a2), some (vI a3), some (vI due), some (vI (if bsS (mkN e n.toNat) due (tV h w e n) 128 < 0 then 0 else bsS (mkN e n.toNat) due (tV h w e n) 128)), some (vI a6), p7, p8] [] z ∧ mm_rx f z := by
      intro k o7 o8 y ek fy
      refine ⟨y, k, o7, o8, ?_, fy⟩
      have yP : y 47 1 = P := (fy.Sm 47 1 (by unfold mm_sc; omega)).trans fP
      rw [X10_twice_62, yP, ← hN, if_pos (show N ≤ k by omega), top, ek]
      by_cases q : bsS (mkN e n.toNat) due (tV h w e n) N.toNat < 0
      · rw [if_neg (by omega), if_pos q]
      · rw [if_pos (by omega), if_neg q]
    induction c with
    | zero =>
      intro k o7 o8 y k0 kN kc fy
      exact fin k o7 o8 y (by omega) fy
    | succ c ih =>
      intro k o7 o8 y k0 kN kc fy
      by_cases q : k = N
      · exact fin k o7 o8 y q fy
      · have yP : y 47 1 = P := (fy.Sm 47 1 (by unfold mm_sc; omega)).trans fP
        have Ry := R.fr fy
        have hk : 0 ≤ k ∧ k < 128 := by omega
        have w4 : w32 (k + 1) = k + 1 := w32_id (by unfold mm_r32; omega)
        have hz : ∀ q : Int, P ≤ q → q < 7 → tb k q = 0 := fun q q0 q7 => tb_ges hk P0 (by omega) q q0 q7
        have cd := rm_cd (due := due) hk n0 P0.2 P0.1 d0.2 he hz
        have sb := bsS_s (mkN e n.toNat) due (tV h w e n) k0
        have bb := bsS_b (mkN e n.toNat) due (tV h w e n) k.toNat
        have st := s_cnt (u := k) n0 Ry.2.1 Ry.2.2 yP P0.2 hk a1 a2 a3 due (bsS (mkN e n.toNat) due (tV h w e n) k.toNat) 7 0 (by decide) P0.1 (by omega)
        rw [X10_twice_62, yP, ← hN, if_neg (show ¬ N ≤ k by omega)]
        have st : mm_ev mX10_twice 7 79 [some (vR 47), some (vI a1), some (vI a2), some (vI a3), some (vI due), some (vI (bsS (mkN e n.toNat) due (tV h w e n) k.toNat)), some (vI k), some (vI 0), some (vI 0)] [] y = _ := st
        rw [st, X10_twice_79, yP, if_pos (Int.le_refl P), w4]
        by_cases q1 : rmN e n k P.toNat = due
        · rw [if_neg (fun w => w q1)]
          have cd := cd.1 q1
          by_cases q2 : bsS (mkN e n.toNat) due (tV h w e n) k.toNat < 0
          · rw [if_pos ⟨cd, Or.inl q2⟩] at sb
            rw [if_pos q2]
            have t := ih (k + 1) (some (vI (rmN e n k P.toNat))) (some (vI P)) y (by omega) (by omega) (by omega) fy
            rw [sb] at t
            exact t
          · rw [if_neg q2]
            obtain ⟨y1, c1, r1⟩ := s_rightAll h hI w e n k hw n0 he7 hk y Ry
            obtain ⟨y2, c2, r2⟩ := s_rightAll h hI w e n (bsS (mkN e n.toNat) due (tV h w e n) k.toNat) hw n0 he7 (by omega) y1 (Ry.fr r1)
            have fy2 := (fy.tr r1).tr r2
            have c1 : mm_call mX10_rightAll [vR 47, vI k] y = some ([vL (tV h w e n k)], y1) := c1
            have c2 : mm_call mX10_rightAll [vR 47, vI (bsS (mkN e n.toNat) due (tV h w e n) k.toNat)] y1 = some ([vL (tV h w e n (bsS (mkN e n.toNat) due (tV h w e n) k.toNat))], y2) := c2
            rw [c1, mm_be1, X10_twice_143, c2, mm_be1, X10_twice_149, w4]
            by_cases q3 : tV h w e n k ≤ tV h w e n (bsS (mkN e n.toNat) due (tV h w e n) k.toNat)
            · rw [if_neg (fun w => by have := w.2; omega)] at sb
              rw [if_pos (lCmp_le.2 q3), ← sb]
              exact ih (k + 1) _ _ y2 (by omega) (by omega) (by omega) fy2
            · rw [if_pos ⟨cd, Or.inr (by omega)⟩] at sb
              rw [if_neg (fun w => q3 (lCmp_le.1 w))]
              have t := ih (k + 1) (some (vI (rmN e n k P.toNat))) (some (vI P)) y2 (by omega) (by omega) (by omega) fy2
              rw [sb] at t
              exact t
        · rw [if_pos q1]
          rw [if_neg (fun w => q1 (cd.2 w.1))] at sb
          rw [← sb]
          exact ih (k + 1) _ _ y (by omega) (by omega) (by omega) fy
  exact LL 128 0 none none f (by decide) (by omega) (by omega) mm_rx.rf
theorem p_twice (h : mm_M) (s k pt : Int) (hI : mm_Inv h) : mm_Pr mX9_twice mX10_twice [vI s, vI k, vI pt] h mm_Inv := by
  obtain ⟨n0, n7, n47, -⟩ := id hI.1
  have eC : mm_call mX9_twice [vR 0, vI s, vI k, vI pt] h = if (0 ≤ k ∧ k ≤ 6) ∧ 0 ≤ pt ∧ pt ≤ 2 then (mm_call mX9_layOut [vR 0, vI s] h).bind (fun z => mm_ev mX9_twice 6 24 [some (vR 0), some (vI s), some (vI k), some (vI pt), none] (z.1 ++ []) z.2) else some ([vL (-9223372036854775808)], h) := by
    rw [X9_twice_c]
    by_cases q1 : k < 0
    · rw [if_pos q1, if_neg (by omega)]
    · rw [if_neg q1]
      by_cases q2 : 6 < k
      · rw [if_pos q2, if_neg (by omega)]
      · rw [if_neg q2]
        by_cases q3 : pt < 0
        · rw [if_pos q3, if_neg (by omega)]
        · rw [if_neg q3]
          by_cases q4 : 2 < pt
          · rw [if_pos q4, if_neg (by omega)]
          · rw [if_neg q4, if_pos (by omega)]
  have eR : ∀ x : mm_M, mm_call mX10_twice [vR 47, vI s, vI k, vI pt] x = if (0 ≤ s ∧ s < 6) ∧ (0 ≤ k ∧ k ≤ 6) ∧ 0 ≤ pt ∧ pt ≤ 2 then (mm_call mX10_layOr [vR 47, vI s] x).bind (fun z => mm_ev mX10_twice 7 31 [some (vR 47), some (vI s), some (vI k), some (vI pt), none, none, none, none, none] (z.1 ++ []) z.2) else some ([vL (-9223372036854775808)], x) := by
    intro x
    rw [X10_twice_c, s_shelf, mm_be1, X10_twice_4]
    by_cases hs : 0 ≤ s ∧ s < 6
    · rw [if_pos hs, if_neg (by decide), s_in, mm_be1, X10_twice_14]
      by_cases q2 : 0 ≤ k ∧ k ≤ 6
      · rw [if_pos q2, if_neg (by decide), s_in, mm_be1, X10_twice_23]
        by_cases q3 : 0 ≤ pt ∧ pt ≤ 2
        · rw [if_pos q3, if_neg (by decide), if_pos ⟨hs, q2, q3⟩]
        · rw [if_neg q3, if_pos rfl, if_neg (fun w => q3 w.2.2)]
      · rw [if_neg q2, if_pos rfl, if_neg (fun w => q2 w.2.1)]
    · rw [if_neg hs, if_pos rfl, if_neg (fun w => hs w.1)]
  by_cases q : (0 ≤ k ∧ k ≤ 6) ∧ 0 ≤ pt ∧ pt ≤ 2
  · rw [if_pos q] at eC
    by_cases hz : kWhy h s 0 = 0
    · obtain ⟨hs, -⟩ := kWhy0 hz
      obtain ⟨g, a1, -, W, a4, a5, a6, a7, a8⟩ := mm_ctx h s hI hz
      have n9 := (N9 hI.1).2
      obtain ⟨x, x1, wt, xf⟩ := c_weigh h g hI a4 W (h 11 54) (by omega)
      have g54 : g 11 54 = h 11 54 := a4 11 54 (by unfold mm_sc; omega)
      obtain ⟨f, b1, -, L, b4, b5, -, -, -, -⟩ := a8 x xf.Sm
      have fS := (a4.tr xf.Sm).tr b4
      have R := rr_of hI fS L
      have W0 := W.1
      have W6 := W.2.1
      have g11 : g 1 1 = h 1 1 := a4 1 1 (by unfold mm_sc; omega)
      have f47 : f 47 1 = h 1 1 := (fS 47 1 (by unfold mm_sc; omega)).trans n47
      have evP : ∀ j : Int, 0 ≤ j → j < g 4 0 → 0 ≤ g 23 j ∧ g 23 j < h 1 1 := fun j j0 j1 => by
        have := (W.2.2.1 j j0 j1).1
        omega
      have ev : ∀ j : Int, 0 ≤ j → j < g 4 0 → 0 ≤ g 23 j ∧ g 23 j < 7 := fun j j0 j1 => by
        have := evP j j0 j1
        omega
      have x4 : x 4 0 = g 4 0 := xf 4 0 (by decide) (by decide) (by decide) (by decide) (by decide)
      have x23 : ∀ j : Int, 0 ≤ j → j < g 4 0 → x 23 j = g 23 j ∧ 0 ≤ g 23 j ∧ g 23 j < 7 := fun j j0 j1 => ⟨xf 23 j (by decide) (by decide) (by decide) (by decide) (by omega), ev j j0 j1⟩
      have hd : ∃ due : Int, due = (if g 4 0 < k then g 4 0 else k) := ⟨_, rfl⟩
      obtain ⟨due, hd⟩ := hd
      have d6 : 0 ≤ due ∧ due ≤ 6 := by
        rw [hd]
        split <;> omega
      have hB : ∃ B : Int, B = (if bsS (mkN (g 23) (g 4 0).toNat) due (tV h (h 11 54) (g 23) (g 4 0)) 128 < 0 then 0 else bsS (mkN (g 23) (g 4 0).toNat) due (tV h (h 11 54) (g 23) (g 4 0)) 128) := ⟨_, rfl⟩
      obtain ⟨B, hB⟩ := hB
      have B7 : 0 ≤ B ∧ B < 128 := by
        have bb := bsS_b (mkN (g 23) (g 4 0).toNat) due (tV h (h 11 54) (g 23) (g 4 0)) 128
        rw [hB]
        split <;> omega
      have cb := c_best h x (h 11 54) (g 23) (g 4 0) due wt ⟨W0, W6⟩ x4 x23
      rw [← hB] at cb
      rw [a1, mm_be1, X9_twice_24, if_pos rfl, c_new, mm_be1, X9_twice_56, g54, x1, mm_be0, X9_twice_59, x4, ← hd, cb, mm_be1, X9_twice_81] at eC
      obtain ⟨y, a6', o7, o8, sb, fy⟩ := s_best h f hI (h 11 54) (g 23) (g 4 0) (h 1 1) due (by omega) ⟨W0, W6⟩ ⟨by omega, n7⟩ evP f47 R d6 s k pt
      rw [← hB] at sb
      have Ry := R.fr fy
      have yS := fS.tr fy.Sm
      have eR := eR x
      rw [if_pos ⟨hs, q⟩, b1, mm_be1, X10_twice_31, if_pos (by decide), R.2.1] at eR
      have eR : mm_call mX10_twice [vR 47, vI s, vI k, vI pt] x = mm_ev mX10_twice 7 171 [some (vR 47), some (vI s), some (vI k), some (vI pt), some (vI due), some (vI B), some (vI a6'), o7, o8] [] y := by
        rw [eR, ← sb]
        by_cases z : g 4 0 ≤ k
        · rw [if_pos z, hd]
          by_cases z2 : g 4 0 < k
          · rw [if_pos z2]
          · rw [if_neg z2, show k = g 4 0 from by omega]
        · rw [if_neg z, hd, if_neg (by omega)]
      rw [X10_twice_171] at eR
      by_cases p2 : pt = 2
      · rw [if_neg (fun w => w p2), X9_twice_122] at eC
        rw [if_neg (fun w => w p2), X10_twice_196] at eR
        exact mm_Pr.of eC eR (mm_Inv_Sm yS hI)
      · rw [if_pos p2, c_ofAll h x _ _ (g 4 0) B wt ⟨W0, W6⟩ x4 x23, mm_be1, X9_twice_107, c_below x (g 4 0) ⟨W0, W6⟩ x4, mm_be1, X9_twice_118] at eC
        obtain ⟨f', d1, d2⟩ := s_rightAll h hI (h 11 54) (g 23) (g 4 0) B (by omega) ⟨W0, W6⟩ ev B7 y Ry
        have pb := prN_6 (A := vRt h (h 11 54) (g 23) B) (g 4 0).toNat (by omega) (fun i i0 i1 => vRt_b _ _ _ _ _)
        have p4 := prN_144 (g 4 0).toNat (by omega)
        obtain ⟨v, v1, v2⟩ := part_both (prN (vRt h (h 11 54) (g 23) B) (g 4 0).toNat) (prN (fun _ => 144) (g 4 0).toNat) pt pb.1 p4.1 p4.2
        rw [v1, mm_be1, X9_twice_122] at eC
        rw [if_pos p2, d1, mm_be1, X10_twice_188, s_ofAll f' (g 4 0) ⟨W0, W6⟩ ((Ry.fr d2).2.1), mm_be1, X10_twice_192, v2, mm_be1, X10_twice_196] at eR
        exact mm_Pr.of eC eR (mm_Inv_Sm (yS.tr d2.Sm) hI)
    · rw [lay_bad h s hz, mm_be1, X9_twice_24, if_neg hz] at eC
      refine mm_Pr.of eC ?_ hI
      rw [eR h]
      by_cases hs : 0 ≤ s ∧ s < 6
      · have ng := kWhy_neg hz
        rw [if_pos ⟨hs, q⟩, rlay_bad h s hI hs hz, mm_be1, X10_twice_31, if_neg (by omega)]
      · rw [if_neg (fun w => hs w.1)]
  · rw [if_neg q] at eC
    refine mm_Pr.of eC ?_ hI
    rw [eR h, if_neg (fun w => q w.2)]
