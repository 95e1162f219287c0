/-! which: the call -/
theorem s_digits (f : mm_M) (s w N : Int) (N0 : 0 ≤ N) (N6 : N ≤ 6) (hn : f 47 1 = N + 1 ∨ (f 47 1 = 0 ∧ N = 0)) : mm_ev mX10_which 42 54 [some (vR 47), some (vI s), some (vI w), some (vI 0), some (vI 0)] [] f = some ([vI (if f 47 39 = 0 then -2 else dgw (f 70) N.toNat)], f) := by
  have w1 : w32 (f 47 1 - 1) = f 47 1 - 1 := w32_id (by unfold mm_r32; omega)
  have L : ∀ (m : Nat) (k a : Int), 0 ≤ k → k ≤ N → N - k ≤ m → a = dgw (f 70) k.toNat → mm_ev mX10_which 42 54 [some (vR 47), some (vI s), some (vI w), some (vI a), some (vI k)] [] f = some ([vI (if f 47 39 = 0 then -2 else dgw (f 70) N.toNat)], f) := by
    intro m
    have fin : ∀ (k a : Int), k = N → a = dgw (f 70) k.toNat → mm_ev mX10_which 42 54 [some (vR 47), some (vI s), some (vI w), some (vI a), some (vI k)] [] f = some ([vI (if f 47 39 = 0 then -2 else dgw (f 70) N.toNat)], f) := by
      intro k a ek ea
      subst ek
      rw [X10_which_54, w1, if_pos (by omega), ea]
      by_cases q : f 47 39 = 0
      · rw [if_neg (fun z => z q), if_pos q]
      · rw [if_pos q, if_neg q]
    induction m with
    | zero =>
      intro k a k0 k1 km ea
      exact fin k a (by omega) ea
    | succ m ih =>
      intro k a k0 k1 km ea
      by_cases q : N ≤ k
      · exact fin k a (by omega) ea
      · have w4 : w32 (k + 1) = k + 1 := w32_id (by unfold mm_r32; omega)
        rw [X10_which_54, w1, if_neg (by omega), if_pos (by omega), w4]
        refine ih (k + 1) _ (by omega) (by omega) (by omega) ?_
        rw [dgw_s k0, ea, Int.mul_comm]
  exact L 6 0 0 (by omega) N0 (by omega) rfl
theorem p_which (h : mm_M) (s a : Int) (hI : mm_Inv h) : mm_Pr mX9_which mX10_which [vI s, vI a] h mm_Inv := by
  obtain ⟨n0, n7, n47, -⟩ := id hI.1
  have hx : ∃ N, N = (if 0 < h 1 1 - 1 then h 1 1 - 1 else 0) := ⟨_, rfl⟩
  obtain ⟨N, hN⟩ := hx
  have N0 : 0 ≤ N := by rw [hN]; split <;> omega
  have N6 : N ≤ 6 := by rw [hN]; split <;> omega
  have hN2 : h 1 1 = N + 1 ∨ (h 1 1 = 0 ∧ N = 0) := by rw [hN]; split <;> omega
  have eR : ∀ x : mm_M, mm_Sm h x → mm_call mX10_which [vR 47, vI s, vI a] x = if 0 ≤ s ∧ s < 6 then (if 0 ≤ a ∧ a ≤ 1 then (if 0 ≤ kWhy h s 1 then (mm_call mX10_findRoutes [vR 47, vI 2, vI s] x).bind (fun z => mm_ev mX10_which 42 40 [some (vR 47), some (vI s), some (vI a), none, none] (z.1 ++ []) z.2) else some ([vI (kWhy h s 1)], x)) else some ([vI (-1)], x)) else some ([vI (-1)], x) := by
    intro x hx
    have xI := mm_Inv_Sm hx hI
    rw [X10_which_c, s_shelf, mm_be1, X10_which_4]
    by_cases hs : 0 ≤ s ∧ s < 6
    · rw [if_pos hs, if_neg (by decide), if_pos hs, s_in, mm_be1, X10_which_13]
      by_cases q : 0 ≤ a ∧ a ≤ 1
      · rw [if_pos q, if_pos (by decide), if_pos q, s_rowFault x s 1 hs (by decide) xI.2.2.2.2.2.1, mm_be1, X10_which_24, kWhy_Sm hx]
        by_cases q2 : 0 ≤ kWhy h s 1
        · rw [if_pos q2, if_pos q2]
        · rw [if_neg q2, if_neg q2, s_rowFault x s 1 hs (by decide) xI.2.2.2.2.2.1, mm_be1, X10_which_33, kWhy_Sm hx]
      · rw [if_neg q, if_neg (fun w => w rfl), if_neg q]
    · rw [if_neg hs, if_pos rfl, if_neg hs]
  by_cases ha : 0 ≤ a ∧ a ≤ 1
  · have eC : mm_call mX9_which [vR 0, vI s, vI a] h = mm_ev mX9_which 22 20 [some (vR 0), some (vI s), some (vI a), none] [vI (kWhy h s 1)] h := by
      rw [X9_which_c, if_neg (by omega), if_pos (by omega), c_refusal, mm_be1]
    by_cases hz : kWhy h s 1 = 0
    · obtain ⟨hs, hk⟩ := kWhy0 hz
      have shh := mm_sh.of hI.2.2.2.2.2.1 hs (hk (by decide))
      have nk := mm_nok.of hI.1
      obtain ⟨y, b, y1, y2, y3⟩ := c_sread h s (h 11 54) shh nk n0
      have yS : mm_Sm h y := fun c i w => y2 c i (fun q => w (by unfold mm_sc; omega)) (fun q => w (by unfold mm_sc; omega))
      have hD : mm_D (wDi h) := (search_0 hI mm_Sm.rf mm_Sm.rf).2.2
      -- what the reference's search starts from
      have e0 : ∃ e : Int → Int, e = fun _ => 0 := ⟨_, rfl⟩
      obtain ⟨e, _⟩ := e0
      have p0 := pre_0 e N N0
      have rS : ∀ x : mm_M, mm_Sm h x → mm_rS (mUp (mUp (mUp x 47 35 0) 47 38 (-1)) 47 39 0) (wDi h) e N 0 ∧ mm_Sm h (mUp (mUp (mUp x 47 35 0) 47 38 (-1)) 47 39 0) := fun x hx => by
        have xI := mm_Inv_Sm hx hI
        have n10 := N10 xI.1
        obtain ⟨d1, -, -⟩ := search_0 hI hx hx
        have ex : ∀ c, c ≠ 47 → (mUp (mUp (mUp x 47 35 0) 47 38 (-1)) 47 39 0) c = x c := fun c hc => by rw [mUp_ne hc, mUp_ne hc, mUp_ne hc]
        have e12 : (mUp (mUp (mUp x 47 35 0) 47 38 (-1)) 47 39 0) 47 12 = x 47 12 := by rw [mUp_nei (by decide), mUp_nei (by decide), mUp_nei (by decide)]
        have e1 : (mUp (mUp (mUp x 47 35 0) 47 38 (-1)) 47 39 0) 47 1 = x 47 1 := by rw [mUp_nei (by decide), mUp_nei (by decide), mUp_nei (by decide)]
        refine ⟨⟨by rw [mUp_nei (by decide), mUp_nei (by decide), mUp_self], fun j j0 j1 => by omega, by rw [e12]; omega, fun i i0 i1 => by rw [ex 48 (by decide), ex 49 (by decide)]; exact N_rxy xI.1 i i0 i1, fun p q p0 p7 q0 q7 => ?_, ?_⟩, ((hx.up (by unfold mm_sc; omega)).up (by unfold mm_sc; omega)).up (by unfold mm_sc; omega)⟩
        · rw [← d1 p q p0 p7 q0 q7]
          unfold rDi
          rw [ex 48 (by decide), ex 49 (by decide)]
        · rw [e1, xI.1.2.2.1, hx 1 1 (by unfold mm_sc; omega)]
          exact hN2
      have find : ∀ (x f' : mm_M), mm_call mX10_goRoutes [vR 47, vI 0, vI 2, vI s] (mUp (mUp (mUp x 47 35 0) 47 38 (-1)) 47 39 0) = some ([], f') → mm_call mX10_findRoutes [vR 47, vI 2, vI s] x = some ([], f') := fun x f' w => by
        have e35 : (mUp (mUp (mUp x 47 35 0) 47 38 (-1)) 47 39 0) 47 35 = 0 := by rw [mUp_nei (by decide), mUp_nei (by decide), mUp_self]
        rw [X10_findRoutes_c, e35, if_pos (by decide), w, mm_be0, X10_findRoutes_22]
      have ans : ∀ (x f' : mm_M), mm_Sm h x → mm_call mX10_findRoutes [vR 47, vI 2, vI s] x = some ([], f') → mm_Sm h f' → mm_call mX10_which [vR 47, vI s, vI a] x = some ([vI (if a = 0 then f' 47 39 else if f' 47 39 = 0 then -2 else dgw (f' 70) N.toNat)], f') := fun x f' hx w hf => by
        have f1 : f' 47 1 = h 1 1 := by rw [hf 47 1 (by unfold mm_sc; omega)]; exact n47
        rw [eR x hx, if_pos hs, if_pos ha, hz, if_pos (by decide), w, mm_be0, X10_which_40]
        by_cases q : a = 0
        · rw [if_neg (fun z => z q), if_pos q]
        · rw [if_pos q, if_neg q, s_digits f' s a N N0 N6 (by omega)]
      -- nothing is so by any way
      have none' : (∀ (e' : Int → Int) (u' : Int), mm_pfx e' N N u' → ¬ mm_Gd h s (wDi h) e' N) → ∀ x : mm_M, mm_Sm h x → ∃ f', mm_call mX10_which [vR 47, vI s, vI a] x = some ([vI (if a = 0 then 0 else -2)], f') ∧ mm_Inv f' := fun no x hx => by
        obtain ⟨r1, r2⟩ := rS x hx
        obtain ⟨f', c1, c2, c3, c4⟩ := L_wno h hI s shh (wDi h) hD N N6 7 0 0 e _ (by omega) p0 r1 r2 (fun e' u' z _ => no e' u' z)
        have fS := r2.tr c2.Sm
        have f39 : f' 47 39 = 0 := by rw [c3, mUp_self]
        refine ⟨f', ?_, mm_Inv_Sm fS hI⟩
        rw [ans x f' hx (find x f' c1) fS, f39, if_pos rfl]
      rw [X9_which_20, hz, if_pos rfl, c_new, mm_be1, X9_which_49, y1, mm_be1, X9_which_52] at eC
      rcases y3 with ⟨b0, nr⟩ | ⟨b1, rd, ft⟩
      · rw [if_neg (fun w => w b0)] at eC
        have eC2 : mm_call mX9_which [vR 0, vI s, vI a] h = some ([vI (if a = 0 then 0 else -2)], y) := by
          rw [eC]
          by_cases q : a = 0
          · rw [if_neg (fun z => z q), if_pos q]
          · rw [if_pos q, if_neg q]
        obtain ⟨f', c1, c2⟩ := none' (fun e' u' z G => by
          have t := (said_all (g := h) (y := y) (B := pB (wDi h) e' N) shh nk (Or.inl ⟨b0, nr⟩) nk.1 (fun p _ _ => pB_ok N6 hD (fun i i0 i1 => by have := z.2.2.1 i i0 i1; omega))).1 G
          omega) y yS
        exact mm_Pr.of eC2 c1 c2
      · have sa := fun (e' : Int → Int) (u' : Int) (z : mm_pfx e' N N u') => said_all (g := h) (y := y) (B := pB (wDi h) e' N) shh nk (Or.inr ⟨b1, rd, ft⟩) nk.1 (fun p _ _ => pB_ok N6 hD (fun i i0 i1 => by have := z.2.2.1 i i0 i1; omega))
        have n1 := nk.1
        -- with no posts nothing can have been said
        have s0 : h 1 1 = 0 → y 32 0 ≤ h 11 55 ∧ h 11 55 ≤ y 33 0 := fun w => by
          have z0 := shh.2.2.1
          have zz : h 20 s = 0 := by
            apply Classical.byContradiction
            intro q
            have := (rd 0 (by omega) (by omega)).2.1.1
            omega
          have F := ((ft 0 (by omega)).2 0 (by omega) (by omega)).2.2 (h 11 55) (by omega) (by omega)
          exact F.2 (fun k k0 k1 => by omega)
        have fit : mm_fit h y s (wDi h) N := fun e' u' z => by
          have t := sa e' u' z
          have cB : ∀ j : Int, 0 ≤ j → j < N → cT (pB (wDi h) e' N (e' j)) (h 11 55) = h 11 55 + ar (wDi h) e' j := fun j j0 j1 => by
            have ab := ar_pb hD N6 z j0 j1
            rw [pB_in (fun i i0 i1 => by have := z.2.2.1 i i0 i1; omega) z.2.2.2.1 j0 j1, cT2 (by omega)]
          have c0 : cT (pB (wDi h) e' N 0) (h 11 55) = h 11 55 := by
            rw [pB0, cT2 (by decide)]
            omega
          constructor
          · intro G
            have w := (t.1 G).2
            refine ⟨?_, fun j j0 j1 => ?_⟩
            · by_cases q : h 1 1 = 0
              · exact s0 q
              · have := w 0 (by omega) (by omega)
                rw [c0] at this
                exact this
            · have v := z.2.2.1 j j0 j1
              have := w (e' j) (by omega) (by omega)
              rw [cB j j0 j1] at this
              exact this
          · intro w
            refine t.2 ⟨b1, fun p q0 q1 => ?_⟩
            by_cases q : p = 0
            · rw [q, c0]
              exact w.1
            · obtain ⟨j, j0, j1, ej⟩ := pfx_all z (show 1 ≤ p by omega) (by omega)
              rw [← ej, cB j j0 j1]
              exact w.2 j j0 j1
        have hb1 : ∀ c i, ¬ c = 8 → (mUp (mUp y 8 2 0) 8 3 (-2)) c i = y c i := fun c i q => by rw [mUp_ne q, mUp_ne q]
        have y11 : ∀ i, y 11 i = h 11 i := fun i => yS 11 i (by unfold mm_sc; omega)
        have y1' : y 1 1 = h 1 1 := yS 1 1 (by unfold mm_sc; omega)
        obtain ⟨v, v1, v2, v3, v4⟩ := c_measure (mUp (mUp y 8 2 0) 8 3 (-2)) (by rw [hb1 1 1 (by decide), y1']; exact n0) (by rw [hb1 1 1 (by decide), y1']; exact n7) (fun i i0 i1 => by rw [hb1 11 i (by decide), y11]; exact N_xy hI.1 i i0 i1)
        rw [hb1 1 1 (by decide), y1', ← hN] at v3
        have vS : mm_Sm h v := fun c i w => by
          have q8 : ¬ c = 8 := fun q => w (by unfold mm_sc; omega)
          rw [v2 c i (fun q => w (by unfold mm_sc; omega)) (by omega), hb1 c i q8]
          exact yS c i w
        have v11 : ∀ i, v 11 i = h 11 i := fun i => vS 11 i (by unfold mm_sc; omega)
        have v32 : ∀ p, v 32 p = y 32 p ∧ v 33 p = y 33 p := fun p => ⟨by rw [v2 32 p (by decide) (by omega), hb1 32 p (by decide)], by rw [v2 33 p (by decide) (by omega), hb1 33 p (by decide)]⟩
        have v82 : v 8 2 = 0 := by
          rw [v2 8 2 (by decide) (by omega)]
          rfl
        have v83 : v 8 3 = -2 := by
          rw [v2 8 3 (by decide) (by omega)]
          rfl
        have CW : mm_call mX6_countWays [vR 8, vR 1, vR 7] y = if y 32 0 ≤ h 11 55 ∧ h 11 55 ≤ y 33 0 then (mm_call mX6_tryOn [vR 8, vR 7, vI 0, vI 0, vI (h 11 55), vI 0] v).bind (fun z => mm_ev mX6_countWays 21 44 [some (vR 8), some (vR 1), some (vR 7)] (z.1 ++ []) z.2) else some ([], v) := by
          rw [X6_countWays_c, v1, mm_be0, X6_countWays_16, c_at, mm_be1, X6_countWays_24, c_fits v 0 _ (by decide), mm_be1, X6_countWays_27, v11, (v32 0).1, (v32 0).2]
          by_cases q : y 32 0 ≤ h 11 55 ∧ h 11 55 ≤ y 33 0
          · rw [if_pos q, if_neg (by decide), c_at, mm_be1, X6_countWays_40, if_pos (by decide), v11, if_pos q]
          · rw [if_neg q, if_pos rfl, X6_countWays_44, if_neg q]
        rw [if_pos (by omega)] at eC
        by_cases q : y 32 0 ≤ h 11 55 ∧ h 11 55 ≤ y 33 0
        · rw [if_pos q] at CW
          have cS : mm_cS v (wDi h) e N 0 (v 8 5) := ⟨v3, rfl, fun p q p0 p1 q0 q1 => by
            rw [v4 p q p0 (by omega) q0 (by omega)]
            unfold wDi
            rw [hb1 11 _ (by decide), hb1 11 _ (by decide), hb1 11 _ (by decide), hb1 11 _ (by decide), y11, y11, y11, y11], fun j j0 j1 => by omega⟩
          have run := fun x (hx : mm_Sm h x) => L_try h hI s shh (wDi h) hD N (v 8 5) N6 y fit q 7 0 0 0 e v _ (by omega) p0 cS v32 (rS x hx).1 (rS x hx).2 ⟨by rw [mUp_self, v82], by omega, Or.inl ⟨v82, v83⟩⟩ (by omega) (by decide) (fun j j0 j1 => by omega)
          have mi0 : mi (wDi h) e 0 = 0 := if_pos rfl
          obtain ⟨g', f0, r1, r2, r3, r4, r5, r6⟩ := run h mm_Sm.rf
          rw [mi0, show h 11 55 + 0 = h 11 55 from by omega] at r1
          have r1 : mm_call mX6_tryOn [vR 8, vR 7, vI 0, vI 0, vI (h 11 55), vI 0] v = some ([], g') := r1
          have gS : mm_Sm h g' := fun c i w => by
            rw [r3.1 c i (fun q => w (by unfold mm_sc; omega)) (fun q => w (by unfold mm_sc; omega)) (fun q => w (by unfold mm_sc; omega))]
            exact vS c i w
          rw [r1, mm_be0, X6_countWays_44] at CW
          rw [CW, mm_be0, X9_which_81] at eC
          obtain ⟨g2, f', s1, s2, s3, s4, s5, s6⟩ := run g' gS
          rw [mi0, show h 11 55 + 0 = h 11 55 from by omega] at s1
          have s1 : mm_call mX6_tryOn [vR 8, vR 7, vI 0, vI 0, vI (h 11 55), vI 0] v = some ([], g2) := s1
          rw [r1] at s1
          have eg : g' = g2 := by
            injection s1 with s1
            exact (Prod.mk.inj s1).2
          subst eg
          have fS := (rS g' gS).2.tr s4.Sm
          have A := ans g' f' gS (find g' f' s2) fS
          obtain ⟨u1, u2, u3⟩ := s5
          rw [u1] at A
          by_cases qa : a = 0
          · rw [if_neg (fun w => w qa)] at eC
            rw [if_pos qa] at A
            exact mm_Pr.of eC A (mm_Inv_Sm fS hI)
          · rw [if_pos qa] at eC
            rw [if_neg qa] at A
            rcases u3 with ⟨t1, t2⟩ | ⟨t1, t2⟩
            · rw [if_pos t1] at A
              rw [t2] at eC
              exact mm_Pr.of eC A (mm_Inv_Sm fS hI)
            · rw [if_neg (by omega)] at A
              rw [t2] at eC
              exact mm_Pr.of eC A (mm_Inv_Sm fS hI)
        · rw [if_neg q] at CW
          rw [CW, mm_be0, X9_which_81] at eC
          have eC2 : mm_call mX9_which [vR 0, vI s, vI a] h = some ([vI (if a = 0 then 0 else -2)], v) := by
            rw [eC]
            by_cases qa : a = 0
            · rw [if_neg (fun z => z qa), if_pos qa, v82]
            · rw [if_pos qa, if_neg qa, v83]
          obtain ⟨f', c1, c2⟩ := none' (fun e' u' z G => q ((fit e' u' z).1 G).1) v vS
          exact mm_Pr.of eC2 c1 c2
    · have ng := kWhy_neg hz
      rw [X9_which_20, if_neg hz] at eC
      refine mm_Pr.of eC ?_ hI
      rw [eR h mm_Sm.rf]
      by_cases hs : 0 ≤ s ∧ s < 6
      · rw [if_pos hs, if_pos ha, if_neg (by omega)]
      · rw [if_neg hs, kWhy_no hs]
  · refine mm_Pr.of (v := vI (-1)) (h1 := h) (h2 := h) ?_ ?_ hI
    · rw [X9_which_c]
      by_cases q : a < 0
      · rw [if_pos q]
      · rw [if_neg q, if_neg (by omega)]
    · rw [eR h mm_Sm.rf, if_neg ha]
      by_cases hs : 0 ≤ s ∧ s < 6
      · rw [if_pos hs]
      · rw [if_neg hs]
