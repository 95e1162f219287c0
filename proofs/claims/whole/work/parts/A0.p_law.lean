/-! the law: the pair itself -/
theorem p_law (h : mm_M) (hI : mm_Inv h) : mm_Pr mX9_law mX10_law [] h mm_Inv := by
  have RT := hI.2.2.2.2.2.2.1
  have RL := hI.2.2.2.2.2.2.2
  obtain ⟨RL1, RL2, RL3, -⟩ := id RL
  obtain ⟨f1a, x', f'a, ex, -, -, X, -, Ra⟩ := tx_all h h hI (fun _ _ _ _ _ => rfl)
  have xo : ∀ c i, c ≠ 2 → c ≠ (h 2 4).toNat → x' c i = h c i := fun c i h2 hs => by
    have sp : (mm_x0 h) 2 4 = h 2 4 := by
      show mUp (mUp (mUp h 2 2 0) 2 5 0) 2 3 0 2 4 = _
      rw [mUp_nei (by decide), mUp_nei (by decide), mUp_nei (by decide)]
    rw [X c i (by omega) (fun w => hs (by rw [← sp]; exact w.2.1))]
    show mUp (mUp (mUp h 2 2 0) 2 5 0) 2 3 0 c i = _
    rw [mUp_ne h2, mUp_ne h2, mUp_ne h2]
  have x2 : ∀ i, i ≠ 2 → i ≠ 3 → i ≠ 5 → x' 2 i = h 2 i := fun i a b c => by
    rw [X 2 i (by omega) (by omega)]
    show mUp (mUp (mUp h 2 2 0) 2 5 0) 2 3 0 2 i = _
    rw [mUp_nei b, mUp_nei c, mUp_nei a]
  have s4 := x2 4 (by decide) (by decide) (by decide)
  have s6 := x2 6 (by decide) (by decide) (by decide)
  have eC : mm_call mX9_law [vR 0] h = (mm_ev mX3_proclaim 82 4 [some (vR 2), none] [] x').bind (fun w => mm_ev mX9_law 83 7 [some (vR 0)] (w.1 ++ []) w.2) := by
    rw [X9_law_c, X3_proclaim_c, X3_readText_c, ex, mm_be0]
  rw [X3_proclaim_4, mUp_nei (show (3 : Int) ≠ 0 by decide)] at eC
  have lfo : ∀ (g f' : mm_M), mm_lfr 0 0 (mm_f0 g) f' → ∀ c i, ¬ (c = 47 ∧ 22 ≤ i ∧ i ≤ 25) → ¬ ((c = 61 ∨ c = 62) ∧ 130 ≤ i) → ¬ ((c = 64 ∨ c = 65) ∧ 61 ≤ i) → ¬ (c = 63 ∧ i = 1) → f' c i = g c i := fun g f' F c i q1 q2 q3 q4 => by
    rw [F c i q1 (by omega) (by omega) q4]
    show mUp (mUp (mUp (mUp (mUp g 47 22 0) 47 23 (-1)) 47 24 0) 47 25 0) 63 1 0 c i = _
    have a0 : ¬ (c = 63 ∧ i = 1) := q4
    have a1 : ¬ (c = 47 ∧ i = 25) := by omega
    have a2 : ¬ (c = 47 ∧ i = 24) := by omega
    have a3 : ¬ (c = 47 ∧ i = 23) := by omega
    have a4 : ¬ (c = 47 ∧ i = 22) := by omega
    rw [mUp_at, if_neg a0, mUp_at, if_neg a1, mUp_at, if_neg a2, mUp_at, if_neg a3, mUp_at, if_neg a4]
  by_cases ok : x' 2 3 = 0
  · -- proclaimed
    rw [if_pos ok, mUp_nei (show (4 : Int) ≠ 0 by decide), mUp_nei (show (6 : Int) ≠ 0 by decide), if_pos (by omega), if_pos (by omega), mm_be1, X9_law_7] at eC
    rw [mUp_nei (show (5 : Int) ≠ 4 by decide), mUp_nei (show (5 : Int) ≠ 6 by decide), mUp_nei (show (5 : Int) ≠ 0 by decide), show (((x' 2 4).toNat : Nat) : Int) = h 2 4 from by omega, show (((x' 2 6).toNat : Nat) : Int) = h 2 6 from by omega] at eC
    obtain ⟨h1, hh1⟩ : ∃ h1, h1 = mUp (mUp (mUp (mUp x' 2 0 0) 2 6 (h 2 4)) 2 4 (h 2 6)) 2 7 (x' 2 5) := ⟨_, rfl⟩
    rw [← hh1] at eC
    have h1o : ∀ c i, c ≠ 2 → h1 c i = x' c i := fun c i q => by
      rw [hh1, mUp_ne q, mUp_ne q, mUp_ne q, mUp_ne q]
    have h1g : ∀ c i, c ≠ 2 → c ≠ 16 → c ≠ 17 → h1 c i = h c i := fun c i q1 q2 q3 => by
      rw [h1o c i q1]
      exact xo c i q1 (by omega)
    obtain ⟨f1, x'', f', ex2, el, e31, -, F, R⟩ := tx_all h h1 hI h1g
    have exx : x'' = x' := by
      rw [ex] at ex2
      exact (congrArg Prod.snd (Option.some.inj ex2)).symm
    subst exx
    rcases R with R | R
    · obtain ⟨r1, r2, r3, r4, r5, a, A, LN, ea, eA, LB⟩ := R
      have fo := lfo h1 f' F
      have L25 : (mUp f' 47 21 0) 47 25 = f' 47 25 := mUp_nei (by decide)
      obtain ⟨y1, c1, cA⟩ := cp_A (mUp f' 47 21 0) (f' 47 25) L25 r3 120 0 (mUp f' 47 21 0) (by omega) (by decide) r3.1 ⟨fun _ _ _ => rfl, fun j j0 j1 => by omega⟩
      have y63 : y1 63 1 = f' 63 1 := by
        rw [cA.1 63 1 (by omega), mUp_ne (by decide)]
      obtain ⟨y2, c2, cB⟩ := cp_B (mUp y1 63 0 (y1 63 1)) (f' 63 1) (by rw [mUp_self]; exact y63) (by omega) 61 0 (mUp y1 63 0 (y1 63 1)) (by omega) (by decide) (by omega) ⟨fun _ _ _ => rfl, fun j j0 j1 => by omega⟩
      have eR : mm_call mX10_law [vR 47] h1 = some ([vI 1], mUp y2 47 33 1) := by
        rw [X10_law_c, X10_readText_c, if_pos (by decide), el, mm_be0, e31, X10_readText_86, mUp_nei (show (23 : Int) ≠ 21 by decide), if_pos (by omega), c1, c2, mm_be1, X10_law_5, if_pos (by decide)]
      -- what the last memory holds
      have zA : ∀ c i, c ≠ 61 → c ≠ 62 → c ≠ 64 → c ≠ 65 → ¬ (c = 63 ∧ i = 0) → ¬ (c = 47 ∧ (i = 21 ∨ i = 33)) → (mUp y2 47 33 1) c i = f' c i := fun c i q1 q2 q3 q4 q5 q6 => by
        have n1 : ¬ (c = 47 ∧ i = 33) := by omega
        have n2 : ¬ (c = 47 ∧ i = 21) := by omega
        rw [mUp_at, if_neg n1, cB.1 c i (by omega), mUp_at, if_neg q5, cA.1 c i (by omega), mUp_at, if_neg n2]
      have z2 : ∀ i, (mUp y2 47 33 1) 2 i = h1 2 i := fun i => by
        rw [zA 2 i (by decide) (by decide) (by decide) (by decide) (by omega) (by omega)]
        exact fo 2 i (by omega) (by omega) (by omega) (by omega)
      have z26 : (mUp y2 47 33 1) 2 6 = h 2 4 := by
        rw [z2, hh1, mUp_nei (by decide), mUp_nei (by decide), mUp_self]
      have z24 : (mUp y2 47 33 1) 2 4 = h 2 6 := by
        rw [z2, hh1, mUp_nei (by decide), mUp_self]
      have z27 : (mUp y2 47 33 1) 2 7 = x'' 2 5 := by
        rw [z2, hh1, mUp_self]
      have z20 : (mUp y2 47 33 1) 2 0 = 0 := by
        rw [z2, hh1, mUp_nei (by decide), mUp_nei (by decide), mUp_nei (by decide), mUp_self]
      have z4721 : (mUp y2 47 33 1) 47 21 = 0 := by
        rw [mUp_nei (by decide), cB.1 47 21 (by omega), mUp_ne (by decide), cA.1 47 21 (by omega), mUp_self]
      have z630 : (mUp y2 47 33 1) 63 0 = f' 63 1 := by
        rw [mUp_ne (by decide), cB.1 63 0 (by omega), mUp_self]
        exact y63
      have zS : (mUp y2 47 33 1) (h 2 4).toNat = x'' (x'' 2 4).toNat := by
        funext i
        rw [zA _ i (by omega) (by omega) (by omega) (by omega) (by omega) (by omega), fo _ i (by omega) (by omega) (by omega) (by omega), h1o _ i (by omega), s4]
      have z61 : ∀ j, 0 ≤ j → j < f' 47 25 → (mUp y2 47 33 1) 61 j = w8 (mm_w f' j) ∧ (mUp y2 47 33 1) 62 j = mm_x f' j := fun j j0 j1 => by
        obtain ⟨d1, d2⟩ := cA.2 j j0 j1
        constructor
        · rw [mUp_ne (by decide), cB.1 61 j (by omega), mUp_ne (by decide), d1, mUp_ne (by decide)]
        · rw [mUp_ne (by decide), cB.1 62 j (by omega), mUp_ne (by decide), d2, mUp_ne (by decide)]
      have z64 : ∀ j, 0 ≤ j → j < f' 63 1 → (mUp y2 47 33 1) 64 j = w16 (mm_tt f' j) ∧ (mUp y2 47 33 1) 65 j = w16 (mm_te f' j) := fun j j0 j1 => by
        obtain ⟨d1, d2⟩ := cB.2 j j0 j1
        constructor
        · rw [mUp_ne (by decide), d1, mUp_ne (by decide), cA.1 64 _ (by omega), mUp_ne (by decide)]
        · rw [mUp_ne (by decide), d2, mUp_ne (by decide), cA.1 65 _ (by omega), mUp_ne (by decide)]
      have hRL : mm_RL (mUp y2 47 33 1) := by
        refine ⟨by rw [z26, z24]; omega, by rw [z27]; omega, by rw [z27]; omega, Or.inr ⟨mUp_self _ _ _ _, by rw [z27]; omega, by rw [z630]; omega, by rw [z630]; omega, a, A, ?_, ?_⟩⟩
        · rw [z26, zS, z630]
          refine LN_co LN (fun l l0 l1 j j0 j1 => rfl) (fun l l0 l1 j j0 j1 => ?_) (fun l l0 l1 => ?_)
          · have b1 := (LN.2.2 l l0 l1).1
            have b2 := LB l l0 l1
            obtain ⟨d1, d2⟩ := z61 j (by omega) (by omega)
            exact ⟨Or.inr d1, d2⟩
          · obtain ⟨d1, d2⟩ := z64 l l0 l1
            exact ⟨Or.inr d1, Or.inr d2⟩
        · rw [z630, z27]
          exact ea
      refine mm_Pr.of eC eR (law_Inv hI (fun c i q1 q2 q3 q4 q5 q6 q7 q8 q9 => ?_) z20 z4721 hRL)
      rw [zA c i q4 q5 q7 q8 (by omega) (by omega), fo c i (by omega) (by omega) (by omega) (by omega)]
      exact h1g c i q1 q2 q3
    · exact absurd ok R.1
  · -- a fault
    rw [if_neg ok, mUp_nei (show (2 : Int) ≠ 0 by decide), mm_be1, X9_law_7] at eC
    have h1g : ∀ c i, c ≠ 2 → c ≠ 16 → c ≠ 17 → (mUp x' 2 0 0) c i = h c i := fun c i q1 q2 q3 => by
      rw [mUp_ne q1]
      exact xo c i q1 (by omega)
    obtain ⟨f1, x'', f', ex2, el, e31, -, F, R⟩ := tx_all h (mUp x' 2 0 0) hI h1g
    have exx : x'' = x' := by
      rw [ex] at ex2
      exact (congrArg Prod.snd (Option.some.inj ex2)).symm
    subst exx
    rcases R with R | R
    · exact absurd R.1 ok
    · obtain ⟨r1, r2, r3, r4⟩ := R
      have fo := lfo (mUp x'' 2 0 0) f' F
      have eR : mm_call mX10_law [vR 47] (mUp x'' 2 0 0) = some ([vI (w32 ((-100) - x'' 2 2))], mUp f' 47 21 0) := by
        rw [X10_law_c, X10_readText_c, if_pos (by decide), el, mm_be0, e31, X10_readText_86, mUp_nei (show (23 : Int) ≠ 21 by decide), if_neg (by omega), mm_be1, X10_law_5, if_neg (by omega), r2]
      have zo : ∀ c i, c ≠ 2 → ¬ (c = 47 ∧ 21 ≤ i ∧ i ≤ 25) → ¬ ((c = 61 ∨ c = 62) ∧ 130 ≤ i) → ¬ ((c = 64 ∨ c = 65) ∧ 61 ≤ i) → ¬ (c = 63 ∧ i = 1) → c ≠ (h 2 4).toNat → (mUp f' 47 21 0) c i = h c i := fun c i q0 q1 q2 q3 q4 q5 => by
        have n1 : ¬ (c = 47 ∧ i = 21) := by omega
        rw [mUp_at, if_neg n1, fo c i (by omega) q2 q3 q4, mUp_ne q0]
        exact xo c i q0 q5
      have z2 : ∀ i, i ≠ 0 → i ≠ 2 → i ≠ 3 → i ≠ 5 → (mUp f' 47 21 0) 2 i = h 2 i := fun i q0 q2 q3 q5 => by
        rw [mUp_ne (by decide), fo 2 i (by omega) (by omega) (by omega) (by omega), mUp_nei q0]
        exact x2 i q2 q3 q5
      have z26 := z2 6 (by decide) (by decide) (by decide) (by decide)
      have z24 := z2 4 (by decide) (by decide) (by decide) (by decide)
      have z27 := z2 7 (by decide) (by decide) (by decide) (by decide)
      have z20 : (mUp f' 47 21 0) 2 0 = 0 := by
        rw [mUp_ne (by decide), fo 2 0 (by omega) (by omega) (by omega) (by omega), mUp_self]
      have z33 : (mUp f' 47 21 0) 47 33 = h 47 33 := zo 47 33 (by decide) (by omega) (by omega) (by omega) (by omega) (by omega)
      have z630 : (mUp f' 47 21 0) 63 0 = h 63 0 := zo 63 0 (by decide) (by omega) (by omega) (by omega) (by omega) (by omega)
      have zS : (mUp f' 47 21 0) (h 2 6).toNat = h (h 2 6).toNat := by
        funext i
        exact zo _ i (by omega) (by omega) (by omega) (by omega) (by omega) (by omega)
      have hRL : mm_RL (mUp f' 47 21 0) := by
        unfold mm_RL
        rw [z26, z24, z27, z33, z630]
        refine ⟨RL1, RL2, RL3, ?_⟩
        rcases RL.2.2.2 with w | ⟨w1, w2, w3, w4, a, A, LN, ea⟩
        · exact Or.inl w
        · refine Or.inr ⟨w1, w2, w3, w4, a, A, ?_, ea⟩
          rw [zS]
          refine LN_co LN (fun l l0 l1 j j0 j1 => rfl) (fun l l0 l1 j j0 j1 => ?_) (fun l l0 l1 => ?_)
          · have b := LN.2.2 l l0 l1
            have b4 := b.2.2.2.1
            have b5 := b.2.2.2.2.1
            exact ⟨Or.inl (zo 61 j (by decide) (by omega) (by omega) (by omega) (by omega) (by omega)), zo 62 j (by decide) (by omega) (by omega) (by omega) (by omega) (by omega)⟩
          · exact ⟨Or.inl (zo 64 l (by decide) (by omega) (by omega) (by omega) (by omega) (by omega)), Or.inl (zo 65 l (by decide) (by omega) (by omega) (by omega) (by omega) (by omega))⟩
      refine mm_Pr.of eC eR (law_Inv hI (fun c i q1 q2 q3 q4 q5 q6 q7 q8 q9 => ?_) z20 (mUp_self _ _ _ _) hRL)
      exact zo c i q1 (by omega) (by omega) (by omega) (by omega) (by omega)
