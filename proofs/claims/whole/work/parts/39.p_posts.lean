/-! posts: the pair -/
theorem p_posts (h : mm_M) (s i n : Int) (hI : mm_Inv h) (hi : mm_r32 i) : mm_Pr mX9_posts mX10_posts [vI s, vI i, vI n] h mm_Inv := by
  obtain ⟨z1, z2, z3, z4, z5, z6, z7, z8⟩ := id hI
  by_cases hn : 1 ≤ n ∧ n ≤ 7
  · by_cases hs : 0 ≤ s ∧ s < 6
    · obtain ⟨t1, t2, t3, t4, t5, t6, t7, t8⟩ := z6 s hs.1 hs.2
      have b1 : 0 ≤ s ∧ s ≤ 5 := by omega
      have eR : ∀ g : mm_M, g 79 s = h 79 s → mm_call mX10_posts [vR 47, vI s, vI i, vI n] g = if h 79 s = -1 ∨ h 79 s = -2 then mm_ev mX10_posts 3 43 [some (vR 47), some (vI s), some (vI i), some (vI n), none, none, none, none] [] g else some ([vI (-12)], g) := by
        intro g g9
        rw [X10_posts_c, s_isShelf, if_pos b1, mm_bs]
        refine (X10_posts_4 _ _ _ _ _).trans ?_
        rw [if_neg (by decide), s_in, if_pos hn, mm_bs]
        refine (X10_posts_14 _ _ _ _ _).trans ?_
        rw [if_pos (by decide), if_pos hs]
        show (if g 79 s = -1 then _ else _) = _
        rw [g9]
        by_cases q1 : h 79 s = -1
        · rw [if_pos q1, if_pos (Or.inl q1)]
        · rw [if_neg q1, if_pos hs]
          show (if g 79 s = -2 then _ else _) = _
          rw [g9]
          by_cases q2 : h 79 s = -2
          · rw [if_pos q2, if_pos (Or.inr q2)]
          · rw [if_neg q2, if_neg (fun w => w.elim q1 q2)]
      have eC : mm_call mX9_posts [vR 0, vI s, vI i, vI n] h = if h 19 s = -1 then some ([vI 0], h) else if h 19 s = 0 then mm_ev mX9_posts 5 47 [some (vR 0), some (vI s), some (vI i), some (vI n), some (vI 0), some (vI 0), some (vI 0)] [] h else some ([vI (-12)], h) := by
        rw [X9_posts_c, if_neg (by omega), if_pos hn.2, X7_refusal_c, c_isShelf, if_pos hs, mm_bs]
        have e : mm_ev mX7_refusal 2 5 [some (vR 3), some (vI s), some (vI 0)] [vI 1] h = some ([vI (if h 19 s = -1 then -11 else if h 19 s = 0 then 0 else -12)], h) := by
          rw [X7_refusal_5, if_pos (by decide), if_pos hs]
          by_cases q1 : h 19 s = -1
          · rw [if_neg (fun w => w q1), if_pos q1]
          · rw [if_pos q1, if_neg q1, if_pos hs]
            by_cases q2 : h 19 s = 0
            · rw [if_neg (fun w => w q2), if_pos q2]
            · rw [if_pos q2, if_neg q2]
        refine (congrArg (fun v => Option.bind v _) e).trans ?_
        refine (mm_bs _ _).trans ?_
        refine (X9_posts_22 _ _ _ _ _).trans ?_
        by_cases q1 : h 19 s = -1
        · rw [if_pos q1, if_pos q1, if_neg (fun w => w rfl)]
        · rw [if_neg q1, if_neg q1]
          by_cases q2 : h 19 s = 0
          · rw [if_pos q2, if_pos q2, if_pos (by decide), if_pos rfl]
          · rw [if_neg q2, if_neg q2, if_pos (by decide), if_neg (by decide)]
      by_cases q1 : h 19 s = -1
      · rw [if_pos q1] at eC t3
        refine mm_Pr.of eC ((eR h rfl).trans ?_) hI
        rw [if_pos (Or.inl t3), X10_posts_43, if_pos hs, if_neg (fun w => w t3)]
      · rw [if_neg q1] at eC t3
        by_cases q2 : h 19 s = 0
        · rw [if_pos q2] at eC
          rw [if_neg (by omega)] at t3
          have t9 : h 79 s = -2 := by omega
          obtain ⟨r, h', hI', A, B⟩ := mm_ploop s i n hs hn.2 hi 7 0 h (by omega) (by omega) (by omega) (Or.inl rfl) hI q2
          obtain ⟨g, e1, e2, e3⟩ := A h (fun _ _ => rfl)
          obtain ⟨f, e4, e5, e6⟩ := B none none g e3
          have ef : f = h' := by
            funext c
            by_cases w : c < 47
            · rw [e6 c w, e2 c w]
            · exact e5 c (by omega)
          rw [ef] at e4
          refine mm_Pr.of (eC.trans e1) ((eR g (by rw [e3 79 (by decide)])).trans ?_) hI'
          rw [if_pos (Or.inr t9), X10_posts_43, if_pos hs, if_pos (by rw [e3 79 (by decide), t9]; decide)]
          exact e4
        · rw [if_neg q2] at eC
          have q3 : ¬ (h 79 s = -1 ∨ h 79 s = -2) := by
            rw [t3]
            by_cases q : h 19 s = -2
            · rw [if_pos q]
              have := t4 q
              omega
            · rw [if_neg q]
              omega
          refine mm_Pr.of eC ((eR h rfl).trans ?_) hI
          rw [if_neg q3]
    · have b1 : ¬ (0 ≤ s ∧ s ≤ 5) := by omega
      refine mm_Pr.of (v := vI (-1)) (h1 := h) (h2 := h) ?_ ?_ hI
      · rw [X9_posts_c, if_neg (by omega), if_pos hn.2, X7_refusal_c, c_isShelf, if_neg hs, mm_bs]
        have e : mm_ev mX7_refusal 2 5 [some (vR 3), some (vI s), some (vI 0)] [vI 0] h = some ([vI (-1)], h) := by
          rw [X7_refusal_5, if_neg (fun w => w rfl)]
        refine (congrArg (fun v => Option.bind v _) e).trans ?_
        refine (mm_bs _ _).trans ?_
        refine (X9_posts_22 _ _ _ _ _).trans ?_
        rw [if_pos (by decide), if_neg (by decide)]
      · rw [X10_posts_c, s_isShelf, if_neg b1, mm_bs]
        exact (X10_posts_4 _ _ _ _ _).trans (if_pos rfl)
  · refine mm_Pr.of (v := vI (-1)) (h1 := h) (h2 := h) ?_ ?_ hI
    · rw [X9_posts_c]
      by_cases q : n < 1
      · rw [if_pos q]
      · rw [if_neg q, if_neg (by omega)]
    · rw [X10_posts_c, s_isShelf, mm_bs]
      refine (X10_posts_4 _ _ _ _ _).trans ?_
      by_cases b1 : 0 ≤ s ∧ s ≤ 5
      · rw [if_pos b1, if_neg (by decide), s_in, if_neg hn, mm_bs]
        exact (X10_posts_14 _ _ _ _ _).trans (if_neg (fun w => w rfl))
      · rw [if_neg b1, if_pos rfl]
