/-! posts, both alike -/
def qE (h : mm_M) (s j : Int) : Int := w32 (h 81 (60 * s + j))
abbrev qOk (h : mm_M) (s i k : Int) : Prop := h 47 1 < 7 ∧ 0 ≤ i ∧ i + 3 * k + 2 < h 80 s ∧ (0 ≤ qE h s (i + 3 * k) ∧ qE h s (i + 3 * k) ≤ 99) ∧ (0 ≤ qE h s (i + 3 * k + 1) ∧ qE h s (i + 3 * k + 1) ≤ 99) ∧ (0 ≤ qE h s (i + 3 * k + 2) ∧ qE h s (i + 3 * k + 2) ≤ 12)
theorem s_pstep (h : mm_M) (s i n k : Int) (o5 o7 : Option mm_V) (hs : 0 ≤ s ∧ s < 6) (h0 : 0 ≤ h 80 s) (h60 : h 80 s ≤ 60) (n0 : 0 ≤ h 47 1) (n7 : h 47 1 ≤ 7) (k0 : 0 ≤ k) (kn : k < n) (k7 : n ≤ 7) (hi : mm_r32 i) (ki : k = 0 ∨ 0 ≤ i) : (qOk h s i k → ∃ o5' o7', mm_ev mX10_posts 3 58 [some (vR 47), some (vI s), some (vI i), some (vI n), some (vI k), o5, none, o7] [] h = mm_ev mX10_posts 3 58 [some (vR 47), some (vI s), some (vI i), some (vI n), some (vI (k + 1)), o5', none, o7'] [] (mm_ad h (qE h s (i + 3 * k)) (qE h s (i + 3 * k + 1)) (qE h s (i + 3 * k + 2)))) ∧ (¬ qOk h s i k → mm_ev mX10_posts 3 58 [some (vR 47), some (vI s), some (vI i), some (vI n), some (vI k), o5, none, o7] [] h = some ([vI k], h)) := by
  unfold mm_r32 at hi
  have w2 : w32 (3 * k) = 3 * k := w32_id (by unfold mm_r32; omega)
  have w3 : w64 (i + 3 * k) = i + 3 * k := w64_id (by unfold mm_r64; omega)
  have w4 : w64 (i + 3 * k + 2) = i + 3 * k + 2 := w64_id (by unfold mm_r64; omega)
  rw [X10_posts_58, if_neg (by omega), w2, w3, w4]
  by_cases a1 : i + 3 * k < 0
  · rw [if_pos (by rw [lCmp_l]; exact a1)]
    exact ⟨fun w => by omega, fun _ => rfl⟩
  rw [if_neg (by rw [lCmp_l]; exact a1), if_pos hs]
  by_cases a2 : h 80 s ≤ i + 3 * k + 2
  · rw [if_pos (by rw [lCmp_g]; exact a2)]
    exact ⟨fun w => by omega, fun _ => rfl⟩
  rw [if_neg (by rw [lCmp_g]; exact a2)]
  by_cases a3 : h 47 1 = 7
  · rw [if_neg (fun w => w a3)]
    exact ⟨fun w => by omega, fun _ => rfl⟩
  have w5 : w32 (60 * s) = 60 * s := w32_id (by unfold mm_r32; omega)
  have w6 : w32 (i + 3 * k) = i + 3 * k := w32_id (by unfold mm_r32; omega)
  have w7 : w32 (60 * s + (i + 3 * k)) = 60 * s + (i + 3 * k) := w32_id (by unfold mm_r32; omega)
  have w8 : w32 (60 * s + (i + 3 * k) + 1) = 60 * s + (i + 3 * k + 1) := by
    rw [w32_id (by unfold mm_r32; omega)]
    omega
  have w9 : w32 (60 * s + (i + 3 * k) + 2) = 60 * s + (i + 3 * k + 2) := by
    rw [w32_id (by unfold mm_r32; omega)]
    omega
  rw [if_pos a3, w5, w6, w7, if_pos (by omega), s_in, mm_bs]
  show (qOk h s i k → ∃ o5' o7', mm_ev mX10_posts 3 134 [some (vR 47), some (vI s), some (vI i), some (vI n), some (vI k), some (vL (i + 3 * k)), none, some (vI (60 * s + (i + 3 * k)))] [vI (if 0 ≤ qE h s (i + 3 * k) ∧ qE h s (i + 3 * k) ≤ 99 then 1 else 0)] h = _) ∧ (¬ qOk h s i k → mm_ev mX10_posts 3 134 [some (vR 47), some (vI s), some (vI i), some (vI n), some (vI k), some (vL (i + 3 * k)), none, some (vI (60 * s + (i + 3 * k)))] [vI (if 0 ≤ qE h s (i + 3 * k) ∧ qE h s (i + 3 * k) ≤ 99 then 1 else 0)] h = _)
  rw [X10_posts_134, w8]
  by_cases b1 : 0 ≤ qE h s (i + 3 * k) ∧ qE h s (i + 3 * k) ≤ 99
  · rw [if_pos b1, if_neg (by decide), if_pos (by omega), s_in, mm_bs]
    show (qOk h s i k → ∃ o5' o7', mm_ev mX10_posts 3 153 [some (vR 47), some (vI s), some (vI i), some (vI n), some (vI k), some (vL (i + 3 * k)), none, some (vI (60 * s + (i + 3 * k)))] [vI (if 0 ≤ qE h s (i + 3 * k + 1) ∧ qE h s (i + 3 * k + 1) ≤ 99 then 1 else 0)] h = _) ∧ (¬ qOk h s i k → mm_ev mX10_posts 3 153 [some (vR 47), some (vI s), some (vI i), some (vI n), some (vI k), some (vL (i + 3 * k)), none, some (vI (60 * s + (i + 3 * k)))] [vI (if 0 ≤ qE h s (i + 3 * k + 1) ∧ qE h s (i + 3 * k + 1) ≤ 99 then 1 else 0)] h = _)
    rw [X10_posts_153, w9]
    by_cases b2 : 0 ≤ qE h s (i + 3 * k + 1) ∧ qE h s (i + 3 * k + 1) ≤ 99
    · rw [if_pos b2, if_neg (by decide), if_pos (by omega), s_in, mm_bs]
      show (qOk h s i k → ∃ o5' o7', mm_ev mX10_posts 3 172 [some (vR 47), some (vI s), some (vI i), some (vI n), some (vI k), some (vL (i + 3 * k)), none, some (vI (60 * s + (i + 3 * k)))] [vI (if 0 ≤ qE h s (i + 3 * k + 2) ∧ qE h s (i + 3 * k + 2) ≤ 12 then 1 else 0)] h = _) ∧ (¬ qOk h s i k → mm_ev mX10_posts 3 172 [some (vR 47), some (vI s), some (vI i), some (vI n), some (vI k), some (vL (i + 3 * k)), none, some (vI (60 * s + (i + 3 * k)))] [vI (if 0 ≤ qE h s (i + 3 * k + 2) ∧ qE h s (i + 3 * k + 2) ≤ 12 then 1 else 0)] h = _)
      rw [X10_posts_172, w8, w9]
      by_cases b3 : 0 ≤ qE h s (i + 3 * k + 2) ∧ qE h s (i + 3 * k + 2) ≤ 12
      · rw [if_pos b3, if_pos (by decide), if_pos (by omega), if_pos (by omega), if_pos (by omega)]
        have e : mm_call mX10_addPost [vR 47, vI (w32 (h 81 (60 * s + (i + 3 * k)))), vI (w32 (h 81 (60 * s + (i + 3 * k + 1)))), vI (w32 (h 81 (60 * s + (i + 3 * k + 2))))] h = some ([vI (h 47 1)], mm_ad h (qE h s (i + 3 * k)) (qE h s (i + 3 * k + 1)) (qE h s (i + 3 * k + 2))) := s_addPost h _ _ _ (by omega)
        rw [e, mm_bs]
        have w10 : w32 (k + 1) = k + 1 := w32_id (by unfold mm_r32; omega)
        refine ⟨fun _ => ⟨some (vL (i + 3 * k)), some (vI (60 * s + (i + 3 * k))), ?_⟩, fun w => absurd ⟨by omega, by omega, by omega, b1, b2, b3⟩ w⟩
        refine (X10_posts_210 _ _ _ _ _ _ _ _).trans ?_
        rw [w10]
      · rw [if_neg b3, if_neg (fun w => w rfl)]
        exact ⟨fun w => absurd w.2.2.2.2.2 b3, fun _ => rfl⟩
    · rw [if_neg b2, if_pos rfl]
      exact ⟨fun w => absurd w.2.2.2.2.1 b2, fun _ => rfl⟩
  · rw [if_neg b1, if_pos rfl]
    exact ⟨fun w => absurd w.2.2.2.1 b1, fun _ => rfl⟩
theorem mm_ploop (s i n : Int) (hs : 0 ≤ s ∧ s < 6) (n7 : n ≤ 7) (hi : mm_r32 i) : ∀ (m : Nat) (k : Int) (h : mm_M), 0 ≤ k → k ≤ n → n - k ≤ m → (k = 0 ∨ 0 ≤ i) → mm_Inv h → h 19 s = 0 → ∃ r h', mm_Inv h' ∧ (∀ g : mm_M, (∀ c, c < 47 → g c = h c) → ∃ g', mm_ev mX9_posts 5 47 [some (vR 0), some (vI s), some (vI i), some (vI n), some (vI 0), some (vI k), some (vI k)] [] g = some ([vI r], g') ∧ (∀ c, c < 47 → g' c = h' c) ∧ ∀ c, 47 ≤ c → g' c = g c) ∧ ∀ (o5 o7 : Option mm_V) (g : mm_M), (∀ c, 47 ≤ c → g c = h c) → ∃ g', mm_ev mX10_posts 3 58 [some (vR 47), some (vI s), some (vI i), some (vI n), some (vI k), o5, none, o7] [] g = some ([vI r], g') ∧ (∀ c, 47 ≤ c → g' c = h' c) ∧ ∀ c, c < 47 → g' c = g c := by
  intro m
  induction m with
  | zero =>
    intro k h k0 kn hm ki hI hk
    have e : k = n := by omega
    subst e
    refine ⟨k, h, hI, fun g hg => ⟨g, ?_, hg, fun _ _ => rfl⟩, fun o5 o7 g hg => ⟨g, ?_, hg, fun _ _ => rfl⟩⟩
    · rw [X9_posts_47, if_pos (Int.le_refl _)]
    · rw [X10_posts_58, if_pos (Int.le_refl _)]
  | succ m ih =>
    intro k h k0 kn hm ki hI hk
    by_cases z : n ≤ k
    · have e : k = n := by omega
      subst e
      refine ⟨k, h, hI, fun g hg => ⟨g, ?_, hg, fun _ _ => rfl⟩, fun o5 o7 g hg => ⟨g, ?_, hg, fun _ _ => rfl⟩⟩
      · rw [X9_posts_47, if_pos (Int.le_refl _)]
      · rw [X10_posts_58, if_pos (Int.le_refl _)]
    · obtain ⟨p0, p7, p1, _⟩ := id hI.1
      obtain ⟨t1, t2, t3, t4, t5, t6, t7, t8⟩ := hI.2.2.2.2.2.1 s hs.1 hs.2
      obtain ⟨r1, r2⟩ := t8 (by omega)
      have cg : ∀ g : mm_M, (∀ c, c < 47 → g c = h c) → mm_call mX9_comesFromRow [vR 0, vI s, vI i, vI k] g = if pOk h s i k then some ([vI 1], mm_en g (pE h s (i + 3 * k)) (pE h s (i + 3 * k + 1)) (pE h s (i + 3 * k + 2))) else some ([vI 0], g) := by
        intro g hg
        have e1 := hg 1 (by decide)
        have e19 := hg 19 (by decide)
        have e20 := hg 20 (by decide)
        have e22 := hg 22 (by decide)
        have eE : ∀ j, pE g s j = pE h s j := fun j => by unfold pE; rw [e22]
        have := c_comes g s i k hs (by rw [e19]; exact hk) (by rw [e20]; exact t5) (by rw [e20]; exact t6) (by rw [e1]; exact p0) k0 (by omega) hi
        rw [this]
        have eo : pOk g s i k = pOk h s i k := by
          unfold pOk
          rw [eE, eE, eE, e1, e20]
        by_cases w : pOk h s i k
        · rw [if_pos w, if_pos (by rw [eo]; exact w), eE, eE, eE]
        · rw [if_neg w, if_neg (by rw [eo]; exact w)]
      have eq : pOk h s i k = qOk h s i k := by
        apply propext
        unfold pOk qOk
        rw [p1, r1]
        by_cases w : 0 ≤ i ∧ i + 3 * k + 2 < h 20 s
        · have f : ∀ j, 0 ≤ j → j < h 20 s → qE h s j = pE h s j := fun j j0 j1 => by unfold qE pE; rw [(r2 j j0 j1).1]
          rw [f _ (by omega) (by omega), f _ (by omega) (by omega), f _ (by omega) (by omega)]
        · exact ⟨fun v => absurd ⟨v.2.1, v.2.2.1⟩ w, fun v => absurd ⟨v.2.1, v.2.2.1⟩ w⟩
      have rg : ∀ (o5 o7 : Option mm_V) (g : mm_M), (∀ c, 47 ≤ c → g c = h c) → (pOk h s i k → ∃ o5' o7', mm_ev mX10_posts 3 58 [some (vR 47), some (vI s), some (vI i), some (vI n), some (vI k), o5, none, o7] [] g = mm_ev mX10_posts 3 58 [some (vR 47), some (vI s), some (vI i), some (vI n), some (vI (k + 1)), o5', none, o7'] [] (mm_ad g (pE h s (i + 3 * k)) (pE h s (i + 3 * k + 1)) (pE h s (i + 3 * k + 2)))) ∧ (¬ pOk h s i k → mm_ev mX10_posts 3 58 [some (vR 47), some (vI s), some (vI i), some (vI n), some (vI k), o5, none, o7] [] g = some ([vI k], g)) := by
        intro o5 o7 g hg
        have e47 := hg 47 (by decide)
        have e80 := hg 80 (by decide)
        have e81 := hg 81 (by decide)
        have eE : ∀ j, qE g s j = qE h s j := fun j => by unfold qE; rw [e81]
        have eo : qOk g s i k = qOk h s i k := by
          unfold qOk
          rw [eE, eE, eE, e47, e80]
        obtain ⟨c1, c2⟩ := s_pstep g s i n k o5 o7 hs (by rw [e80, r1]; exact t5) (by rw [e80, r1]; exact t6) (by rw [e47, p1]; exact p0) (by rw [e47, p1]; exact p7) k0 (by omega) n7 hi ki
        rw [eo, ← eq] at c1 c2
        refine ⟨fun w => ?_, c2⟩
        obtain ⟨o5', o7', e⟩ := c1 w
        refine ⟨o5', o7', ?_⟩
        rw [e, eE, eE, eE]
        have f : ∀ j, 0 ≤ j → j < h 20 s → qE h s j = pE h s j := fun j j0 j1 => by unfold qE pE; rw [(r2 j j0 j1).1]
        have w2 := w.2.1
        have w3 := w.2.2.1
        rw [f _ (by omega) (by omega), f _ (by omega) (by omega), f _ (by omega) (by omega)]
      by_cases w : pOk h s i k
      · have w10 : w32 (k + 1) = k + 1 := w32_id (by unfold mm_r32; omega)
        obtain ⟨r, h', hI', A, B⟩ := ih (k + 1) (mm_ad (mm_en h (pE h s (i + 3 * k)) (pE h s (i + 3 * k + 1)) (pE h s (i + 3 * k + 2))) (pE h s (i + 3 * k)) (pE h s (i + 3 * k + 1)) (pE h s (i + 3 * k + 2))) (by omega) (by omega) (by omega) (Or.inr w.2.1) (mm_post h _ _ _ hI w.1 w.2.2.2.1 w.2.2.2.2.1 w.2.2.2.2.2) hk
        refine ⟨r, h', hI', fun g hg => ?_, fun o5 o7 g hg => ?_⟩
        · obtain ⟨g', e1, e2, e3⟩ := A (mm_en g (pE h s (i + 3 * k)) (pE h s (i + 3 * k + 1)) (pE h s (i + 3 * k + 2))) (fun c hc => by
            funext x
            unfold mm_ad mm_en
            simp only [mUp_at]
            rw [hg c hc, hg 1 (by decide), hg 9 (by decide), hg 11 (by decide)]
            rw [if_neg (c := c = 47 ∧ _) (by omega), if_neg (c := c = 73 ∧ _) (by omega), if_neg (c := c = 72 ∧ _) (by omega), if_neg (c := c = 71 ∧ _) (by omega), if_neg (c := c = 50 ∧ _) (by omega), if_neg (c := c = 49 ∧ _) (by omega), if_neg (c := c = 48 ∧ _) (by omega)])
          refine ⟨g', ?_, e2, fun c hc => ?_⟩
          · rw [X9_posts_47, if_neg z, cg g hg, if_pos w, mm_bs]
            refine (X9_posts_61 _ _ _ _ _ _ _ _).trans ?_
            rw [if_neg (by decide), w10]
            exact e1
          · rw [e3 c hc]
            unfold mm_en
            rw [mUp_ne (by omega), mUp_ne (by omega), mUp_ne (by omega), mUp_ne (by omega), mUp_ne (by omega), mUp_ne (by omega), mUp_ne (by omega)]
        · obtain ⟨o5', o7', e⟩ := (rg o5 o7 g hg).1 w
          obtain ⟨g', e1, e2, e3⟩ := B o5' o7' (mm_ad g (pE h s (i + 3 * k)) (pE h s (i + 3 * k + 1)) (pE h s (i + 3 * k + 2))) (fun c hc => by
            funext x
            unfold mm_ad mm_en
            simp only [mUp_at]
            rw [hg c hc, hg 47 (by decide)]
            rw [if_neg (c := c = 39 ∧ _) (by omega), if_neg (c := c = 38 ∧ _) (by omega), if_neg (c := c = 37 ∧ _) (by omega), if_neg (c := c = 1 ∧ _) (by omega), if_neg (c := c = 11 ∧ _) (by omega), if_neg (c := c = 11 ∧ _) (by omega), if_neg (c := c = 11 ∧ _) (by omega)]
            simp)
          refine ⟨g', e.trans e1, e2, fun c hc => ?_⟩
          rw [e3 c hc]
          unfold mm_ad
          rw [mUp_ne (by omega), mUp_ne (by omega), mUp_ne (by omega), mUp_ne (by omega), mUp_ne (by omega), mUp_ne (by omega), mUp_ne (by omega)]
      · refine ⟨k, h, hI, fun g hg => ⟨g, ?_, hg, fun _ _ => rfl⟩, fun o5 o7 g hg => ⟨g, (rg o5 o7 g hg).2 w, hg, fun _ _ => rfl⟩⟩
        rw [X9_posts_47, if_neg z, cg g hg, if_neg w, mm_bs]
        exact (X9_posts_61 _ _ _ _ _ _ _ _).trans (if_pos rfl)
