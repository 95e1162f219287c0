/-! route: the table of the class, and the call -/
theorem c_measure (g : mm_M) (n0 : 0 ≤ g 1 1) (n7 : g 1 1 ≤ 7) (hb : ∀ i : Int, 0 ≤ i → i < 14 → 0 ≤ g 11 i ∧ g 11 i ≤ 99) : ∃ y, mm_call mX6_measure [vR 8, vR 1] g = some ([], y) ∧ (∀ c i, c ≠ 36 → ¬ (c = 8 ∧ i = 4) → y c i = g c i) ∧ y 8 4 = (if 0 < g 1 1 - 1 then g 1 1 - 1 else 0) ∧ ∀ p q : Int, 0 ≤ p → p ≤ y 8 4 → 0 ≤ q → q ≤ y 8 4 → y 36 (p * 7 + q) = wDi g p q := by
  have w1 : w32 (g 1 1 - 1) = g 1 1 - 1 := w32_id (by unfold mm_r32; omega)
  have hx : ∃ N, N = (if 0 < g 1 1 - 1 then g 1 1 - 1 else 0) := ⟨_, rfl⟩
  obtain ⟨N, hN⟩ := hx
  have N0 : 0 ≤ N := by rw [hN]; split <;> omega
  have N6 : N ≤ 6 := by rw [hN]; split <;> omega
  have inner : ∀ (m : Nat) (p q : Int) (x : mm_M), 0 ≤ p → p ≤ N → 0 ≤ q → q ≤ N + 1 → N + 1 - q ≤ m → x 8 4 = N → (∀ i, x 11 i = g 11 i) → ∃ y, mm_ev mX6_measure 3 26 [some (vR 8), some (vR 1), some (vI p), some (vI q)] [] x = mm_ev mX6_measure 3 16 [some (vR 8), some (vR 1), some (vI (p + 1)), some (vI (N + 1))] [] y ∧ (∀ c, c ≠ 36 → y c = x c) ∧ (∀ i : Int, i < p * 7 + q → y 36 i = x 36 i) ∧ ∀ k : Int, q ≤ k → k ≤ N → y 36 (p * 7 + k) = wDi g p k := by
    intro m
    induction m with
    | zero =>
      intro p q x p0 pN q0 qN qm x4 x11
      have w4 : w32 (p + 1) = p + 1 := w32_id (by unfold mm_r32; omega)
      refine ⟨x, ?_, fun _ _ => rfl, fun _ _ => rfl, fun k k0 k1 => by omega⟩
      rw [X6_measure_26, x4, if_pos (by omega), w4, show q = N + 1 from by omega]
    | succ m ih =>
      intro p q x p0 pN q0 qN qm x4 x11
      have w4 : w32 (p + 1) = p + 1 := w32_id (by unfold mm_r32; omega)
      by_cases z : N < q
      · refine ⟨x, ?_, fun _ _ => rfl, fun _ _ => rfl, fun k k0 k1 => by omega⟩
        rw [X6_measure_26, x4, if_pos z, w4, show q = N + 1 from by omega]
      · have w5 : w32 (q + 1) = q + 1 := w32_id (by unfold mm_r32; omega)
        have w6 : w32 (p * 7) = p * 7 := w32_id (by unfold mm_r32; omega)
        have w7 : w32 (p * 7 + q) = p * 7 + q := w32_id (by unfold mm_r32; omega)
        have a := c_apart x p q (by omega) (by omega) (fun i i0 i1 => by rw [x11]; exact hb i i0 i1)
        rw [x11, x11, x11, x11] at a
        obtain ⟨y, y1, y2, y3, y4⟩ := ih p (q + 1) (mUp x 36 (p * 7 + q) (wDi g p q)) p0 pN (by omega) (by omega) (by omega) (by rw [mUp_ne (by decide)]; exact x4) (fun i => by rw [mUp_ne (by decide)]; exact x11 i)
        refine ⟨y, ?_, fun c hc => by rw [y2 c hc, mUp_ne hc], fun i hi => by rw [y3 i (by omega), mUp_nei (by omega)], fun k k0 k1 => ?_⟩
        · rw [X6_measure_26, x4, if_neg z, a, mm_be1, w6, w7, X6_measure_50, if_pos (by omega), w5]
          exact y1
        · by_cases kq : k = q
          · rw [kq, y3 _ (by omega), mUp_self]
          · exact y4 k (by omega) k1
  have outer : ∀ (m : Nat) (p : Int) (o : Option mm_V) (x : mm_M), 0 ≤ p → p ≤ N + 1 → N + 1 - p ≤ m → (∀ c i, c ≠ 36 → ¬ (c = 8 ∧ i = 4) → x c i = g c i) → x 8 4 = N → (∀ a b : Int, 0 ≤ a → a < p → 0 ≤ b → b ≤ N → x 36 (a * 7 + b) = wDi g a b) → (o = none ∨ ∃ v, o = some (vI v)) → ∃ y, mm_ev mX6_measure 3 16 [some (vR 8), some (vR 1), some (vI p), o] [] x = some ([], y) ∧ (∀ c i, c ≠ 36 → ¬ (c = 8 ∧ i = 4) → y c i = g c i) ∧ y 8 4 = N ∧ ∀ a b : Int, 0 ≤ a → a ≤ N → 0 ≤ b → b ≤ N → y 36 (a * 7 + b) = wDi g a b := by
    intro m
    induction m with
    | zero =>
      intro p o x p0 pN pm hx x4 A ho
      refine ⟨x, ?_, hx, x4, fun a b a0 a1 b0 b1 => A a b a0 (by omega) b0 b1⟩
      rw [X6_measure_16, x4, if_pos (by omega)]
    | succ m ih =>
      intro p o x p0 pN pm hx x4 A ho
      by_cases z : N < p
      · refine ⟨x, ?_, hx, x4, fun a b a0 a1 b0 b1 => A a b a0 (by omega) b0 b1⟩
        rw [X6_measure_16, x4, if_pos z]
      · obtain ⟨y, y1, y2, y3, y4⟩ := inner 8 p 0 x p0 (by omega) (by omega) (by omega) (by omega) x4 (fun i => hx 11 i (by decide) (by omega))
        obtain ⟨y', c1, c2⟩ := ih (p + 1) (some (vI (N + 1))) y (by omega) (by omega) (by omega) (fun c i q1 q2 => by rw [y2 c q1]; exact hx c i q1 q2) (by rw [y2 8 (by decide)]; exact x4) (fun a b a0 a1 b0 b1 => by
          by_cases ap : a = p
          · rw [ap]
            exact y4 b b0 b1
          · rw [y3 _ (by omega)]
            exact A a b a0 (by omega) b0 b1) (Or.inr ⟨_, rfl⟩)
        refine ⟨y', ?_, c2⟩
        rw [X6_measure_16, x4, if_neg z, y1]
        exact c1
  obtain ⟨y, c1, c2, c3, c4⟩ := outer 7 0 none (mUp g 8 4 N) (by omega) (by omega) (by omega) (fun c i q1 q2 => by rw [mUp_at, if_neg q2]) (mUp_self _ _ _ _) (fun a b a0 a1 => by omega) (Or.inl rfl)
  refine ⟨y, ?_, c2, by rw [c3, hN], fun p q p0 p1 q0 q1 => c4 p q p0 (by omega) q0 (by omega)⟩
  rw [X6_measure_c, w1, ← hN]
  exact c1
/-- before any route is gone -/
theorem search_0 {h g f : mm_M} (hI : mm_Inv h) (hg : mm_Sm h g) (hf : mm_Sm h f) : (∀ p q : Int, 0 ≤ p → p < 7 → 0 ≤ q → q < 7 → rDi f p q = wDi h p q) ∧ (∀ p q : Int, wDi g p q = wDi h p q) ∧ mm_D (wDi h) := by
  have g11 : ∀ i, g 11 i = h 11 i := fun i => hg 11 i (by unfold mm_sc; omega)
  have f11 : ∀ i, f 11 i = h 11 i := fun i => hf 11 i (by unfold mm_sc; omega)
  refine ⟨fun p q p0 p7 q0 q7 => ?_, fun p q => ?_, fun p q p0 p7 q0 q7 => wDi_b ⟨p0, p7⟩ ⟨q0, q7⟩ (N_xy hI.1)⟩
  · rw [N_di (mm_Inv_Sm hf hI).1 p q ⟨p0, p7⟩ ⟨q0, q7⟩]
    unfold wDi
    rw [f11, f11, f11, f11]
  · unfold wDi
    rw [g11, g11, g11, g11]
theorem p_route (h : mm_M) (a k : Int) (hI : mm_Inv h) : mm_Pr mX9_route mX10_route [vI a, vI k] h mm_Inv := by
  obtain ⟨n0, n7, n47, -⟩ := id hI.1
  have w1 : w32 (h 1 1 - 1) = h 1 1 - 1 := w32_id (by unfold mm_r32; omega)
  have hx : ∃ N, N = (if 0 < h 1 1 - 1 then h 1 1 - 1 else 0) := ⟨_, rfl⟩
  obtain ⟨N, hN⟩ := hx
  have N0 : 0 ≤ N := by rw [hN]; split <;> omega
  have N6 : N ≤ 6 := by rw [hN]; split <;> omega
  have hN2 : h 1 1 = N + 1 ∨ (h 1 1 = 0 ∧ N = 0) := by rw [hN]; split <;> omega
  by_cases ha : 0 ≤ a ∧ a ≤ 1
  · by_cases hk : -1 ≤ k
    · -- the search of the class
      have F : ∃ g', mm_call mX6_findBest [vR 8, vR 1, vI a] h = some ([], g') ∧ mm_Sm h g' ∧ ∀ x : mm_M, mm_Sm h x → ∃ f', mm_call mX10_findRoutes [vR 47, vI a, vI 0] x = some ([], f') ∧ mm_Sm h f' ∧ mm_bR g' f' N ∧ g' 8 0 < 1000000 := by
        have hb1 : ∀ c i, ¬ c = 8 → (mUp (mUp h 8 5 a) 8 0 1000000) c i = h c i := fun c i q => by rw [mUp_ne q, mUp_ne q]
        obtain ⟨y, y1, y2, y3, y4⟩ := c_measure (mUp (mUp h 8 5 a) 8 0 1000000) (by rw [hb1 1 1 (by decide)]; exact n0) (by rw [hb1 1 1 (by decide)]; exact n7) (fun i i0 i1 => by rw [hb1 11 i (by decide)]; exact N_xy hI.1 i i0 i1)
        rw [hb1 1 1 (by decide), ← hN] at y3
        have yS : mm_Sm h y := fun c i w => by
          have q8 : ¬ c = 8 := fun q => w (by unfold mm_sc; omega)
          rw [y2 c i (fun q => w (by unfold mm_sc; omega)) (by omega), hb1 c i q8]
        obtain ⟨-, d2, hD⟩ := search_0 hI yS yS
        have y8 : y 8 5 = a := by
          rw [y2 8 5 (by decide) (by omega)]
          rfl
        have y80 : y 8 0 = 1000000 := by
          rw [y2 8 0 (by decide) (by omega)]
          rfl
        have e0 : ∃ e : Int → Int, e = fun _ => 0 := ⟨_, rfl⟩
        obtain ⟨e, _⟩ := e0
        have cS : mm_cS y (wDi h) e N 0 a := ⟨y3, y8, fun p q p0 p1 q0 q1 => by
          rw [y4 p q p0 (by omega) q0 (by omega)]
          unfold wDi
          rw [hb1 11 _ (by decide), hb1 11 _ (by decide), hb1 11 _ (by decide), hb1 11 _ (by decide)], fun j j0 j1 => by omega⟩
        have rS : ∀ x : mm_M, mm_Sm h x → mm_rS (mUp (mUp (mUp x 47 35 0) 47 38 (-1)) 47 39 0) (wDi h) e N 0 := fun x hx => by
          have xI := mm_Inv_Sm hx hI
          have n10 := N10 xI.1
          obtain ⟨d1, -, -⟩ := search_0 hI hx hx
          have ex : ∀ c, c ≠ 47 → (mUp (mUp (mUp x 47 35 0) 47 38 (-1)) 47 39 0) c = x c := fun c hc => by rw [mUp_ne hc, mUp_ne hc, mUp_ne hc]
          have e12 : (mUp (mUp (mUp x 47 35 0) 47 38 (-1)) 47 39 0) 47 12 = x 47 12 := by rw [mUp_nei (by decide), mUp_nei (by decide), mUp_nei (by decide)]
          have e1 : (mUp (mUp (mUp x 47 35 0) 47 38 (-1)) 47 39 0) 47 1 = x 47 1 := by rw [mUp_nei (by decide), mUp_nei (by decide), mUp_nei (by decide)]
          refine ⟨by rw [mUp_nei (by decide), mUp_nei (by decide), mUp_self], fun j j0 j1 => by omega, by rw [e12]; omega, fun i i0 i1 => by rw [ex 48 (by decide), ex 49 (by decide)]; exact N_rxy xI.1 i i0 i1, fun p q p0 p7 q0 q7 => ?_, ?_⟩
          · rw [← d1 p q p0 p7 q0 q7]
            unfold rDi
            rw [ex 48 (by decide), ex 49 (by decide)]
          · rw [e1, xI.1.2.2.1, hx 1 1 (by unfold mm_sc; omega)]
            exact hN2
        have bR : ∀ x : mm_M, mm_bR y (mUp (mUp (mUp x 47 35 0) 47 38 (-1)) 47 39 0) N := fun x => Or.inl ⟨y80, by rw [mUp_nei (by decide), mUp_self]⟩
        have p0 := pre_0 e N N0
        have run := fun x (hx : mm_Sm h x) => L_best (wDi h) hD N a 0 N6 (by omega) 7 0 0 e y _ (by omega) p0 cS (rS x hx) (bR x)
        have mi0 : mi (wDi h) e 0 = 0 := if_pos rfl
        have cs0 : cst a (wDi h) e 0 = 0 := by
          unfold cst
          split
          · exact mi0
          · rfl
        obtain ⟨g', f0, r1, r2, r3, r4, r5, r6⟩ := run h mm_Sm.rf
        rw [mi0, cs0] at r1
        have gS : mm_Sm h g' := fun c i w => by
          rw [r3.1 c i (fun q => w (by unfold mm_sc; omega)) (fun q => w (by unfold mm_sc; omega)) (fun q => w (by unfold mm_sc; omega))]
          exact yS c i w
        refine ⟨g', ?_, gS, fun x hx => ?_⟩
        · rw [X6_findBest_c, y1, mm_be0, X6_findBest_16, if_pos (by decide), r1, mm_be0, X6_findBest_24]
        · obtain ⟨g2, f', s1, s2, s3, s4, s5, s6⟩ := run x hx
          rw [mi0, cs0, r1] at s1
          have eg : g' = g2 := by
            injection s1 with s1
            exact (Prod.mk.inj s1).2
          subst eg
          refine ⟨f', ?_, fun c i w => ?_, s5, r6⟩
          · have e35 : (mUp (mUp (mUp x 47 35 0) 47 38 (-1)) 47 39 0) 47 35 = 0 := by rw [mUp_nei (by decide), mUp_nei (by decide), mUp_self]
            rw [X10_findRoutes_c, e35, if_pos (by decide), s2, mm_be0, X10_findRoutes_22]
          · have q47 : ¬ (c = 47 ∧ (i = 35 ∨ i = 38 ∨ i = 39)) := fun q => w (by unfold mm_sc; omega)
            rw [s4.1 c i (fun q => w (by unfold mm_sc; omega)) (fun q => w (by unfold mm_sc; omega)) (fun q => w (by unfold mm_sc; omega)) q47, mUp_at, if_neg (by omega), mUp_at, if_neg (by omega), mUp_at, if_neg (by omega)]
            exact hx c i w
      obtain ⟨g', c1, c2, c3⟩ := F
      obtain ⟨f', d1, d2, d3, d4⟩ := c3 g' c2
      have fI := mm_Inv_Sm d2 hI
      have f1 : f' 47 1 = h 1 1 := by rw [d2 47 1 (by unfold mm_sc; omega)]; exact n47
      have eC : mm_call mX9_route [vR 0, vI a, vI k] h = if k < 0 ∨ k < h 1 1 - 1 then (if 0 ≤ k then some ([vI (g' 34 k)], g') else some ([vI (g' 8 0)], g')) else some ([vI (-2)], h) := by
        have t : k < 0 ∨ k < h 1 1 - 1 → mm_ev mX9_route 22 36 [some (vR 0), some (vI a), some (vI k)] [] h = (if 0 ≤ k then some ([vI (g' 34 k)], g') else some ([vI (g' 8 0)], g')) := fun w => by
          rw [X9_route_36, c1, mm_be0, X9_route_48]
          by_cases q : 0 ≤ k
          · rw [if_pos q, if_pos (by omega), if_pos q]
          · rw [if_neg q, if_neg q]
        rw [X9_route_c, if_neg (by omega), if_neg (by omega), if_pos hk, w1]
        by_cases q1 : k < h 1 1 - 1
        · rw [if_pos q1, if_pos (Or.inr q1), t (Or.inr q1)]
        · rw [if_neg q1]
          by_cases q2 : k < 0
          · rw [if_pos q2, if_pos (Or.inl q2), t (Or.inl q2)]
          · rw [if_neg q2, if_neg (by omega)]
      have eR : ∀ x, mm_Sm h x → ∃ z, mm_call mX10_route [vR 47, vI a, vI k] x = some ([vI (if 0 ≤ k then (if h 1 1 - 1 ≤ k then -2 else g' 34 k) else g' 8 0)], z) ∧ mm_Inv z := fun x hx => by
        obtain ⟨z, d1, d2, d3, d4⟩ := c3 x hx
        have z1 : z 47 1 = h 1 1 := by rw [d2 47 1 (by unfold mm_sc; omega)]; exact n47
        refine ⟨z, ?_, mm_Inv_Sm d2 hI⟩
        rw [X10_route_c, s_in, if_pos ha, mm_be1, X10_route_6, if_neg (by decide), if_pos hk, d1, mm_be0, X10_route_22, z1, w1]
        rcases d3 with ⟨e1, e2⟩ | ⟨e1, e2, e3, e4⟩
        · omega
        · by_cases q : 0 ≤ k
          · rw [if_pos q, if_pos q]
            by_cases q2 : h 1 1 - 1 ≤ k
            · rw [if_pos q2, if_pos q2]
            · rw [if_neg q2, if_neg q2, if_pos (by omega), e4 k q (by omega)]
          · rw [if_neg q, if_neg q, e3]
      by_cases q : k < 0 ∨ k < h 1 1 - 1
      · rw [if_pos q] at eC
        obtain ⟨z, z1, z2⟩ := eR g' c2
        by_cases q2 : 0 ≤ k
        · rw [if_pos q2] at eC
          rw [if_pos q2, if_neg (by omega)] at z1
          exact mm_Pr.of eC z1 z2
        · rw [if_neg q2] at eC z1
          exact mm_Pr.of eC z1 z2
      · rw [if_neg q] at eC
        obtain ⟨z, z1, z2⟩ := eR h mm_Sm.rf
        rw [if_pos (by omega), if_pos (by omega)] at z1
        exact mm_Pr.of eC z1 z2
    · refine mm_Pr.of (v := vI (-1)) (h1 := h) (h2 := h) ?_ ?_ hI
      · rw [X9_route_c, if_neg (by omega), if_neg (by omega), if_neg hk]
      · rw [X10_route_c, s_in, if_pos ha, mm_be1, X10_route_6, if_neg (by decide), if_neg hk]
  · refine mm_Pr.of (v := vI (-1)) (h1 := h) (h2 := h) ?_ ?_ hI
    · rw [X9_route_c]
      by_cases q : a < 0
      · rw [if_pos q]
      · rw [if_neg q, if_pos (by omega)]
    · rw [X10_route_c, s_in, if_neg ha, mm_be1, X10_route_6, if_pos rfl]
