/-! a route is laid: what holds then -/
theorem tm_b {b a : Int} (hb : mm_bok b) (ha : 0 ≤ a ∧ a ≤ 999) : -2 ≤ mm_tH b a ∧ mm_tH b a ≤ 2391 ∧ (mm_tH b a < 0 ↔ b = 1000000) ∧ (¬ b = 1000000 → mm_tH b a = a + b) := by
  unfold mm_tH
  by_cases q : b = 1000000
  · rw [if_pos q]
    omega
  · rw [if_neg q]
    omega
theorem mm_ctx (h : mm_M) (s : Int) (hI : mm_Inv h) (hz : kWhy h s 0 = 0) : ∃ g, mm_call mX9_layOut [vR 0, vI s] h = some ([vI 0], g) ∧ mm_call mX8_readFrom [vR 4, vR 1, vR 3, vI s] h = some ([], g) ∧ mm_WG g ∧ mm_Sm h g ∧ mm_Inv g ∧ (∀ p : Int, 0 ≤ p → p < 7 → mm_bok (bh g p)) ∧ mm_nok g ∧ ∀ h1, mm_Sm g h1 → ∃ f, mm_call mX10_layOr [vR 47, vI s] h1 = some ([vI 0], f) ∧ mm_call mX10_layRoute [vR 47, vI s] h1 = some ([], f) ∧ mm_LAY g f ∧ mm_Sm h1 f ∧ mm_Inv f ∧ mm_rok f ∧ mm_rby f ∧ (∀ i, f 11 i = g 11 i) ∧ f 1 1 = g 1 1 := by
  obtain ⟨g, a1, a2, a3, a4, a5⟩ := lay_both h s hI hz
  have gI := mm_Inv_Sm a4.Sm hI
  have b := fun p (p0 : 0 ≤ p) (p7 : p < 7) => bh_b a3 gI.1.2.1 (N_xy gI.1) p0 p7
  refine ⟨g, a2, a1, a3, a4.Sm, gI, b, mm_nok.of gI.1, fun h1 m => ?_⟩
  obtain ⟨f, b1, b2, b3, b4⟩ := a5 h1 (a4.Sm.tr m)
  have m2 := m.tr b3.Sm
  have fI := mm_Inv_Sm m2 gI
  have n10 := N10 fI.1
  have n11 := N11 fI.1
  obtain ⟨n0, n7, n47, -⟩ := id fI.1
  refine ⟨f, b2, b1, b4, b3.Sm, fI, ⟨fun p p0 p7 => ?_, by omega, by omega⟩, ⟨by omega, fun k k0 k1 => ?_⟩, fun i => m2 11 i (by unfold mm_sc; omega), m2 1 1 (by unfold mm_sc; omega)⟩
  · rw [b4.2.2 p p0 p7]
    have := tm_b (b p p0 p7) (a := f 47 12) (by omega)
    exact ⟨this.1, this.2.1⟩
  · have := N7 fI.1 k k0 k1
    omega
theorem s_arePost (h : mm_M) (a : Int) (ha : mm_r32 a) (n : 0 ≤ h 47 1) : mm_call mX10_arePost [vI a, vI (h 47 1)] h = some ([vI (if 0 ≤ a ∧ a.tdiv 1000 < h 47 1 then 1 else 0)], h) := by
  rw [X10_arePost_c]
  by_cases e : a < 0
  · rw [if_pos e, if_neg (by omega)]
  · have t0 : 0 ≤ a.tdiv 1000 := Int.tdiv_nonneg (by omega) (by decide)
    have t1 : a.tdiv 1000 ≤ a := Int.tdiv_le_self 1000 (by omega)
    unfold mm_r32 at ha
    have w1 : w32 (a.tdiv 1000) = a.tdiv 1000 := w32_id (by unfold mm_r32; omega)
    rw [if_neg e, w1]
    by_cases q : h 47 1 ≤ a.tdiv 1000
    · rw [if_pos q, if_neg (by omega)]
    · rw [if_neg q, if_pos (by omega)]
/-- a post and a minute in one number -/
theorem pm_b {a n : Int} (ha : mm_r32 a) (n7 : n ≤ 7) (z : 0 ≤ a ∧ a.tdiv 1000 < n) : (0 ≤ a.tdiv 1000 ∧ a.tdiv 1000 < 7) ∧ (0 ≤ a.tmod 1000 ∧ a.tmod 1000 ≤ 999) ∧ w32 (a.tdiv 1000) = a.tdiv 1000 := by
  have t0 : 0 ≤ a.tdiv 1000 := Int.tdiv_nonneg (by omega) (by decide)
  have t2 : 0 ≤ a.tmod 1000 := Int.tmod_nonneg _ (by omega)
  have t3 : a.tmod 1000 < 1000 := Int.tmod_lt_of_pos _ (by decide)
  exact ⟨⟨t0, by omega⟩, ⟨t2, by omega⟩, w32_id (by unfold mm_r32; omega)⟩
theorem s_shelf (h : mm_M) (s : Int) : mm_call mX10_isShelf [vI s] h = some ([vI (if 0 ≤ s ∧ s < 6 then 1 else 0)], h) := by
  rw [s_isShelf]
  by_cases q : 0 ≤ s ∧ s < 6
  · rw [if_pos (by omega), if_pos q]
  · rw [if_neg (by omega), if_neg q]
theorem kWhy_no {h : mm_M} {s k : Int} (q : ¬ (0 ≤ s ∧ s < 6)) : kWhy h s k = -1 := by unfold kWhy; rw [if_neg q]
theorem kWhy_neg {h : mm_M} {s k : Int} (q : ¬ kWhy h s k = 0) : kWhy h s k < 0 := by
  unfold kWhy at q ⊢
  repeat' split at q
  all_goals (repeat' split) <;> omega
/-! latest, together -/
def sm (A : Int → Int) : Nat → Int
  | 0 => 0
  | j + 1 => sm A j + A (j : Int)
theorem sm_b {A : Int → Int} {c : Int} : ∀ j : Nat, (∀ i : Int, 0 ≤ i → i < j → 0 ≤ A i ∧ A i ≤ c) → 0 ≤ sm A j ∧ sm A j ≤ c * j := by
  intro j
  induction j with
  | zero => intro _; exact ⟨Int.le_refl _, by show (0 : Int) ≤ c * 0; omega⟩
  | succ j ih =>
    intro h
    have a := ih (fun i i0 i1 => h i i0 (by omega))
    have b := h j (by omega) (by omega)
    show 0 ≤ sm A j + A (j : Int) ∧ sm A j + A (j : Int) ≤ c * ((j + 1 : Nat) : Int)
    rw [show ((j + 1 : Nat) : Int) = (j : Int) + 1 from by omega, Int.mul_add]
    omega
theorem sm_co {A B : Int → Int} : ∀ j : Nat, (∀ i : Int, 0 ≤ i → i < j → A i = B i) → sm A j = sm B j := by
  intro j
  induction j with
  | zero => intro _; rfl
  | succ j ih =>
    intro h
    show sm A j + A (j : Int) = sm B j + B (j : Int)
    rw [ih (fun i i0 i1 => h i i0 (by omega)), h j (by omega) (by omega)]
theorem sm_s {A : Int → Int} {k : Int} (k0 : 0 ≤ k) : sm A (k + 1).toNat = sm A k.toNat + A k := by
  rw [show (k + 1).toNat = k.toNat + 1 from by omega]
  show sm A k.toNat + A (k.toNat : Int) = _
  rw [show (k.toNat : Int) = k from by omega]
theorem s_together (f : mm_M) (A : Int → Int) (n6 : 0 ≤ f 47 35 ∧ f 47 35 ≤ 6) (h12 : 0 ≤ f 47 12 ∧ f 47 12 ≤ 999) (hA : ∀ j : Int, 0 ≤ j → j < f 47 35 → (0 < f 68 j ∧ f 68 j < 7) ∧ f 69 (f 68 j) = f 47 12 + A j ∧ 0 ≤ A j ∧ A j ≤ 1392) : mm_call mX10_together [vR 47] f = some ([vI (sm A (f 47 35).toNat)], f) := by
  have L : ∀ (m : Nat) (k a : Int), 0 ≤ k → k ≤ f 47 35 → f 47 35 - k ≤ m → a = sm A k.toNat → mm_ev mX10_together 1 4 [some (vR 47), some (vI a), some (vI k)] [] f = some ([vI (sm A (f 47 35).toNat)], f) := by
    intro m
    induction m with
    | zero =>
      intro k a k0 k1 km ha
      rw [X10_together_4, if_pos (by omega), ha, show k = f 47 35 from by omega]
    | succ m ih =>
      intro k a k0 k1 km ha
      by_cases q : f 47 35 ≤ k
      · rw [X10_together_4, if_pos q, ha, show k = f 47 35 from by omega]
      · obtain ⟨b1, b2, b3, b4⟩ := hA k k0 (by omega)
        have sb := sm_b (A := A) (c := 1392) k.toNat (fun i i0 i1 => (hA i i0 (by omega)).2.2)
        have w1 : w32 (f 69 (f 68 k) - f 47 12) = A k := by
          rw [b2, w32_id (by unfold mm_r32; omega)]
          omega
        have w2 : w32 (a + A k) = sm A (k + 1).toNat := by
          rw [sm_s k0, ← ha, w32_id (by unfold mm_r32; omega)]
        have w4 : w32 (k + 1) = k + 1 := w32_id (by unfold mm_r32; omega)
        rw [X10_together_4, if_neg q, if_pos (by omega), if_pos (by omega), w1, w2, w4]
        exact ih (k + 1) _ (by omega) (by omega) (by omega) rfl
  rw [X10_together_c]
  exact L 6 0 0 (by omega) n6.1 (by omega) rfl
theorem s_latest (f : mm_M) (A : Int → Int) (n6 : 0 ≤ f 47 35 ∧ f 47 35 ≤ 6) (h12 : 0 ≤ f 47 12 ∧ f 47 12 ≤ 999) (hA : ∀ j : Int, 0 ≤ j → j < f 47 35 → (0 < f 68 j ∧ f 68 j < 7) ∧ f 69 (f 68 j) = f 47 12 + A j ∧ 0 ≤ A j ∧ A j ≤ 1392 ∧ (0 < j → A (j - 1) < A j)) : mm_call mX10_latest [vR 47] f = some ([vI (f 47 12 + if f 47 35 = 0 then 0 else A (f 47 35 - 1))], f) := by
  have L : ∀ (m : Nat) (k a : Int), 0 ≤ k → k ≤ f 47 35 → f 47 35 - k ≤ m → (a = f 47 12 + if k = 0 then 0 else A (k - 1)) → mm_ev mX10_latest 1 7 [some (vR 47), some (vI a), some (vI k)] [] f = some ([vI (f 47 12 + if f 47 35 = 0 then 0 else A (f 47 35 - 1))], f) := by
    intro m
    induction m with
    | zero =>
      intro k a k0 k1 km ha
      rw [X10_latest_7, if_pos (by omega), ha, show k = f 47 35 from by omega]
    | succ m ih =>
      intro k a k0 k1 km ha
      by_cases q : f 47 35 ≤ k
      · rw [X10_latest_7, if_pos q, ha, show k = f 47 35 from by omega]
      · obtain ⟨b1, b2, b3, b4, b5⟩ := hA k k0 (by omega)
        have w4 : w32 (k + 1) = k + 1 := w32_id (by unfold mm_r32; omega)
        rw [X10_latest_7, if_neg q, if_pos (by omega), if_pos (by omega), w4, b2]
        by_cases q2 : f 47 12 + A k ≤ a
        · rw [if_pos q2]
          refine ih (k + 1) _ (by omega) (by omega) (by omega) ?_
          rw [if_neg (by omega), show k + 1 - 1 = k from by omega]
          by_cases q3 : k = 0
          · rw [if_pos q3] at ha
            omega
          · rw [if_neg q3] at ha
            have := b5 (by omega)
            omega
        · rw [if_neg q2, if_pos (by omega), if_pos (by omega)]
          refine ih (k + 1) _ (by omega) (by omega) (by omega) ?_
          rw [if_neg (by omega), show k + 1 - 1 = k from by omega]
  rw [X10_latest_c]
  exact L 6 0 _ (by omega) n6.1 (by omega) (by rw [if_pos rfl]; omega)
theorem c_together (g : mm_M) (A : Int → Int) (n6 : 0 ≤ g 4 0 ∧ g 4 0 ≤ 6) (hA : ∀ j : Int, 0 ≤ j → j < g 4 0 → (0 < g 23 j ∧ g 23 j < 7) ∧ g 25 (g 23 j) = A j ∧ 0 ≤ A j ∧ A j ≤ 1392) : mm_call mX8_together [vR 4] g = some ([vI (sm A (g 4 0).toNat)], g) := by
  have L : ∀ (m : Nat) (k a : Int), 0 ≤ k → k ≤ g 4 0 → g 4 0 - k ≤ m → a = sm A k.toNat → mm_ev mX8_together 1 4 [some (vR 4), some (vI a), some (vI k)] [] g = some ([vI (sm A (g 4 0).toNat)], g) := by
    intro m
    induction m with
    | zero =>
      intro k a k0 k1 km ha
      rw [X8a_together_4, if_pos (by omega), ha, show k = g 4 0 from by omega]
    | succ m ih =>
      intro k a k0 k1 km ha
      by_cases q : g 4 0 ≤ k
      · rw [X8a_together_4, if_pos q, ha, show k = g 4 0 from by omega]
      · obtain ⟨b1, b2, b3, b4⟩ := hA k k0 (by omega)
        have sb := sm_b (A := A) (c := 1392) k.toNat (fun i i0 i1 => (hA i i0 (by omega)).2.2)
        have w2 : w32 (a + A k) = sm A (k + 1).toNat := by
          rw [sm_s k0, ← ha, w32_id (by unfold mm_r32; omega)]
        have w4 : w32 (k + 1) = k + 1 := w32_id (by unfold mm_r32; omega)
        rw [X8a_together_4, if_neg q, if_pos (by omega), if_pos (by omega), b2, w2, w4]
        exact ih (k + 1) _ (by omega) (by omega) (by omega) rfl
  rw [X8a_together_c]
  exact L 6 0 0 (by omega) n6.1 (by omega) rfl
theorem WG_A {g : mm_M} (z : mm_WG g) (n7 : g 1 1 ≤ 7) (hb : ∀ i : Int, 0 ≤ i → i < 14 → 0 ≤ g 11 i ∧ g 11 i ≤ 99) {j : Int} (j0 : 0 ≤ j) (j1 : j < g 4 0) : (0 < g 23 j ∧ g 23 j < 7) ∧ g 25 (g 23 j) = ar (wDi g) (g 23) j ∧ 0 ≤ ar (wDi g) (g 23) j ∧ ar (wDi g) (g 23) j ≤ 1392 ∧ (0 < j → ar (wDi g) (g 23) (j - 1) < ar (wDi g) (g 23) j) := by
  have b := WG_ab z n7 hb j0 j1
  have v := z.2.2.1 j j0 j1
  refine ⟨by omega, v.2.2, b.1, b.2, fun w => ?_⟩
  have e := ar1 (wDi g) (g 23) (j - 1) (by omega)
  rw [show j - 1 + 1 = j from by omega] at e
  have v2 := z.2.2.1 (j - 1) (by omega) (by omega)
  have := wDi_b (h := g) (p := g 23 (j - 1)) (q := g 23 j) (by omega) (by omega) hb
  omega
theorem LAY_A {g f : mm_M} (z : mm_WG g) (n7 : g 1 1 ≤ 7) (hb : ∀ i : Int, 0 ≤ i → i < 14 → 0 ≤ g 11 i ∧ g 11 i ≤ 99) (y : mm_LAY g f) {j : Int} (j0 : 0 ≤ j) (j1 : j < f 47 35) : (0 < f 68 j ∧ f 68 j < 7) ∧ f 69 (f 68 j) = f 47 12 + ar (wDi g) (g 23) j ∧ 0 ≤ ar (wDi g) (g 23) j ∧ ar (wDi g) (g 23) j ≤ 1392 ∧ (0 < j → ar (wDi g) (g 23) (j - 1) < ar (wDi g) (g 23) j) := by
  obtain ⟨y1, y2, y3⟩ := y
  obtain ⟨a, b, c, d, e⟩ := WG_A z n7 hb j0 (show j < g 4 0 by omega)
  rw [y2 j j0 (by omega)]
  refine ⟨a, ?_, c, d, e⟩
  rw [y3 _ (by omega) a.2, bh_at z j0 (by omega)]
  unfold mm_tH
  rw [if_neg (by omega)]
