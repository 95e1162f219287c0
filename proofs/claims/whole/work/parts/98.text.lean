/-! the law: the text -/
theorem tr_w8 {s w x : Int} (h : mm_tr s w x) : w8 w = w := by
  have : 1 ≤ w ∧ w ≤ 124 := by
    unfold mm_tr mm_bin at h
    omega
  unfold w8
  omega
theorem mm_E_c8 {c c' w w' x x' : Int → Int} {a A n M : Int} (h : ∀ k : Int, 0 ≤ k → k < n → c' (a + k) = c (a + k) ∧ (w' (A + k) = w (A + k) ∨ w' (A + k) = w8 (w (A + k))) ∧ x' (A + k) = x (A + k)) (z : mm_E c a w x A n M) : mm_E c' a w' x' A n M := by
  refine mm_E_co (fun k k0 k1 => ?_) z
  obtain ⟨h1, h2, h3⟩ := h k k0 k1
  refine ⟨h1.symm, ?_, h3.symm⟩
  rcases h2 with w | w
  · exact w.symm
  · rw [w, tr_w8 (z.1 k k0 k1)]
theorem LN_co {c c' w w' x x' t t' e e' a A : Int → Int} {lm : Int} (z : mm_LN c w x t e a A lm) (hc : ∀ l, 0 ≤ l → l < lm → ∀ j, a l ≤ j → j < a (l + 1) → c' j = c j) (hw : ∀ l, 0 ≤ l → l < lm → ∀ j, A l ≤ j → j < A (l + 1) → (w' j = w j ∨ w' j = w8 (w j)) ∧ x' j = x j) (ht : ∀ l, 0 ≤ l → l < lm → (t' l = t l ∨ t' l = w16 (t l)) ∧ (e' l = e l ∨ e' l = w16 (e l))) : mm_LN c' w' x' t' e' a A lm := by
  obtain ⟨z1, z2, z3⟩ := z
  refine ⟨z1, z2, fun l l0 l1 => ?_⟩
  obtain ⟨b1, b2, b3, b4, b5, b6, b7⟩ := z3 l l0 l1
  obtain ⟨ht1, ht2⟩ := ht l l0 l1
  have et : t' l = t l := by
    rcases ht1 with w | w
    · exact w
    · rw [w]
      unfold w16
      omega
  have ee : e' l = e l := by
    rcases ht2 with w | w
    · exact w
    · rw [w]
      unfold w16
      omega
  have hc := hc l l0 l1
  have hw := hw l l0 l1
  rw [et, ee]
  refine ⟨b1, b2, b3, b4, b5, fun q => ?_, fun q => ?_⟩
  · obtain ⟨d1, d2, d3⟩ := b6 q
    refine ⟨mm_E_c8 (fun k k0 k1 => ⟨hc _ (by omega) (by omega), (hw _ (by omega) (by omega)).1, (hw _ (by omega) (by omega)).2⟩) d1, ?_, d3⟩
    rw [hc _ (by omega) (by omega)]
    exact d2
  · obtain ⟨d1, d2, d3, d4, d5⟩ := b7 q
    refine ⟨mm_E_c8 (fun k k0 k1 => ⟨hc _ (by omega) (by omega), (hw _ (by omega) (by omega)).1, (hw _ (by omega) (by omega)).2⟩) d1, ?_, mm_E_c8 (fun k k0 k1 => ⟨hc _ (by omega) (by omega), (hw _ (by omega) (by omega)).1, (hw _ (by omega) (by omega)).2⟩) d3, ?_, d5⟩
    · rw [hc _ (by omega) (by omega)]
      exact d2
    · rw [hc _ (by omega) (by omega)]
      exact d4
theorem LN_sn {c w x t e a A : Int → Int} {lm m l m' l' : Int} (z : mm_LN c w x t e a A lm) (l0 : 0 ≤ lm) (em : a lm = m) (el : A lm = l) (hl : 0 ≤ l) (ee : e lm = l') (b : l ≤ t lm ∧ t lm < l' ∧ l' ≤ 120) (s1 : t lm = l → mm_E c m w x l (l' - l) 64 ∧ c (m + (l' - l)) = -59 ∧ m' = m + (l' - l) + 1) (s2 : ¬ t lm = l → mm_E c m w x l (t lm - l) 64 ∧ c (m + (t lm - l)) = -63 ∧ mm_E c (m + (t lm - l) + 1) w x (t lm) (l' - t lm) 64 ∧ c (m + (l' - l) + 1) = -59 ∧ m' = m + (l' - l) + 2) : mm_LN c w x t e (fun i => if i = lm + 1 then m' else a i) (fun i => if i = lm + 1 then l' else A i) (lm + 1) := by
  obtain ⟨z1, z2, z3⟩ := z
  refine ⟨?_, ?_, fun i i0 i1 => ?_⟩
  · show (if (0 : Int) = lm + 1 then m' else a 0) = 0
    rw [if_neg (by omega)]
    exact z1
  · show (if (0 : Int) = lm + 1 then l' else A 0) = 0
    rw [if_neg (by omega)]
    exact z2
  · show 0 ≤ (if i = lm + 1 then l' else A i) ∧ (if i = lm + 1 then l' else A i) ≤ t i ∧ t i < e i ∧ e i ≤ 120 ∧ (if i + 1 = lm + 1 then l' else A (i + 1)) = e i ∧ (t i = (if i = lm + 1 then l' else A i) → mm_E c (if i = lm + 1 then m' else a i) w x (if i = lm + 1 then l' else A i) (e i - (if i = lm + 1 then l' else A i)) 64 ∧ c ((if i = lm + 1 then m' else a i) + (e i - (if i = lm + 1 then l' else A i))) = -59 ∧ (if i + 1 = lm + 1 then m' else a (i + 1)) = (if i = lm + 1 then m' else a i) + (e i - (if i = lm + 1 then l' else A i)) + 1) ∧ (¬ t i = (if i = lm + 1 then l' else A i) → mm_E c (if i = lm + 1 then m' else a i) w x (if i = lm + 1 then l' else A i) (t i - (if i = lm + 1 then l' else A i)) 64 ∧ c ((if i = lm + 1 then m' else a i) + (t i - (if i = lm + 1 then l' else A i))) = -63 ∧ mm_E c ((if i = lm + 1 then m' else a i) + (t i - (if i = lm + 1 then l' else A i)) + 1) w x (t i) (e i - t i) 64 ∧ c ((if i = lm + 1 then m' else a i) + (e i - (if i = lm + 1 then l' else A i)) + 1) = -59 ∧ (if i + 1 = lm + 1 then m' else a (i + 1)) = (if i = lm + 1 then m' else a i) + (e i - (if i = lm + 1 then l' else A i)) + 2)
    by_cases q : i = lm
    · subst q
      rw [if_neg (show ¬ i = i + 1 by omega), if_neg (show ¬ i = i + 1 by omega), if_pos rfl, if_pos rfl, em, el, ee]
      exact ⟨hl, b.1, b.2.1, b.2.2, rfl, s1, s2⟩
    · rw [if_neg (show ¬ i = lm + 1 by omega), if_neg (show ¬ i = lm + 1 by omega), if_neg (show ¬ i + 1 = lm + 1 by omega), if_neg (show ¬ i + 1 = lm + 1 by omega)]
      exact z3 i i0 (by omega)
abbrev mm_tt (f : mm_M) (i : Int) : Int := f 64 (61 + i)
abbrev mm_te (f : mm_M) (i : Int) : Int := f 65 (61 + i)
def mm_TG (x f : mm_M) : Prop := x 2 3 = 0 ∧ f 47 23 = -1 ∧ (0 ≤ f 47 25 ∧ f 47 25 ≤ 120) ∧ (0 < x 2 5 ∧ x 2 5 ≤ 121) ∧ (1 ≤ f 63 1 ∧ f 63 1 ≤ 61) ∧ ∃ a A : Int → Int, mm_LN (x (x 2 4).toNat) (mm_w f) (mm_x f) (mm_tt f) (mm_te f) a A (f 63 1) ∧ a (f 63 1) = x 2 5 ∧ A (f 63 1) = f 47 25 ∧ ∀ i : Int, 0 ≤ i → i < f 63 1 → a (i + 1) ≤ x 2 5 ∧ A (i + 1) ≤ f 47 25
def mm_TB (x f : mm_M) : Prop := ¬ x 2 3 = 0 ∧ x 2 2 = f 47 23 ∧ 0 ≤ f 47 23 ∧ f 47 23 ≤ 120
theorem tx_loop (N : Int) : ∀ (c : Nat) (x f : mm_M) (p m l lm : Int) (a A : Int → Int), N - p < c → mm_gs x f N p m l 0 → f 63 1 = lm → 0 ≤ lm → 2 * lm ≤ p → mm_LN (x (x 2 4).toNat) (mm_w f) (mm_x f) (mm_tt f) (mm_te f) a A lm → a lm = m → A lm = l → (∀ i : Int, 0 ≤ i → i < lm → a (i + 1) ≤ m ∧ A (i + 1) ≤ l) → ∃ f1 x' f', mm_ev mX3_readText 81 17 [some (vR 2), some (vI lm)] [] x = some ([], x') ∧ mm_call mX10_line [vR 47] f = some ([], f1) ∧ mm_ev mX10_readText 82 31 [some (vR 47), some (vI 0), none] [] f1 = mm_ev mX10_readText 82 86 [some (vR 47), some (vI 0), none] [] f' ∧ mm_xc 0 x x' ∧ mm_lfr 0 0 f f' ∧ (mm_TG x' f' ∨ mm_TB x' f') := by
  intro c
  induction c with
  | zero =>
    intro x f p m l lm a A hc g
    have := g.2.2.2.1
    omega
  | succ c ih =>
    intro x f p m l lm a A hc g e63 lm0 lm2 LN am Al LB
    have t4 := g.1.2.2.2.1
    have d1 := g.2.2.2.1
    have d2 := g.2.2.2.2.1
    have d3 := g.2.2.2.2.2
    have wl : w32 (lm + 1) = lm + 1 := w32_id (by unfold mm_r32; omega)
    obtain ⟨x1, f1, ec, er, X, F, R⟩ := ln_one g e63 ⟨lm0, by omega⟩ lm (by omega)
    have X0 : mm_xc 0 x x1 := mm_xc.rf.tr X d3.1
    have F0 : mm_lfr 0 0 f f1 := mm_lfr.rf.tr F d2.1 lm0
    rcases R with ⟨q, m', l', tt, pq, t, ⟨x2, x3, x5⟩, ⟨f2, f3, f4, f5, f6, f7, f8⟩, b, s1, s2⟩ | R
    · have t1 := t.1
      have t2 := t.2.1
      have sp := t.2.2.2.2.2
      have nx := nx_eq t x2 f2 (by omega)
      have LN1 : mm_LN (x1 (x1 2 4).toNat) (mm_w f1) (mm_x f1) (mm_tt f1) (mm_te f1) a A lm := by
        refine LN_co LN (fun i i0 i1 j j0 j1 => ?_) (fun i i0 i1 j j0 j1 => ⟨Or.inl ?_, ?_⟩) (fun i i0 i1 => ⟨Or.inl ?_, Or.inl ?_⟩)
        · have := LB i i0 i1
          rw [X.sp]
          exact X _ j (by have := g.1.2.2.2.2.2; omega) (by omega)
        · have := LB i i0 i1
          exact F 61 _ (by omega) (by omega) (by omega) (by omega)
        · have := LB i i0 i1
          exact F 62 _ (by omega) (by omega) (by omega) (by omega)
        · exact F 64 _ (by omega) (by omega) (by omega) (by omega)
        · exact F 65 _ (by omega) (by omega) (by omega) (by omega)
      have f7' : mm_tt f1 lm = tt := f7
      have LN2 := LN_sn (m' := m') (l' := l') LN1 lm0 am Al d2.1 f8 (by rw [f7']; omega) (by rw [f7']; exact s1) (by rw [f7']; exact s2)
      have LB2 : ∀ i : Int, 0 ≤ i → i < lm + 1 → (if i + 1 = lm + 1 then m' else a (i + 1)) ≤ m' ∧ (if i + 1 = lm + 1 then l' else A (i + 1)) ≤ l' := fun i i0 i1 => by
        by_cases z : i + 1 = lm + 1
        · rw [if_pos z, if_pos z]
          omega
        · have := LB i i0 (by omega)
          rw [if_neg z, if_neg z]
          omega
      rw [X3_readText_70, if_neg (fun w => w x3)] at ec
      by_cases qN : q < N
      · rw [if_pos (by omega), c_skips (by omega) (by omega) (by decide)] at ec
        have lk := s_look (f := f1) (by omega) (by omega)
        by_cases s59 : nxC x1 = 59
        · have wq : w32 (q + 1) = q + 1 := w32_id (by unfold mm_r32; omega)
          have same : mUp (mUp x1 2 2 (q + 1)) 2 3 0 = mUp x1 2 2 (q + 1) := by
            funext c i
            rw [mUp_at]
            by_cases w : c = 2 ∧ i = 3
            · rw [if_pos w, w.1, w.2, mUp_nei (by decide), x3]
            · rw [if_neg w]
          rw [if_pos s59, mm_be1, X3_readText_96, if_pos (by decide), wl, x2, same] at ec
          have X3' : mm_xc m' x1 (mUp x1 2 2 (q + 1)) := fun c i q1 q2 => by rw [mUp_at, if_neg (by omega)]
          have F3' : mm_fc l' f1 (mUp f1 47 22 (q + 1)) := fun c i q1 q2 => by rw [mUp_at, if_neg (by omega)]
          have g3 : mm_gs (mUp x1 2 2 (q + 1)) (mUp f1 47 22 (q + 1)) N (q + 1) m' l' 0 := by
            refine ⟨mm_tape.co X3' F3' t, ⟨mUp_self _ _ _ _, ?_, ?_⟩, ⟨mUp_self _ _ _ _, ?_, ?_, ?_⟩, by omega, by omega, by omega⟩
            · rw [mUp_nei (by decide)]; exact x3
            · rw [mUp_nei (by decide)]; exact x5
            · rw [mUp_nei (by decide)]; exact f3
            · rw [mUp_nei (by decide)]; exact f4
            · rw [mUp_nei (by decide)]; exact f5
          have LN3 : mm_LN ((mUp x1 2 2 (q + 1)) ((mUp x1 2 2 (q + 1)) 2 4).toNat) (mm_w (mUp f1 47 22 (q + 1))) (mm_x (mUp f1 47 22 (q + 1))) (mm_tt (mUp f1 47 22 (q + 1))) (mm_te (mUp f1 47 22 (q + 1))) (fun i => if i = lm + 1 then m' else a i) (fun i => if i = lm + 1 then l' else A i) (lm + 1) := by
            refine LN_co LN2 (fun i i0 i1 j j0 j1 => ?_) (fun i i0 i1 j j0 j1 => ⟨Or.inl ?_, ?_⟩) (fun i i0 i1 => ⟨Or.inl ?_, Or.inl ?_⟩)
            · rw [mUp_nei (show (4 : Int) ≠ 2 by decide), mUp_ne (by omega)]
            · show mUp f1 47 22 (q + 1) 61 _ = _
              rw [mUp_ne (by decide)]
            · show mUp f1 47 22 (q + 1) 62 _ = _
              rw [mUp_ne (by decide)]
            · show mUp f1 47 22 (q + 1) 64 _ = _
              rw [mUp_ne (by decide)]
            · show mUp f1 47 22 (q + 1) 65 _ = _
              rw [mUp_ne (by decide)]
          obtain ⟨f9, x', f', i1, i2, i3, i4, i5, i6⟩ := ih (mUp x1 2 2 (q + 1)) (mUp f1 47 22 (q + 1)) (q + 1) m' l' (lm + 1) (fun i => if i = lm + 1 then m' else a i) (fun i => if i = lm + 1 then l' else A i) (by omega) g3 (by rw [mUp_ne (by decide)]; exact f6) (by omega) (by omega) LN3 (by show (if lm + 1 = lm + 1 then m' else a (lm + 1)) = m'; rw [if_pos rfl]) (by show (if lm + 1 = lm + 1 then l' else A (lm + 1)) = l'; rw [if_pos rfl]) LB2
          refine ⟨f1, x', f', ec.trans i1, er, ?_, (X0.tr (mm_xc.rf.tr X3' (by omega)) (Int.le_refl _)).tr i4 (Int.le_refl _), (F0.tr (F3'.fl (by omega)) (Int.le_refl _) (Int.le_refl _)).tr i5 (Int.le_refl _) (Int.le_refl _), i6⟩
          rw [X10_readText_31, if_neg (by omega), lk, mm_be1, X10_readText_42, if_neg (by omega), f2, wq, i2, mm_be0, X10_readText_61, i3]
        · have X3' : mm_xc m' x1 (mUp x1 2 3 1) := fun c i q1 q2 => by rw [mUp_at, if_neg (by omega)]
          have F3' : mm_fc l' f1 (mUp f1 47 23 q) := fun c i q1 q2 => by rw [mUp_at, if_neg (by omega)]
          rw [if_neg s59, mm_be1, X3_readText_96, if_neg (by decide), wl, X3_readText_17 (mUp x1 2 3 1) (lm + 1), if_neg (by omega), if_pos (by rw [mUp_self]; decide)] at ec
          refine ⟨f1, _, mUp f1 47 23 q, ec, er, ?_, X0.tr X3' (by omega), F0.tr (F3'.fl (by omega)) (Int.le_refl _) (Int.le_refl _), Or.inr ⟨by rw [mUp_self]; decide, ?_, ?_, ?_⟩⟩
          · rw [X10_readText_31, if_neg (by omega), lk, mm_be1, X10_readText_42, if_pos (by omega), X10_readText_64, if_neg (by omega), if_neg (by omega), s_faulty, if_neg (by omega), f2, mm_be0]
          · rw [mUp_nei (by decide), mUp_self]; exact x2
          · rw [mUp_self]; omega
          · rw [mUp_self]; omega
      · rw [if_neg (by omega)] at ec
        refine ⟨f1, x1, f1, ec, er, ?_, X0, F0, Or.inl ⟨x3, f3, by omega, by omega, by omega, _, _, by rw [f6]; exact LN2, ?_, ?_, ?_⟩⟩
        · rw [X10_readText_31, if_neg (by omega), s_look (by omega) (by omega), mm_be1, X10_readText_42, if_pos (by
            unfold nxR
            rw [if_pos (by omega)]
            decide), X10_readText_64, if_neg (by omega), if_pos (by omega)]
        · rw [f6, x5]
          show (if lm + 1 = lm + 1 then m' else a (lm + 1)) = m'
          rw [if_pos rfl]
        · rw [f6, f5]
          show (if lm + 1 = lm + 1 then l' else A (lm + 1)) = l'
          rw [if_pos rfl]
        · rw [f6, f5, x5]
          exact LB2
    · obtain ⟨q, h1, tq, ⟨y2, b1, b2⟩, h2, h3, l0, h4, h5⟩ := R
      have tq1 := tq.1
      have er2 : mm_ev mX10_readText 82 31 [some (vR 47), some (vI 0), none] [] f1 = mm_ev mX10_readText 82 86 [some (vR 47), some (vI 0), none] [] f1 := by
        rw [X10_readText_31, if_pos (by omega), X10_readText_64, if_pos (by omega)]
      by_cases e2 : x1 2 3 = 0
      · have dq : q < N ∧ 48 ≤ x1 15 q ∧ x1 15 q ≤ 57 := by
          rcases h2 with w | w
          · exact absurd e2 w
          · exact w
        have nq : nxC x1 = x1 15 q := by
          unfold nxC
          rw [tq1, y2, if_neg (by omega)]
        have X3' : mm_xc 0 x1 (mUp x1 2 3 1) := fun c i q1 q2 => by rw [mUp_at, if_neg (by omega)]
        rw [X3_readText_70, if_neg (fun w => w e2), if_pos (by omega), c_skips (by omega) (by omega) (by decide), if_neg (by omega), mm_be1, X3_readText_96, if_neg (by decide), wl, X3_readText_17 (mUp x1 2 3 1) (lm + 1), if_neg (by omega), if_pos (by rw [mUp_self]; decide)] at ec
        refine ⟨f1, _, f1, ec, er, er2, X0.tr X3' (Int.le_refl _), F0, Or.inr ⟨by rw [mUp_self]; decide, ?_, by omega, by omega⟩⟩
        rw [mUp_nei (by decide)]
        omega
      · rw [X3_readText_70, if_pos e2] at ec
        exact ⟨f1, x1, f1, ec, er, er2, X0, F0, Or.inr ⟨e2, by omega, by omega, by omega⟩⟩
