/-! the law: numbers, names and the smallest steps of an operand -/
theorem c_isDigit (h : mm_M) (s : Int) : mm_call mX3_isDigit [vI s] h = some ([vI (if 48 ≤ s ∧ s ≤ 57 then 1 else 0)], h) := by
  rw [X3_isDigit_c]
  by_cases a : s < 48
  · rw [if_pos a, if_neg (by omega)]
  · rw [if_neg a]
    by_cases b : 57 < s
    · rw [if_pos b, if_neg (by omega)]
    · rw [if_neg b, if_pos (by omega)]
abbrev mm_lnm (s : Int) : Prop := s = 121 ∨ s = 110 ∨ s = 99 ∨ s = 112 ∨ s = 119 ∨ s = 108
theorem c_isNm (h : mm_M) (s : Int) : mm_call mX3_isName [vI s] h = some ([vI (if mm_lnm s then 1 else 0)], h) := by
  rw [X3_isName_c]
  by_cases q : mm_lnm s
  · rw [if_pos q]
    unfold mm_lnm at q
    rcases q with rfl | rfl | rfl | rfl | rfl | rfl
    · rw [if_pos rfl]
    · rw [if_neg (by decide), if_pos rfl]
    · rw [if_neg (by decide), if_neg (by decide), if_pos rfl]
    · rw [if_neg (by decide), if_neg (by decide), if_neg (by decide), if_pos rfl]
    · rw [if_neg (by decide), if_neg (by decide), if_neg (by decide), if_neg (by decide), if_pos rfl]
    · rw [if_neg (by decide), if_neg (by decide), if_neg (by decide), if_neg (by decide), if_neg (by decide), if_neg (by decide)]
  · rw [if_neg q]
    unfold mm_lnm at q
    rw [if_neg (by omega), if_neg (by omega), if_neg (by omega), if_neg (by omega), if_neg (by omega), if_pos (by omega)]
theorem s_nameOf (h : mm_M) (s : Int) : (mm_lnm s ∧ ∃ v, mm_call mX10_nameOf [vI s] h = some ([vI v], h) ∧ 0 ≤ v ∧ mm_tr (-s) 2 v) ∨ (¬ mm_lnm s ∧ mm_call mX10_nameOf [vI s] h = some ([vI (-1)], h)) := by
  by_cases q : mm_lnm s
  · left
    refine ⟨q, ?_⟩
    rw [X10_nameOf_c]
    unfold mm_lnm at q
    rcases q with rfl | rfl | rfl | rfl | rfl | rfl
    · exact ⟨0, by rw [if_neg (by decide), if_neg (by decide), if_neg (by decide), if_neg (by decide), if_neg (by decide), if_pos rfl], by decide, by unfold mm_tr; omega⟩
    · exact ⟨1, by rw [if_neg (by decide), if_neg (by decide), if_pos rfl], by decide, by unfold mm_tr; omega⟩
    · exact ⟨2, by rw [if_pos rfl], by decide, by unfold mm_tr; omega⟩
    · exact ⟨3, by rw [if_neg (by decide), if_neg (by decide), if_neg (by decide), if_pos rfl], by decide, by unfold mm_tr; omega⟩
    · exact ⟨4, by rw [if_neg (by decide), if_neg (by decide), if_neg (by decide), if_neg (by decide), if_pos rfl], by decide, by unfold mm_tr; omega⟩
    · exact ⟨5, by rw [if_neg (by decide), if_pos rfl], by decide, by unfold mm_tr; omega⟩
  · right
    refine ⟨q, ?_⟩
    unfold mm_lnm at q
    rw [X10_nameOf_c, if_neg (by omega), if_neg (by omega), if_neg (by omega), if_neg (by omega), if_neg (by omega), if_neg (by omega)]
theorem s_faulty (f : mm_M) : mm_call mX10_faulty [vR 47] f = if 0 ≤ f 47 23 then some ([], f) else some ([], mUp f 47 23 (f 47 22)) := X10_faulty_c f
theorem c_skips {x : mm_M} (a : 0 ≤ x 2 2) (b : x 2 0 ≤ 120) {s : Int} (s0 : 0 ≤ s) : mm_call mX3_skips [vR 2, vI s] x = if nxC x = s then some ([vI 1], mUp x 2 2 (x 2 2 + 1)) else some ([vI 0], x) := by
  rw [X3_skips_c, c_next a b, mm_be1, X3_skips_4]
  by_cases q : nxC x = s
  · have w4 : w32 (x 2 2 + 1) = x 2 2 + 1 := by
      unfold nxC at q
      by_cases z : x 2 0 ≤ x 2 2
      · rw [if_pos z] at q
        omega
      · exact w32_id (by unfold mm_r32; omega)
    rw [if_pos q, if_pos q, w4]
  · rw [if_neg q, if_neg q]
/-- a fault found here: the reference notes it, the class is broken or stands at a digit -/
theorem gs_no {x f : mm_M} {N q m l o : Int} (g : mm_gs x f N q m l o) (h : 48 ≤ nxC x ∧ nxC x ≤ 57) : mm_pno x (mUp f 47 23 q) N q m l ∧ mm_fc l f (mUp f 47 23 q) := by
  obtain ⟨t, ⟨a1, a2, a3⟩, ⟨b1, b2, b3, b4⟩, d1, d2, d3⟩ := g
  have i := nx_in t a1 (by omega)
  have F : mm_fc l f (mUp f 47 23 q) := fun c i q1 q2 => by rw [mUp_at, if_neg (by omega)]
  have t4 := t.2.2.2.1
  refine ⟨⟨q, ⟨d1.1, Int.le_refl _, d1.2⟩, mm_tape.co (m := m) mm_xc.rf F t, ⟨a1, by rw [mUp_nei (by decide)]; exact b1, mUp_self _ _ _ _⟩, Or.inr ⟨i.1, by omega, by omega⟩, ⟨d3.1, by omega, by omega⟩, d2.1, ?_, ?_⟩, F⟩
  · rw [mUp_nei (by decide)]; omega
  · rw [mUp_nei (by decide)]; omega
theorem gs_br {x f : mm_M} {N q m l o : Int} (g : mm_gs x f N q m l o) : mm_pno (mUp x 2 3 1) (mUp f 47 23 q) N q m l ∧ mm_xc m x (mUp x 2 3 1) ∧ mm_fc l f (mUp f 47 23 q) := by
  obtain ⟨t, ⟨a1, a2, a3⟩, ⟨b1, b2, b3, b4⟩, d1, d2, d3⟩ := g
  have X : mm_xc m x (mUp x 2 3 1) := fun c i q1 q2 => by rw [mUp_at, if_neg (by omega)]
  have F : mm_fc l f (mUp f 47 23 q) := fun c i q1 q2 => by rw [mUp_at, if_neg (by omega)]
  have t4 := t.2.2.2.1
  refine ⟨⟨q, ⟨d1.1, Int.le_refl _, d1.2⟩, mm_tape.co X F t, ⟨by rw [mUp_nei (by decide)]; exact a1, by rw [mUp_nei (by decide)]; exact b1, mUp_self _ _ _ _⟩, Or.inl (by rw [mUp_self]; decide), ⟨d3.1, ?_, ?_⟩, d2.1, ?_, ?_⟩, X, F⟩
  · rw [mUp_nei (by decide)]; omega
  · rw [mUp_nei (by decide)]; omega
  · rw [mUp_nei (by decide)]; omega
  · rw [mUp_nei (by decide)]; omega
theorem pno_br {x f : mm_M} {N p m l : Int} (z : mm_pno x f N p m l) : mm_pno (mUp x 2 3 1) f N p m l ∧ mm_xc m x (mUp x 2 3 1) := by
  obtain ⟨q, h1, t, ⟨a1, b1, b2⟩, h2, h3, l0, h4, h5⟩ := z
  have X : mm_xc m x (mUp x 2 3 1) := fun c i q1 q2 => by rw [mUp_at, if_neg (by omega)]
  refine ⟨⟨q, h1, mm_tape.co (l := l) X mm_fc.rf t, ⟨by rw [mUp_nei (by decide)]; exact a1, b1, b2⟩, Or.inl (by rw [mUp_self]; decide), by rw [mUp_nei (by decide)]; exact h3, l0, h4, h5⟩, X⟩
theorem pno_op {x f : mm_M} {N p m l : Int} (z : mm_pno x f N p m l) (v : Int) : mm_pno x (mUp f 47 24 v) N p m l ∧ mm_fc l f (mUp f 47 24 v) := by
  obtain ⟨q, h1, t, ⟨a1, b1, b2⟩, h2, h3, l0, h4, h5⟩ := z
  have F : mm_fc l f (mUp f 47 24 v) := fun c i q1 q2 => by rw [mUp_at, if_neg (by omega)]
  refine ⟨⟨q, h1, mm_tape.co (m := m) mm_xc.rf F t, ⟨a1, by rw [mUp_nei (by decide)]; exact b1, by rw [mUp_nei (by decide)]; exact b2⟩, h2, h3, l0, by rw [mUp_nei (by decide)]; exact h4, by rw [mUp_nei (by decide)]; exact h5⟩, F⟩
theorem gs_op {x f : mm_M} {N p m l o : Int} (g : mm_gs x f N p m l o) (v : Int) : mm_gs x (mUp f 47 24 v) N p m l v ∧ mm_fc l f (mUp f 47 24 v) := by
  obtain ⟨t, a, ⟨b1, b2, b3, b4⟩, d⟩ := g
  have F : mm_fc l f (mUp f 47 24 v) := fun c i q1 q2 => by rw [mUp_at, if_neg (by omega)]
  exact ⟨⟨mm_tape.co (m := m) mm_xc.rf F t, a, ⟨by rw [mUp_nei (by decide)]; exact b1, by rw [mUp_nei (by decide)]; exact b2, mUp_self _ _ _ _, by rw [mUp_nei (by decide)]; exact b4⟩, d⟩, F⟩
theorem nd_1 : mm_nd 1 = 0 := by unfold mm_nd; rw [if_pos (by decide)]
theorem nd_2 : mm_nd 2 = 0 := by unfold mm_nd; rw [if_pos (by decide)]
theorem nd_3 : mm_nd 3 = 1 := by unfold mm_nd; rw [if_neg (by decide), if_pos (by decide)]
theorem nd_4 : mm_nd 4 = 1 := by unfold mm_nd; rw [if_neg (by decide), if_pos (by decide)]
theorem num_loop (o p m l M : Int) (hM : 1 ≤ M) (x0 f0 : mm_M) (N : Int) (p0 : 0 ≤ p ∧ 0 ≤ m ∧ 0 ≤ l ∧ m ≤ p ∧ l ≤ p) : ∀ (c : Nat) (k v : Int) (x f : mm_M), 4 - k ≤ c → 0 ≤ k → k ≤ 4 → mm_gs x f N (p + k) m l o → mm_xc m x0 x → mm_fc l f0 f → (k = 0 → 48 ≤ nxC x ∧ nxC x ≤ 57) → 0 ≤ v → v ≤ 9999 → (k = 0 → v = 0) → (k = 1 → v ≤ 9) → (k = 2 → v ≤ 99) → (k = 3 → v ≤ 999) → ∃ x' f', mm_ev mX3_readNumber 2 4 [some (vR 2), some (vI v), some (vI k)] [] x = some ([], x') ∧ mm_ev mX10_figure 2 4 [some (vR 47), some (vI v), some (vI k)] [] f = some ([], f') ∧ mm_rs x0 f0 x' f' N p m l o M := by
  intro c
  have fin : ∀ (k v : Int) (x f : mm_M), 0 < k → mm_gs x f N (p + k) m l o → mm_xc m x0 x → mm_fc l f0 f → 0 ≤ v → v ≤ 9999 → ∃ x' f', mm_call mX3_add [vR 2, vI v] x = some ([], x') ∧ mm_ev mX10_figure 2 52 [some (vR 47), some (vI v), some (vI k)] [] f = some ([], f') ∧ mm_rs x0 f0 x' f' N p m l o M := by
    intro k v x f k0 g X F v0 v1
    obtain ⟨t, ⟨x2, x3, x5⟩, ⟨f2, f3, f4, f5⟩, d1, d2, d3⟩ := id g
    have t2 := t.2.1
    have t4 := t.2.2.2.1
    have nx := nx_eq t x2 f2 d1.1
    by_cases dg : 48 ≤ nxR f ∧ nxR f ≤ 57
    · obtain ⟨z, F1⟩ := gs_no g (by omega)
      obtain ⟨x', f', e1, e2, z2, X2, F2⟩ := no_add z (by omega) p (by omega) p0.1 v 1 v
      refine ⟨x', f', e1, ?_, X.tr X2 (Int.le_refl _), (F.tr F1 (Int.le_refl _)).tr F2 (Int.le_refl _), Or.inr z2⟩
      rw [X10_figure_52, if_neg (by omega), s_look (by omega) (by omega), mm_be1, X10_figure_60, s_in, mm_be1, if_pos dg, X10_figure_67, if_neg (by decide), s_faulty, if_neg (by omega), f2, mm_be0, X10_figure_74, e2, mm_be0, X10_figure_80]
    · obtain ⟨x', f', e1, e2, g3, X2, F2, v1', v2', v3', v4', v5'⟩ := gs_add g (by omega) (by omega) v 1 v
      refine ⟨x', f', e1, ?_, X.tr X2 (Int.le_refl _), F.tr F2 (Int.le_refl _), Or.inl ⟨p + k, 1, by omega, g3, by decide, by omega, ?_⟩⟩
      · rw [X10_figure_52, if_neg (by omega), s_look (by omega) (by omega), mm_be1, X10_figure_60, s_in, mm_be1, if_neg dg, X10_figure_67, if_pos rfl, X10_figure_74, e2, mm_be0, X10_figure_80]
      · have w1 : w8 1 = 1 := by decide
        exact mm_E_1 (by rw [v1', v3', v4', w1]; exact Or.inl ⟨v0, rfl, rfl⟩) (by rw [v3', w1]; exact nd_1) hM
  induction c with
  | zero =>
    intro k v x f hc k0 k4 g X F dg v0 v1 b0 b1 b2 b3
    obtain ⟨x', f', e1, e2, R⟩ := fin k v x f (by omega) g X F v0 v1
    refine ⟨x', f', ?_, ?_, R⟩
    · rw [X3_readNumber_4, if_pos (by omega), e1, mm_be0, X3_readNumber_53]
    · rw [X10_figure_4, if_pos (by omega), e2]
  | succ c ih =>
    intro k v x f hc k0 k4 g X F dg v0 v1 b0 b1 b2 b3
    by_cases q : k = 4
    · obtain ⟨x', f', e1, e2, R⟩ := fin k v x f (by omega) g X F v0 v1
      refine ⟨x', f', ?_, ?_, R⟩
      · rw [X3_readNumber_4, if_pos (by omega), e1, mm_be0, X3_readNumber_53]
      · rw [X10_figure_4, if_pos (by omega), e2]
    · obtain ⟨t, ⟨x2, x3, x5⟩, ⟨f2, f3, f4, f5⟩, d1, d2, d3⟩ := id g
      have t1 := t.1
      have t2 := t.2.1
      have t4 := t.2.2.2.1
      have nx := nx_eq t x2 f2 d1.1
      by_cases dg1 : 48 ≤ nxC x ∧ nxC x ≤ 57
      · have eqn : nxC x = nxR f := by omega
        have inN := nx_in t x2 (by omega)
        obtain ⟨g1, X1, F1⟩ := gs_st g inN.1
        rw [show p + k + 1 = p + (k + 1) from by omega] at g1 X1 F1
        have w1 : w32 (v * 10) = v * 10 := w32_id (by unfold mm_r32; omega)
        have w1' : w32 (10 * v) = v * 10 := by rw [Int.mul_comm]; exact w1
        have w2 : w32 (v * 10 + nxC x) = v * 10 + nxC x := w32_id (by unfold mm_r32; omega)
        have w3 : w32 (v * 10 + nxC x - 48) = v * 10 + nxC x - 48 := w32_id (by unfold mm_r32; omega)
        have w4 : w32 (k + 1) = k + 1 := w32_id (by unfold mm_r32; omega)
        have w5 : w32 (p + k + 1) = p + (k + 1) := by rw [show p + k + 1 = p + (k + 1) from by omega]; exact w32_id (by unfold mm_r32; omega)
        obtain ⟨x', f', i1, i2, i3⟩ := ih (k + 1) (v * 10 + nxC x - 48) _ _ (by omega) (by omega) (by omega) g1 (X.tr X1 (Int.le_refl _)) (F.tr F1 (Int.le_refl _)) (fun w => by omega) (by omega) (by omega) (fun w => by omega) (fun w => by have := b0 (by omega); omega) (fun w => by have := b1 (by omega); omega) (fun w => by have := b2 (by omega); omega)
        refine ⟨x', f', ?_, ?_, i3⟩
        · rw [X3_readNumber_4, if_neg (by omega), c_next (by omega) (by omega), mm_be1, X3_readNumber_13, c_isDigit, mm_be1, if_pos dg1, X3_readNumber_16, if_neg (by decide), c_next (by omega) (by omega), mm_be1, X3_readNumber_27, w1, w2, w3, w4, x2, w5]
          exact i1
        · rw [X10_figure_4, if_neg (by omega), s_look (by omega) (by omega), mm_be1, X10_figure_13, s_in, mm_be1, if_pos (show 48 ≤ nxR f ∧ nxR f ≤ 57 by omega), X10_figure_20, if_neg (by decide), s_look (by omega) (by omega), mm_be1, X10_figure_31, w1', ← eqn, w2, w3, w4, f2, w5]
          exact i2
      · have k1 : 0 < k := by
          by_cases z : k = 0
          · exact absurd (dg z) dg1
          · omega
        obtain ⟨x', f', e1, e2, R⟩ := fin k v x f k1 g X F v0 v1
        refine ⟨x', f', ?_, ?_, R⟩
        · rw [X3_readNumber_4, if_neg (by omega), c_next (by omega) (by omega), mm_be1, X3_readNumber_13, c_isDigit, mm_be1, if_neg dg1, X3_readNumber_16, if_pos rfl, e1, mm_be0, X3_readNumber_53]
        · rw [X10_figure_4, if_neg (by omega), s_look (by omega) (by omega), mm_be1, X10_figure_13, s_in, mm_be1, if_neg (show ¬ (48 ≤ nxR f ∧ nxR f ≤ 57) by omega), X10_figure_20, if_pos rfl, e2]
