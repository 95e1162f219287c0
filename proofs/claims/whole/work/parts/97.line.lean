/-! the law: a line -/
def mm_lfr (l lm : Int) (f f' : mm_M) : Prop := ∀ c i, ¬ (c = 47 ∧ 22 ≤ i ∧ i ≤ 25) → ¬ ((c = 61 ∨ c = 62) ∧ 130 + l ≤ i) → ¬ ((c = 64 ∨ c = 65) ∧ 61 + lm ≤ i) → ¬ (c = 63 ∧ i = 1) → f' c i = f c i
theorem mm_lfr.rf {l lm : Int} {f : mm_M} : mm_lfr l lm f f := fun _ _ _ _ _ _ => rfl
theorem mm_lfr.tr {l lm l2 lm2 : Int} {x y z : mm_M} (a : mm_lfr l lm x y) (b : mm_lfr l2 lm2 y z) (h : l ≤ l2) (h2 : lm ≤ lm2) : mm_lfr l lm x z := fun c i q1 q2 q3 q4 => by
  rw [b c i q1 (fun w => q2 ⟨w.1, by omega⟩) (fun w => q3 ⟨w.1, by omega⟩) q4, a c i q1 q2 q3 q4]
theorem mm_fc.fl {l lm l0 : Int} {f f' : mm_M} (a : mm_fc l f f') (h : l0 ≤ l) : mm_lfr l0 lm f f' := fun c i q1 q2 _ _ => a c i q1 (fun w => q2 ⟨w.1, by omega⟩)
theorem mm_tape.fl {x f f' : mm_M} {N l lm : Int} (b : mm_lfr l lm f f') (t : mm_tape x f N) : mm_tape x f' N := by
  obtain ⟨t1, t2, t3, t4, t5, t6⟩ := t
  refine ⟨t1, by rw [b 47 21 (by omega) (by omega) (by omega) (by omega)]; exact t2, t3, t4, fun i i0 i1 => ?_, t6⟩
  rw [b 60 i (by omega) (by omega) (by omega) (by omega)]
  exact t5 i i0 i1
theorem gs_64 {x f : mm_M} {N p m l o : Int} (g : mm_gs x f N p m l o) (c : Nat) (hc : c = 63 ∨ c = 64 ∨ c = 65) (i v : Int) : mm_gs x (mUp f c i v) N p m l o := by
  obtain ⟨⟨t1, t2, t3, t4, t5, t6⟩, a, ⟨b1, b2, b3, b4⟩, d⟩ := g
  refine ⟨⟨t1, by rw [mUp_ne (by omega)]; exact t2, t3, t4, fun i i0 i1 => ?_, t6⟩, a, ⟨by rw [mUp_ne (by omega)]; exact b1, by rw [mUp_ne (by omega)]; exact b2, by rw [mUp_ne (by omega)]; exact b3, by rw [mUp_ne (by omega)]; exact b4⟩, d⟩
  rw [mUp_ne (by omega)]
  exact t5 i i0 i1
theorem pno_64 {x f : mm_M} {N p m l : Int} (z : mm_pno x f N p m l) (c : Nat) (hc : c = 63 ∨ c = 64 ∨ c = 65) (i v : Int) : mm_pno x (mUp f c i v) N p m l := by
  obtain ⟨q, h1, ⟨t1, t2, t3, t4, t5, t6⟩, ⟨a1, b1, b2⟩, h2, h3, l0, h4, h5⟩ := z
  refine ⟨q, h1, ⟨t1, by rw [mUp_ne (by omega)]; exact t2, t3, t4, fun i i0 i1 => ?_, t6⟩, ⟨a1, by rw [mUp_ne (by omega)]; exact b1, by rw [mUp_ne (by omega)]; exact b2⟩, h2, h3, l0, by rw [mUp_ne (by omega)]; exact h4, by rw [mUp_ne (by omega)]; exact h5⟩
  rw [mUp_ne (by omega)]
  exact t5 i i0 i1
theorem fl_up {l lm : Int} {f : mm_M} {c : Nat} {i : Int} (h : ((c = 64 ∨ c = 65) ∧ i = 61 + lm) ∨ (c = 63 ∧ i = 1)) (v : Int) : mm_lfr l lm f (mUp f c i v) := fun c' i' _ _ q3 q4 => by
  rw [mUp_at, if_neg (by omega)]
/-- the class lays a step -/
theorem add_C {x : mm_M} (s : x 2 4 = 16 ∨ x 2 4 = 17) {m : Int} (a : Int) (e : x 2 5 = m) (m0 : 0 ≤ m) (m1 : m < 121) : ∃ x', mm_call mX3_add [vR 2, vI a] x = some ([], x') ∧ mm_xc m x x' ∧ x' 2 2 = x 2 2 ∧ x' 2 3 = x 2 3 ∧ x' 2 5 = m + 1 ∧ x' (x' 2 4).toNat m = a ∧ ∀ i, i < m → x' (x' 2 4).toNat i = x (x 2 4).toNat i := by
  have ne : (2 : Nat) ≠ (x 2 4).toNat := by omega
  have A := c_add (x := x) s a (by omega) (by omega)
  rw [e] at A
  have X : mm_xc m x (mUp (mUp x (x 2 4).toNat m a) 2 5 (m + 1)) := fun c i q1 q2 => by
    have z1 : ¬ (c = 2 ∧ i = 5) := by omega
    have z2 : ¬ (c = (x 2 4).toNat ∧ i = m) := fun w => q2 ⟨by omega, w.1, by omega⟩
    rw [mUp_at, if_neg z1, mUp_at, if_neg z2]
  have s' := X.sp
  refine ⟨_, A, X, ?_, ?_, mUp_self _ _ _ _, ?_, ?_⟩
  · rw [mUp_nei (by decide), mUp_ne ne]
  · rw [mUp_nei (by decide), mUp_ne ne]
  · rw [s', mUp_ne (Ne.symm ne), mUp_self]
  · intro i hi
    rw [s', mUp_ne (Ne.symm ne), mUp_nei (by omega)]
def mm_lk (x f : mm_M) (N p m l lm : Int) : Prop := ∃ q m' l' tt : Int, (p < q ∧ q ≤ N) ∧ mm_tape x f N ∧ (x 2 2 = q ∧ x 2 3 = 0 ∧ x 2 5 = m') ∧ (f 47 22 = q ∧ f 47 23 = -1 ∧ f 47 24 = 0 ∧ f 47 25 = l' ∧ f 63 1 = lm + 1 ∧ f 64 (61 + lm) = tt ∧ f 65 (61 + lm) = l') ∧ (l ≤ tt ∧ tt < l' ∧ l' ≤ q ∧ m < m' ∧ m' ≤ q + 1) ∧ (tt = l → mm_E (x (x 2 4).toNat) m (mm_w f) (mm_x f) l (l' - l) 64 ∧ x (x 2 4).toNat (m + (l' - l)) = -59 ∧ m' = m + (l' - l) + 1) ∧ (¬ tt = l → mm_E (x (x 2 4).toNat) m (mm_w f) (mm_x f) l (tt - l) 64 ∧ x (x 2 4).toNat (m + (tt - l)) = -63 ∧ mm_E (x (x 2 4).toNat) (m + (tt - l) + 1) (mm_w f) (mm_x f) tt (l' - tt) 64 ∧ x (x 2 4).toNat (m + (l' - l) + 1) = -59 ∧ m' = m + (l' - l) + 2)
theorem w16_16 {v : Int} (h : 0 ≤ v ∧ v ≤ 200) : w16 (w16 v) = v := by unfold w16; omega
/-- the class lays the END behind a fault -/
theorem pno_end {x f : mm_M} {N p m l : Int} (z : mm_pno x f N p m l) (a : Int) : ∃ x', mm_call mX3_add [vR 2, vI a] x = some ([], x') ∧ mm_xc m x x' ∧ mm_pno x' f N p m l := by
  obtain ⟨q, h1, t, ⟨a1, b1, b2⟩, h2, h3, l0, h4, h5⟩ := z
  obtain ⟨x', e1, e2, e3, e4, e5, e6⟩ := c_addF (x := x) t.2.2.2.2.2 a (by omega) h3.2.2
  have X : mm_xc m x x' := mm_xc.rf.tr e2 h3.2.1
  refine ⟨x', e1, X, q, h1, mm_tape.co (l := l) X mm_fc.rf t, ⟨by omega, b1, b2⟩, ?_, by omega, l0, h4, h5⟩
  rw [e6, X 15 q (by omega) (by omega)]
  exact h2
theorem ln_one {x f : mm_M} {N p m l lm : Int} (g : mm_gs x f N p m l 0) (e1 : f 63 1 = lm) (lm0 : 0 ≤ lm ∧ lm ≤ 60) (a1 : Int) (a0 : a1 ≤ 120) : ∃ x' f', mm_ev mX3_readText 81 17 [some (vR 2), some (vI a1)] [] x = mm_ev mX3_readText 81 70 [some (vR 2), some (vI a1)] [] x' ∧ mm_call mX10_line [vR 47] f = some ([], f') ∧ mm_xc m x x' ∧ mm_lfr l lm f f' ∧ (mm_lk x' f' N p m l lm ∨ mm_pno x' f' N p m l) := by
  have w61 : w32 (61 + lm) = 61 + lm := w32_id (by unfold mm_r32; omega)
  have wl1 : w32 (lm + 1) = lm + 1 := w32_id (by unfold mm_r32; omega)
  obtain ⟨t, ⟨x2, x3, x5⟩, ⟨f2, f3, f4, f5⟩, d1, d2, d3⟩ := id g
  have t4 := t.2.2.2.1
  have g1 := gs_64 g 64 (by omega) (61 + lm) l
  have F1 : mm_lfr l lm f (mUp f 64 (61 + lm) l) := fl_up (Or.inl ⟨Or.inl rfl, rfl⟩) l
  obtain ⟨xa, fa, ea, eb, Xa, Fa, R⟩ := ex_all _ _ _ _ _ _ g1
  have ea : mm_call mX3_readExpression [vR 2, vI 0, vI 0] x = some ([], xa) := ea
  have eb : mm_call mX10_either [vR 47] (mUp f 64 (61 + lm) l) = some ([], fa) := eb
  have fa64 : fa 64 (61 + lm) = l := by rw [Fa 64 _ (by omega) (by omega), mUp_self]
  have fa63 : fa 63 1 = lm := by rw [Fa 63 _ (by omega) (by omega), mUp_ne (by decide)]; exact e1
  have FA : mm_lfr l lm f fa := F1.tr (Fa.fl (Int.le_refl _)) (Int.le_refl _) (Int.le_refl _)
  have c0 : mm_ev mX3_readText 81 17 [some (vR 2), some (vI a1)] [] x = mm_ev mX3_readText 81 36 [some (vR 2), some (vI a1)] [] xa := by
    rw [X3_readText_17, if_neg (by omega), if_neg (fun w => w x3), if_pos (by decide), ea, mm_be0]
  have r0 : mm_call mX10_line [vR 47] f = mm_ev mX10_line 81 25 [some (vR 47), some (vI (61 + lm))] [] fa := by
    rw [X10_line_c, if_pos (by decide), e1, w61, if_pos (show 0 ≤ 61 + lm ∧ 61 + lm < 122 by omega), f5, w16_16 (by omega), mUp_ne (show (47 : Nat) ≠ 64 by decide), f4, if_pos (by decide), eb, mm_be0]
  -- the reference's end of a line
  have r66 : ∀ (y : mm_M) (L : Int), y 63 1 = lm → y 47 25 = L → 0 ≤ L → L ≤ 122 → mm_ev mX10_line 81 66 [some (vR 47), some (vI (61 + lm))] [] y = some ([], mUp (mUp y 65 (61 + lm) L) 63 1 (lm + 1)) := fun y L h1 h2 L0 L1 => by
    rw [X10_line_66, if_pos (by omega), if_pos (by decide), if_pos (by decide), h2, w16_16 (by omega), mUp_ne (show (63 : Nat) ≠ 65 by decide), h1, wl1]
  have FE : ∀ (y : mm_M) (L : Int), mm_lfr l lm f y → mm_lfr l lm f (mUp (mUp y 65 (61 + lm) L) 63 1 (lm + 1)) := fun y L h => (h.tr (fl_up (Or.inl ⟨Or.inr rfl, rfl⟩) L) (Int.le_refl _) (Int.le_refl _)).tr (fl_up (Or.inr ⟨rfl, rfl⟩) (lm + 1)) (Int.le_refl _) (Int.le_refl _)
  -- a fault in the second half or the first
  have bad : ∀ (x5 f5 : mm_M), mm_pno x5 f5 N p m l → mm_xc m x x5 → mm_lfr l lm f f5 → f5 63 1 = lm → ∃ x' f', mm_ev mX3_readText 81 64 [some (vR 2), some (vI a1)] [] x5 = mm_ev mX3_readText 81 70 [some (vR 2), some (vI a1)] [] x' ∧ mm_ev mX10_line 81 66 [some (vR 47), some (vI (61 + lm))] [] f5 = some ([], f') ∧ mm_xc m x x' ∧ mm_lfr l lm f f' ∧ (mm_lk x' f' N p m l lm ∨ mm_pno x' f' N p m l) := fun x5 f5 z X F h63 => by
    obtain ⟨x', h1, h2, h3⟩ := pno_end z (-59)
    have z' := z
    obtain ⟨q, i1, tq, i2, i3, i4, i5, i6, i7⟩ := z'
    refine ⟨x', _, ?_, r66 f5 _ h63 rfl (by omega) (by omega), X.tr h2 (Int.le_refl _), FE f5 _ F, Or.inr (pno_64 (pno_64 h3 65 (by omega) _ _) 63 (by omega) _ _)⟩
    rw [X3_readText_64, h1, mm_be0]
  rcases R with ⟨q, n, pq, g2, n0, nq, E⟩ | R
  · obtain ⟨tb, ⟨y2, y3, y5⟩, ⟨h2, h3, h4, h5⟩, u1, u2, u3⟩ := id g2
    have tb1 := tb.1
    have tb2 := tb.2.1
    have sp := tb.2.2.2.2.2
    have nx2 := nx_eq tb y2 h2 u1.1
    have wq : w32 (q + 1) = q + 1 := w32_id (by unfold mm_r32; omega)
    rw [X3_readText_36, if_neg (fun w => w y3), c_skips (by omega) (by omega) (by decide)] at c0
    rw [X10_line_25, if_neg (by omega), s_look (by omega) (by omega), mm_be1, X10_line_36] at r0
    by_cases s63 : nxC xa = 63
    · -- a test
      have inN := nx_in tb y2 (by omega)
      rw [if_pos s63, mm_be1, X3_readText_49, if_neg (by decide), y2] at c0
      rw [if_neg (by omega), if_pos (show 0 ≤ 61 + lm ∧ 61 + lm < 122 by omega), h2, wq, mUp_nei (show (25 : Int) ≠ 22 by decide), h5, w16_16 (by omega), mUp_ne (show (47 : Nat) ≠ 64 by decide), mUp_nei (show (24 : Int) ≠ 22 by decide), h4, if_pos (by decide)] at r0
      obtain ⟨g3, X3, F3⟩ := gs_st g2 inN.1
      have sp3 := g3.1.2.2.2.2.2
      obtain ⟨xb, k1, k2, k3, k4, k5, k6, k7⟩ := add_C sp3 (-63) g3.2.1.2.2 (by omega) (by omega)
      rw [k1, mm_be0, X3_readText_58, if_pos (by decide)] at c0
      have g4 : mm_gs xb (mUp fa 47 22 (q + 1)) N (q + 1) (m + n + 1) (l + n) 0 := by
        obtain ⟨v1, ⟨v2, v3, v4⟩, v5, v6, v7, v8⟩ := g3
        exact ⟨mm_tape.co (l := l) k2 mm_fc.rf v1, ⟨k3.trans v2, k4.trans v3, k5⟩, v5, v6, v7, by omega, by omega⟩
      have g5 := gs_64 g4 64 (by omega) (61 + lm) (l + n)
      obtain ⟨xc, fc, ec, ed, Xc, Fc, R2⟩ := ex_all _ _ _ _ _ _ g5
      have ec : mm_call mX3_readExpression [vR 2, vI 0, vI 0] xb = some ([], xc) := ec
      have ed : mm_call mX10_either [vR 47] (mUp (mUp fa 47 22 (q + 1)) 64 (61 + lm) (l + n)) = some ([], fc) := ed
      rw [ec, mm_be0] at c0
      rw [ed, mm_be0] at r0
      have XC : mm_xc (m + n) xa xb := X3.tr k2 (Int.le_refl _)
      have XC2 : mm_xc m x xc := (Xa.tr XC (by omega)).tr Xc (by omega)
      have F4 : mm_lfr l lm fa (mUp (mUp fa 47 22 (q + 1)) 64 (61 + lm) (l + n)) := (F3.fl (by omega)).tr (fl_up (l := l) (lm := lm) (Or.inl ⟨Or.inl rfl, rfl⟩) (l + n)) (Int.le_refl _) (Int.le_refl _)
      have FC2 : mm_lfr l lm f fc := (FA.tr F4 (Int.le_refl _) (Int.le_refl _)).tr (Fc.fl (by omega)) (Int.le_refl _) (Int.le_refl _)
      have fc64 : fc 64 (61 + lm) = l + n := by rw [Fc 64 _ (by omega) (by omega), mUp_self]
      have fc63 : fc 63 1 = lm := by rw [Fc 63 _ (by omega) (by omega), mUp_ne (by decide), mUp_ne (by decide)]; exact fa63
      rcases R2 with ⟨q2, n2, pq2, g6, n20, nq2, E2⟩ | R2
      · obtain ⟨tc, ⟨z2, z3, z5⟩, ⟨i2, i3, i4, i5⟩, o1, o2, o3⟩ := id g6
        have spc := tc.2.2.2.2.2
        obtain ⟨xd, j1, j2, j3, j4, j5, j6, j7⟩ := add_C spc (-59) z5 (by omega) (by omega)
        have xs : ∀ i, i < m + n → xb (xb 2 4).toNat i = xa (xa 2 4).toNat i := fun i hi => by
          rw [XC.sp]
          exact XC _ i (by omega) (by omega)
        have xs2 : ∀ i, i < m + n + 1 → xd (xd 2 4).toNat i = xb (xb 2 4).toNat i := fun i hi => by
          rw [j7 i (by omega), Xc.sp]
          exact Xc _ i (by have := g4.1.2.2.2.2.2; omega) (by omega)
        have fs : ∀ i, i < l + n → mm_w fc i = mm_w fa i ∧ mm_x fc i = mm_x fa i := fun i hi => by
          constructor
          · show fc 61 _ = fa 61 _
            rw [Fc 61 _ (by omega) (by omega), mUp_ne (by decide), mUp_ne (by decide)]
          · show fc 62 _ = fa 62 _
            rw [Fc 62 _ (by omega) (by omega), mUp_ne (by decide), mUp_ne (by decide)]
        have fe : ∀ i, mm_w (mUp (mUp fc 65 (61 + lm) (l + n + n2)) 63 1 (lm + 1)) i = mm_w fc i ∧ mm_x (mUp (mUp fc 65 (61 + lm) (l + n + n2)) 63 1 (lm + 1)) i = mm_x fc i := fun i => by
          constructor
          · show mUp (mUp fc 65 (61 + lm) (l + n + n2)) 63 1 (lm + 1) 61 _ = _
            rw [mUp_ne (by decide), mUp_ne (by decide)]
          · show mUp (mUp fc 65 (61 + lm) (l + n + n2)) 63 1 (lm + 1) 62 _ = _
            rw [mUp_ne (by decide), mUp_ne (by decide)]
        have spd : xd 2 4 = xc 2 4 := j2.sp
        refine ⟨xd, _, ?_, r0.trans (r66 fc _ fc63 i5 (by omega) (by omega)), XC2.tr j2 (by omega), FE fc _ FC2, Or.inl ⟨q2, m + n + 1 + n2 + 1, l + n + n2, l + n, by omega, ?_, ⟨j3.trans z2, j4.trans z3, j5⟩, ⟨?_, ?_, ?_, ?_, mUp_self _ _ _ _, ?_, ?_⟩, by omega, fun w => by omega, fun _ => ⟨?_, ?_, ?_, ?_, by omega⟩⟩⟩
        · rw [c0, X3_readText_64, j1, mm_be0]
        · exact mm_tape.fl (FE fc _ FC2) (mm_tape.co (l := l) (XC2.tr j2 (by omega)) mm_fc.rf t)
        · rw [mUp_ne (by decide), mUp_ne (by decide)]; exact i2
        · rw [mUp_ne (by decide), mUp_ne (by decide)]; exact i3
        · rw [mUp_ne (by decide), mUp_ne (by decide)]; exact i4
        · rw [mUp_ne (by decide), mUp_ne (by decide)]; exact i5
        · rw [mUp_ne (by decide), mUp_ne (by decide)]; exact fc64
        · rw [mUp_ne (by decide), mUp_self]
        · rw [show l + n - l = n from by omega]
          refine mm_E_co (fun k k0 k1 => ⟨?_, ?_, ?_⟩) E
          · rw [xs2 _ (by omega), xs _ (by omega)]
          · rw [(fe _).1, (fs _ (by omega)).1]
          · rw [(fe _).2, (fs _ (by omega)).2]
        · rw [show m + (l + n - l) = m + n from by omega, xs2 _ (by omega)]
          exact k6
        · rw [show m + (l + n - l) + 1 = m + n + 1 from by omega, show l + n + n2 - (l + n) = n2 from by omega]
          refine mm_E_co (fun k k0 k1 => ⟨?_, ?_, ?_⟩) E2
          · rw [j7 _ (by omega)]
          · rw [(fe _).1]
          · rw [(fe _).2]
        · rw [show m + (l + n + n2 - l) + 1 = m + n + 1 + n2 from by omega]
          exact j6
      · have z : mm_pno xc fc N p m l := R2.le (by omega) d1.1 d3.1 (by omega) d2.1 (by omega) (by omega)
        obtain ⟨x', f', i1, i2, i3, i4, i5⟩ := bad xc fc z XC2 FC2 fc63
        exact ⟨x', f', c0.trans i1, r0.trans i2, i3, i4, i5⟩
    · -- no test
      rw [if_neg s63, mm_be1, X3_readText_49, if_pos rfl] at c0
      rw [if_pos (by omega)] at r0
      obtain ⟨xd, j1, j2, j3, j4, j5, j6, j7⟩ := add_C sp (-59) y5 (by omega) (by omega)
      have fe : ∀ i, mm_w (mUp (mUp fa 65 (61 + lm) (l + n)) 63 1 (lm + 1)) i = mm_w fa i ∧ mm_x (mUp (mUp fa 65 (61 + lm) (l + n)) 63 1 (lm + 1)) i = mm_x fa i := fun i => by
        constructor
        · show mUp (mUp fa 65 (61 + lm) (l + n)) 63 1 (lm + 1) 61 _ = _
          rw [mUp_ne (by decide), mUp_ne (by decide)]
        · show mUp (mUp fa 65 (61 + lm) (l + n)) 63 1 (lm + 1) 62 _ = _
          rw [mUp_ne (by decide), mUp_ne (by decide)]
      refine ⟨xd, _, ?_, r0.trans (r66 fa _ fa63 h5 (by omega) (by omega)), Xa.tr j2 (by omega), FE fa _ FA, Or.inl ⟨q, m + n + 1, l + n, l, by omega, ?_, ⟨j3.trans y2, j4.trans y3, j5⟩, ⟨?_, ?_, ?_, ?_, mUp_self _ _ _ _, ?_, ?_⟩, by omega, fun _ => ⟨?_, ?_, by omega⟩, fun w => absurd rfl w⟩⟩
      · rw [c0, X3_readText_64, j1, mm_be0]
      · exact mm_tape.fl (FE fa _ FA) (mm_tape.co (l := l) (Xa.tr j2 (by omega)) mm_fc.rf t)
      · rw [mUp_ne (by decide), mUp_ne (by decide)]; exact h2
      · rw [mUp_ne (by decide), mUp_ne (by decide)]; exact h3
      · rw [mUp_ne (by decide), mUp_ne (by decide)]; exact h4
      · rw [mUp_ne (by decide), mUp_ne (by decide)]; exact h5
      · rw [mUp_ne (by decide), mUp_ne (by decide)]; exact fa64
      · rw [mUp_ne (by decide), mUp_self]
      · rw [show l + n - l = n from by omega]
        refine mm_E_co (fun k k0 k1 => ⟨?_, ?_, ?_⟩) E
        · rw [j7 _ (by omega)]
        · rw [(fe _).1]
        · rw [(fe _).2]
      · rw [show m + (l + n - l) = m + n from by omega]
        exact j6
  · have R' := R
    obtain ⟨q, h1, tq, ⟨y2, b1, b2⟩, h2, h3, l0, h4, h5⟩ := R'
    have tq1 := tq.1
    have tq4 := tq.2.2.2.1
    obtain ⟨x', f', i1, i2, i3, i4, i5⟩ := bad xa fa R Xa FA fa63
    refine ⟨x', f', ?_, ?_, i3, i4, i5⟩
    · rw [c0, X3_readText_36]
      by_cases e2 : xa 2 3 = 0
      · have dq : q < N ∧ 48 ≤ xa 15 q ∧ xa 15 q ≤ 57 := by
          rcases h2 with w | w
          · exact absurd e2 w
          · exact w
        have nq : nxC xa = xa 15 q := by
          unfold nxC
          rw [tq1, y2, if_neg (by omega)]
        rw [if_neg (fun w => w e2), c_skips (by omega) (by omega) (by decide), if_neg (by omega), mm_be1, X3_readText_49, if_pos rfl]
        exact i1
      · rw [if_pos e2]
        exact i1
    · rw [r0, X10_line_25, if_pos (by omega)]
      exact i2
