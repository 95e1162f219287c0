/-! the law: an expression of one level -/
abbrev mm_sg (lv s : Int) : Prop := (lv = 0 ∧ s = 124) ∨ (lv = 1 ∧ s = 38) ∨ (lv = 2 ∧ (s = 60 ∨ s = 61 ∨ s = 62)) ∨ (lv = 3 ∧ (s = 43 ∨ s = 45)) ∨ (lv = 4 ∧ (s = 42 ∨ s = 47 ∨ s = 37))
theorem c_isSign (h : mm_M) (s lv : Int) (l0 : 0 ≤ lv ∧ lv < 5) : mm_call mX3_isSign [vI s, vI lv] h = some ([vI (if mm_sg lv s then 1 else 0)], h) := by
  rw [X3_isSign_c]
  have : lv = 0 ∨ lv = 1 ∨ lv = 2 ∨ lv = 3 ∨ lv = 4 := by omega
  by_cases q : mm_sg lv s
  · rw [if_pos q]
    unfold mm_sg at q
    rcases this with rfl | rfl | rfl | rfl | rfl
    · rw [if_pos rfl, if_neg (by omega)]
    · rw [if_neg (by decide), if_pos rfl, if_neg (by omega)]
    · rw [if_neg (by decide), if_neg (by decide), if_pos rfl]
      by_cases a : s = 60
      · rw [if_pos a]
      · rw [if_neg a]
        by_cases b : s = 61
        · rw [if_pos b]
        · rw [if_neg b, if_neg (by omega)]
    · rw [if_neg (by decide), if_neg (by decide), if_neg (by decide), if_pos rfl]
      by_cases a : s = 43
      · rw [if_pos a]
      · rw [if_neg a, if_neg (by omega)]
    · rw [if_neg (by decide), if_neg (by decide), if_neg (by decide), if_neg (by decide)]
      by_cases a : s = 42
      · rw [if_pos a]
      · rw [if_neg a]
        by_cases b : s = 47
        · rw [if_pos b]
        · rw [if_neg b, if_neg (by omega)]
  · rw [if_neg q]
    unfold mm_sg at q
    rcases this with rfl | rfl | rfl | rfl | rfl
    · rw [if_pos rfl, if_pos (by omega)]
    · rw [if_neg (by decide), if_pos rfl, if_pos (by omega)]
    · rw [if_neg (by decide), if_neg (by decide), if_pos rfl, if_neg (by omega), if_neg (by omega), if_pos (by omega)]
    · rw [if_neg (by decide), if_neg (by decide), if_neg (by decide), if_pos rfl, if_neg (by omega), if_pos (by omega)]
    · rw [if_neg (by decide), if_neg (by decide), if_neg (by decide), if_neg (by decide), if_neg (by omega), if_neg (by omega), if_pos (by omega)]
theorem sg_bin {lv s : Int} (h : mm_sg lv s) : mm_bin s ∧ 33 < s ∧ s < 125 ∧ ¬ (48 ≤ s ∧ s ≤ 57) := by
  unfold mm_sg at h
  unfold mm_bin
  omega
theorem bin_nd {s : Int} (h : mm_bin s) : mm_nd s = 2 := by
  unfold mm_bin at h
  unfold mm_nd
  rw [if_neg (by omega), if_neg (by omega)]
/-- the class behind a fault: its loop is over -/
theorem c_loopN {x f : mm_M} {N p m l lv o : Int} (z : mm_pno x f N p m l) (l0 : 0 ≤ lv ∧ lv < 5) (r : Nat) (hr : 1 < r) (a3 : Int) (o4 : Option mm_V) : mm_ev mX3_readExpression r 21 [some (vR 2), some (vI lv), some (vI o), some (vI a3), o4] [] x = some ([], x) := by
  obtain ⟨q, h1, t, h0, h2, h3, l0', h4, h5⟩ := z
  rw [X3_readExpression_21]
  by_cases e : 120 ≤ a3
  · rw [if_pos e]
  · rw [if_neg e]
    by_cases e2 : x 2 3 = 0
    · have dg : q < N ∧ 48 ≤ x 15 q ∧ x 15 q ≤ 57 := by
        rcases h2 with w | w
        · exact absurd e2 w
        · exact w
      have nx : nxC x = x 15 q := by
        unfold nxC
        rw [t.1, h0.1, if_neg (by omega)]
      rw [if_neg (fun w => w e2), if_pos hr, c_next (by omega) (by rw [t.1]; exact t.2.2.2.1), mm_be1, X3_readExpression_38, if_pos hr, c_isSign _ _ _ l0, mm_be1, if_neg (fun w => by have := (sg_bin w).2.2.2; omega), X3_readExpression_46, if_neg (by decide)]
    · rw [if_pos e2]
theorem lv_loop (lv o M : Int) (hl : 0 ≤ lv ∧ lv < 5) (ho : 0 ≤ o ∧ o ≤ 6) (K' : mm_M → Option (List mm_V × mm_M)) (L : Option mm_V → mm_M → Option (List mm_V × mm_M)) (sub : mm_PJ (fun x => mm_call mX3_readExpression [vR 2, vI (lv + 1), vI o] x) K' o M)
    (hL0 : ∀ o1 f, 0 ≤ f 47 23 → 0 ≤ f 47 22 → f 47 21 ≤ 120 → L o1 f = some ([], f))
    (hL1 : ∀ o1 f, f 47 23 < 0 → 0 ≤ f 47 22 → f 47 21 ≤ 120 → ¬ mm_sg lv (nxR f) → L o1 f = some ([], f))
    (hL2 : ∀ o1 f f2 f3, f 47 23 < 0 → f 47 24 = o → 0 ≤ f 47 22 → f 47 21 ≤ 120 → mm_sg lv (nxR f) → K' (mUp f 47 22 (f 47 22 + 1)) = some ([], f2) → mm_call mX10_addStep [vR 47, vI (nxR f), vI 0] f2 = some ([], f3) → L o1 f = if lv = 2 then some ([], f3) else L (some (vI (nxR f))) f3)
    (x0 f0 : mm_M) (N p m l : Int) : ∀ (c : Nat) (a3 : Int) (o4 o1 : Option mm_V) (x f : mm_M) (q n : Int), N - q ≤ c → 0 ≤ a3 → a3 < q → p < q → mm_gs x f N q (m + n) (l + n) o → 0 < n → n ≤ q - p → (0 ≤ p ∧ 0 ≤ m ∧ 0 ≤ l) → (m ≤ p ∧ l ≤ p) → mm_E (x (x 2 4).toNat) m (mm_w f) (mm_x f) l n (M + 1) → mm_xc m x0 x → mm_fc l f0 f → ∃ x' f', mm_ev mX3_readExpression (10 + (8 * (7 - o) + (6 - lv) : Int).toNat) 21 [some (vR 2), some (vI lv), some (vI o), some (vI a3), o4] [] x = some ([], x') ∧ L o1 f = some ([], f') ∧ mm_rs x0 f0 x' f' N p m l o (M + 1) := by
  intro c
  induction c with
  | zero =>
    intro a3 o4 o1 x f q n hc a0 a1 pq g n0 nq p0 mp E X F
    have g' := g
    obtain ⟨t, ⟨x2, x3, x5⟩, ⟨f2, f3, f4, f5⟩, d1, d2, d3⟩ := g'
    have t1 := t.1
    have t2 := t.2.1
    have t4 := t.2.2.2.1
    have nC : nxC x = -1 := by
      unfold nxC
      rw [t1, x2, if_pos (by omega)]
    have nR : nxR f = -1 := by
      unfold nxR
      rw [t2, f2, if_pos (by omega)]
    refine ⟨x, f, ?_, ?_, X, F, Or.inl ⟨q, n, pq, g, n0, nq, E⟩⟩
    · rw [X3_readExpression_21, if_neg (by omega), if_neg (fun w => w x3), if_pos (by omega), c_next (by omega) (by omega), mm_be1, X3_readExpression_38, if_pos (by omega), c_isSign _ _ _ hl, mm_be1, if_neg (fun w => by have := (sg_bin w).2.1; omega), X3_readExpression_46, if_neg (by decide)]
    · exact hL1 o1 f (by omega) (by omega) (by omega) (fun w => by have := (sg_bin w).2.1; omega)
  | succ c ih =>
    intro a3 o4 o1 x f q n hc a0 a1 pq g n0 nq p0 mp E X F
    have g' := g
    obtain ⟨t, ⟨x2, x3, x5⟩, ⟨f2, f3, f4, f5⟩, d1, d2, d3⟩ := g'
    have t1 := t.1
    have t2 := t.2.1
    have t4 := t.2.2.2.1
    have nx := nx_eq t x2 f2 d1.1
    by_cases s : mm_sg lv (nxC x)
    · have sb := sg_bin s
      have eqn : nxC x = nxR f := by omega
      have inN := nx_in t x2 (by omega)
      obtain ⟨g1, X1, F1⟩ := gs_st g inN.1
      obtain ⟨xa, fa, ea, eb, Xa, Fa, R⟩ := sub _ _ _ _ _ _ g1
      have w4 : w32 (lv + 1) = lv + 1 := w32_id (by unfold mm_r32; omega)
      have w5 : w32 (x 2 2 + 1) = q + 1 := by rw [x2]; exact w32_id (by unfold mm_r32; omega)
      have w6 : w32 (a3 + 1) = a3 + 1 := w32_id (by unfold mm_r32; omega)
      have w7 : w32 (-nxC x) = -nxC x := w32_id (by unfold mm_r32; omega)
      have eC : ∀ xb, mm_call mX3_add [vR 2, vI (-nxC x)] xa = some ([], xb) → mm_ev mX3_readExpression (10 + (8 * (7 - o) + (6 - lv) : Int).toNat) 21 [some (vR 2), some (vI lv), some (vI o), some (vI a3), o4] [] x = if lv = 2 then some ([], xb) else mm_ev mX3_readExpression (10 + (8 * (7 - o) + (6 - lv) : Int).toNat) 21 [some (vR 2), some (vI lv), some (vI o), some (vI (a3 + 1)), some (vI (nxC x))] [] xb := fun xb eb => by
        have ea : mm_call mX3_readExpression [vR 2, vI (lv + 1), vI o] (mUp x 2 2 (q + 1)) = some ([], xa) := ea
        rw [X3_readExpression_21, if_neg (by omega), if_neg (fun w => w x3), if_pos (by omega), c_next (by omega) (by omega), mm_be1, X3_readExpression_38, if_pos (by omega), c_isSign _ _ _ hl, mm_be1, if_pos s, X3_readExpression_46, if_pos (by decide), w4, if_pos (by omega), w5, ea, mm_be0, X3_readExpression_68, if_pos (by omega), w7, eb, mm_be0, X3_readExpression_75, w6]
        by_cases z : lv = 2
        · rw [if_neg (fun w => w z), if_pos z]
        · rw [if_pos z, if_neg z]
      have sR : mm_sg lv (nxR f) := by rw [← eqn]; exact s
      have eb' : K' (mUp f 47 22 (f 47 22 + 1)) = some ([], fa) := by rw [f2]; exact eb
      have w8s : w8 (nxR f) = nxR f := by unfold w8; omega
      rcases R with ⟨q2, n2, pq2, g2, n20, nq2, E2⟩ | R
      · obtain ⟨xb, fb, cb, sb', g3, Xb, Fb, v1, v2, v3, v4, v5⟩ := gs_add g2 (by omega) (by omega) (-nxC x) (nxR f) 0
        have eC := eC xb cb
        have eR := hL2 o1 f fa fb (by omega) f4 (by omega) (by omega) sR eb' sb'
        have XX : mm_xc m x0 xb := X.tr ((X1.tr Xa (Int.le_refl _)).tr Xb (by omega)) (by omega)
        have FF : mm_fc l f0 fb := F.tr ((F1.tr Fa (Int.le_refl _)).tr Fb (by omega)) (by omega)
        have Xs : mm_xc (m + n) x xa := X1.tr Xa (Int.le_refl _)
        have Fs : mm_fc (l + n) f fa := F1.tr Fa (Int.le_refl _)
        have sp := t.2.2.2.2.2
        have xs : ∀ i, i < m + n → xa (xa 2 4).toNat i = x (x 2 4).toNat i := fun i hi => by
          rw [Xs.sp]
          exact Xs _ i (by omega) (fun w => by omega)
        have fs : ∀ i, i < l + n → mm_w fa i = mm_w f i ∧ mm_x fa i = mm_x f i := fun i hi => ⟨Fs _ _ (by omega) (by omega), Fs _ _ (by omega) (by omega)⟩
        have E1' : mm_E (xb (xb 2 4).toNat) m (mm_w fb) (mm_x fb) l n (M + 1) := mm_E_co (fun k k0 k1 => ⟨by rw [v2 _ (by omega), xs _ (by omega)], by rw [(v5 _ (by omega)).1, (fs _ (by omega)).1], by rw [(v5 _ (by omega)).2, (fs _ (by omega)).2]⟩) E
        have E2' : mm_E (xb (xb 2 4).toNat) (m + n) (mm_w fb) (mm_x fb) (l + n) n2 M := mm_E_co (fun k k0 k1 => ⟨by rw [v2 _ (by omega)], by rw [(v5 _ (by omega)).1], by rw [(v5 _ (by omega)).2]⟩) E2
        rw [show m + n + n2 = m + (n + n2) from by omega] at v1
        rw [show l + n + n2 = l + (n + n2) from by omega] at v3 v4
        have E3 := mm_E_b E1' E2' (Int.le_refl _) (by
          rw [v1, v3, v4, w8s, eqn]
          unfold mm_tr
          refine Or.inr (Or.inr (Or.inr (Or.inr (Or.inr (Or.inr (Or.inr (Or.inr (Or.inr ⟨rfl, ?_⟩))))))))
          exact (sg_bin sR).1) (by rw [v3, w8s]; exact bin_nd (sg_bin sR).1)
        rw [show m + n + n2 + 1 = m + (n + n2 + 1) from by omega, show l + n + n2 + 1 = l + (n + n2 + 1) from by omega] at g3
        by_cases z : lv = 2
        · rw [if_pos z] at eC eR
          exact ⟨xb, fb, eC, eR, XX, FF, Or.inl ⟨q2, n + n2 + 1, by omega, g3, by omega, by omega, E3⟩⟩
        · rw [if_neg z] at eC eR
          obtain ⟨x', f', i1, i2, i3⟩ := ih (a3 + 1) (some (vI (nxC x))) (some (vI (nxR f))) xb fb q2 (n + n2 + 1) (by omega) (by omega) (by omega) (by omega) g3 (by omega) (by omega) p0 mp E3 XX FF
          exact ⟨x', f', eC.trans i1, eR.trans i2, i3⟩
      · obtain ⟨xb, fb, cb, sb', g3, Xb, Fb⟩ := no_add R (by omega) q (by omega) (by omega) (-nxC x) (nxR f) 0
        have eC := eC xb cb
        have eR := hL2 o1 f fa fb (by omega) f4 (by omega) (by omega) sR eb' sb'
        have XX : mm_xc m x0 xb := X.tr ((X1.tr Xa (Int.le_refl _)).tr Xb (Int.le_refl _)) (by omega)
        have FF : mm_fc l f0 fb := F.tr ((F1.tr Fa (Int.le_refl _)).tr Fb (Int.le_refl _)) (by omega)
        have g4 : mm_pno xb fb N p m l := g3.le (by omega) p0.1 p0.2.1 (by omega) p0.2.2 (by omega) (by omega)
        have fin : mm_rs x0 f0 xb fb N p m l o (M + 1) := ⟨XX, FF, Or.inr g4⟩
        refine ⟨xb, fb, ?_, ?_, fin⟩
        · rw [eC]
          by_cases z : lv = 2
          · rw [if_pos z]
          · rw [if_neg z]
            exact c_loopN g4 hl _ (by omega) _ _
        · rw [eR]
          by_cases z : lv = 2
          · rw [if_pos z]
          · rw [if_neg z]
            obtain ⟨q', h1, t', h0, h2, h3, l0', h4, h5⟩ := g4
            exact hL0 _ _ (by omega) (by omega) (by rw [t'.2.1]; exact t'.2.2.2.1)
    · refine ⟨x, f, ?_, ?_, X, F, Or.inl ⟨q, n, pq, g, n0, nq, E⟩⟩
      · rw [X3_readExpression_21, if_neg (by omega), if_neg (fun w => w x3), if_pos (by omega), c_next (by omega) (by omega), mm_be1, X3_readExpression_38, if_pos (by omega), c_isSign _ _ _ hl, mm_be1, if_neg s, X3_readExpression_46, if_neg (by decide)]
      · exact hL1 o1 f (by omega) (by omega) (by omega) (fun w => s (by
          have := (sg_bin w).2
          rw [show nxC x = nxR f from by omega]
          exact w))
