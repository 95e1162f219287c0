/-! the law: the five levels -/
theorem lv_PJ (lv o M : Int) (hl : 0 ≤ lv ∧ lv < 5) (ho : 0 ≤ o ∧ o ≤ 6) (K K' : mm_M → Option (List mm_V × mm_M)) (L : Option mm_V → mm_M → Option (List mm_V × mm_M)) (sub : mm_PJ (fun x => mm_call mX3_readExpression [vR 2, vI (lv + 1), vI o] x) K' o M)
    (hL0 : ∀ o1 f, 0 ≤ f 47 23 → 0 ≤ f 47 22 → f 47 21 ≤ 120 → L o1 f = some ([], f))
    (hL1 : ∀ o1 f, f 47 23 < 0 → 0 ≤ f 47 22 → f 47 21 ≤ 120 → ¬ mm_sg lv (nxR f) → L o1 f = some ([], f))
    (hL2 : ∀ o1 f f2 f3, f 47 23 < 0 → f 47 24 = o → 0 ≤ f 47 22 → f 47 21 ≤ 120 → mm_sg lv (nxR f) → K' (mUp f 47 22 (f 47 22 + 1)) = some ([], f2) → mm_call mX10_addStep [vR 47, vI (nxR f), vI 0] f2 = some ([], f3) → L o1 f = if lv = 2 then some ([], f3) else L (some (vI (nxR f))) f3)
    (hK : ∀ f f2, f 47 24 = o → K' f = some ([], f2) → K f = L none f2) : mm_PJ (fun x => mm_call mX3_readExpression [vR 2, vI lv, vI o] x) K o (M + 1) := by
  intro x f N p m l g
  obtain ⟨xa, fa, ea, eb, Xa, Fa, R⟩ := sub x f N p m l g
  have w4 : w32 (lv + 1) = lv + 1 := w32_id (by unfold mm_r32; omega)
  have ea : mm_call mX3_readExpression [vR 2, vI (lv + 1), vI o] x = some ([], xa) := ea
  have eC : mm_call mX3_readExpression [vR 2, vI lv, vI o] x = mm_ev mX3_readExpression (10 + (8 * (7 - o) + (6 - lv) : Int).toNat) 21 [some (vR 2), some (vI lv), some (vI o), some (vI 0), none] [] xa := by
    rw [X3_readExpression_c, X3_readExpression_0, if_pos hl.2, w4, if_pos (by omega), ea, mm_be0, X3_readExpression_19]
  have eR := hK f fa g.2.2.1.2.2.1 eb
  have pml : 0 ≤ p ∧ 0 ≤ m ∧ 0 ≤ l := ⟨g.2.2.2.1.1, g.2.2.2.2.2.1, g.2.2.2.2.1.1⟩
  have mp : m ≤ p ∧ l ≤ p := ⟨g.2.2.2.2.2.2, g.2.2.2.2.1.2⟩
  rcases R with ⟨q, n, pq, g2, n0, nq, E⟩ | R
  · obtain ⟨x', f', i1, i2, i3⟩ := lv_loop lv o M hl ho K' L sub hL0 hL1 hL2 x f N p m l (N - q).toNat 0 none none xa fa q n (by omega) (by decide) (by omega) pq g2 n0 nq pml mp (mm_E_M (by omega) E) Xa Fa
    exact ⟨x', f', eC.trans i1, eR.trans i2, i3⟩
  · refine ⟨xa, fa, eC.trans (c_loopN R hl _ (by omega) _ _), eR.trans ?_, Xa, Fa, Or.inr R⟩
    obtain ⟨q', h1, t', h0, h2, h3, l0', h4, h5⟩ := R
    exact hL0 _ _ (by omega) (by omega) (by rw [t'.2.1]; exact t'.2.2.2.1)
theorem fu {f : mm_M} (a : 0 ≤ f 47 22) (b : f 47 21 ≤ 120) (c : 0 < nxR f) : w32 (f 47 22 + 1) = f 47 22 + 1 := by
  unfold nxR at c
  by_cases q : f 47 21 ≤ f 47 22
  · rw [if_pos q] at c
    omega
  · exact w32_id (by unfold mm_r32; omega)
theorem PJ_5 (o M : Int) (ho : 0 ≤ o ∧ o ≤ 6) (K : mm_M → Option (List mm_V × mm_M)) (sub : mm_PJ (fun x => mm_call mX3_readOperand [vR 2, vI o] x) K o M) : mm_PJ (fun x => mm_call mX3_readExpression [vR 2, vI (4 + 1), vI o] x) K o M := by
  intro x f N p m l g
  obtain ⟨xa, fa, ea, eb, R⟩ := sub x f N p m l g
  refine ⟨xa, fa, ?_, eb, R⟩
  have ea : mm_call mX3_readOperand [vR 2, vI o] x = some ([], xa) := ea
  show mm_call mX3_readExpression [vR 2, vI (4 + 1), vI o] x = _
  rw [X3_readExpression_c, X3_readExpression_0, if_neg (by decide), if_pos (by omega), ea, mm_be0, X3_readExpression_10]
theorem PJ_4 (o M : Int) (ho : 0 ≤ o ∧ o ≤ 6) (sub : mm_PJ (fun x => mm_call mX3_readExpression [vR 2, vI (4 + 1), vI o] x) (fun f => mm_call mX10_operand [vR 47] f) o M) : mm_PJ (fun x => mm_call mX3_readExpression [vR 2, vI 4, vI o] x) (fun f => mm_call mX10_product [vR 47] f) o (M + 1) := by
  refine lv_PJ 4 o M (by decide) ho _ _ (fun o1 f => mm_ev mX10_product (10 + (8 * (7 - o) + 1 : Int).toNat) 4 [some (vR 47), o1] [] f) sub ?_ ?_ ?_ ?_
  · intro o1 f a b c
    show mm_ev mX10_product _ 4 [some (vR 47), o1] [] f = _
    rw [X10_product_4, if_pos a]
  · intro o1 f a b c d
    show mm_ev mX10_product _ 4 [some (vR 47), o1] [] f = _
    unfold mm_sg at d
    rw [X10_product_4, if_neg (by omega), if_pos (by omega), s_look b c, mm_be1, X10_product_15, if_neg (by omega), if_pos (by omega), s_look b c, mm_be1, X10_product_24, if_neg (by omega), if_pos (by omega), s_look b c, mm_be1, X10_product_33, if_pos (by omega)]
  · intro o1 f f2 f3 a ao b c d e1 e2
    show mm_ev mX10_product _ 4 [some (vR 47), o1] [] f = _
    have sp := (sg_bin d).2.1
    have u := fu b c (by omega)
    have e1 : mm_call mX10_operand [vR 47] (mUp f 47 22 (f 47 22 + 1)) = some ([], f2) := e1
    have k42 : mm_ev mX10_product (10 + (8 * (7 - o) + 1 : Int).toNat) 42 [some (vR 47), o1] [vI (nxR f)] f = mm_ev mX10_product (10 + (8 * (7 - o) + 1 : Int).toNat) 4 [some (vR 47), some (vI (nxR f))] [] f3 := by
      rw [X10_product_42, u, mUp_nei (show (24 : Int) ≠ 22 by decide), ao, if_pos (by omega), e1, mm_be0, X10_product_57, if_pos (by omega), e2, mm_be0, X10_product_63]
    rw [if_neg (by decide)]
    unfold mm_sg at d
    rw [X10_product_4, if_neg (by omega), if_pos (by omega), s_look b c, mm_be1, X10_product_15]
    by_cases s1 : nxR f = 42
    · rw [if_pos s1, if_pos (by omega), s_look b c, mm_be1, k42]
    · rw [if_neg s1, if_pos (by omega), s_look b c, mm_be1, X10_product_24]
      by_cases s2 : nxR f = 47
      · rw [if_pos s2, if_pos (by omega), s_look b c, mm_be1, k42]
      · rw [if_neg s2, if_pos (by omega), s_look b c, mm_be1, X10_product_33, if_neg (by omega), if_pos (by omega), s_look b c, mm_be1, k42]
  · intro f f2 ao e
    have e : mm_call mX10_operand [vR 47] f = some ([], f2) := e
    show mm_call mX10_product [vR 47] f = _
    rw [X10_product_c, X10_product_0, ao, if_pos (by omega), e, mm_be0]
theorem PJ_3 (o M : Int) (ho : 0 ≤ o ∧ o ≤ 6) (sub : mm_PJ (fun x => mm_call mX3_readExpression [vR 2, vI (3 + 1), vI o] x) (fun f => mm_call mX10_product [vR 47] f) o M) : mm_PJ (fun x => mm_call mX3_readExpression [vR 2, vI 3, vI o] x) (fun f => mm_call mX10_sum [vR 47] f) o (M + 1) := by
  refine lv_PJ 3 o M (by decide) ho _ _ (fun o1 f => mm_ev mX10_sum (10 + (8 * (7 - o) + 2 : Int).toNat) 4 [some (vR 47), o1] [] f) sub ?_ ?_ ?_ ?_
  · intro o1 f a b c
    show mm_ev mX10_sum _ 4 [some (vR 47), o1] [] f = _
    rw [X10_sum_4, if_pos a]
  · intro o1 f a b c d
    show mm_ev mX10_sum _ 4 [some (vR 47), o1] [] f = _
    unfold mm_sg at d
    rw [X10_sum_4, if_neg (by omega), if_pos (by omega), s_look b c, mm_be1, X10_sum_15, if_neg (by omega), if_pos (by omega), s_look b c, mm_be1, X10_sum_24, if_pos (by omega)]
  · intro o1 f f2 f3 a ao b c d e1 e2
    show mm_ev mX10_sum _ 4 [some (vR 47), o1] [] f = _
    have sp := (sg_bin d).2.1
    have u := fu b c (by omega)
    have e1 : mm_call mX10_product [vR 47] (mUp f 47 22 (f 47 22 + 1)) = some ([], f2) := e1
    have k33 : mm_ev mX10_sum (10 + (8 * (7 - o) + 2 : Int).toNat) 33 [some (vR 47), o1] [vI (nxR f)] f = mm_ev mX10_sum (10 + (8 * (7 - o) + 2 : Int).toNat) 4 [some (vR 47), some (vI (nxR f))] [] f3 := by
      rw [X10_sum_33, u, mUp_nei (show (24 : Int) ≠ 22 by decide), ao, if_pos (by omega), e1, mm_be0, X10_sum_48, if_pos (by omega), e2, mm_be0, X10_sum_54]
    rw [if_neg (by decide)]
    unfold mm_sg at d
    rw [X10_sum_4, if_neg (by omega), if_pos (by omega), s_look b c, mm_be1, X10_sum_15]
    by_cases s1 : nxR f = 43
    · rw [if_pos s1, if_pos (by omega), s_look b c, mm_be1, k33]
    · rw [if_neg s1, if_pos (by omega), s_look b c, mm_be1, X10_sum_24, if_neg (by omega), if_pos (by omega), s_look b c, mm_be1, k33]
  · intro f f2 ao e
    have e : mm_call mX10_product [vR 47] f = some ([], f2) := e
    show mm_call mX10_sum [vR 47] f = _
    rw [X10_sum_c, X10_sum_0, ao, if_pos (by omega), e, mm_be0]
theorem PJ_2 (o M : Int) (ho : 0 ≤ o ∧ o ≤ 6) (sub : mm_PJ (fun x => mm_call mX3_readExpression [vR 2, vI (2 + 1), vI o] x) (fun f => mm_call mX10_sum [vR 47] f) o M) : mm_PJ (fun x => mm_call mX3_readExpression [vR 2, vI 2, vI o] x) (fun f => mm_call mX10_compared [vR 47] f) o (M + 1) := by
  refine lv_PJ 2 o M (by decide) ho _ _ (fun o1 f => mm_ev mX10_compared (10 + (8 * (7 - o) + 3 : Int).toNat) 4 [some (vR 47), none] [] f) sub ?_ ?_ ?_ ?_
  · intro o1 f a b c
    show mm_ev mX10_compared _ 4 [some (vR 47), none] [] f = _
    rw [X10_compared_4, if_pos (by omega), s_look b c, mm_be1, X10_compared_8, if_pos a]
  · intro o1 f a b c d
    show mm_ev mX10_compared _ 4 [some (vR 47), none] [] f = _
    unfold mm_sg at d
    rw [X10_compared_4, if_pos (by omega), s_look b c, mm_be1, X10_compared_8, if_neg (by omega), if_neg (by omega), if_neg (by omega), if_neg (by omega)]
  · intro o1 f f2 f3 a ao b c d e1 e2
    show mm_ev mX10_compared _ 4 [some (vR 47), none] [] f = _
    have sp := (sg_bin d).2.1
    have u := fu b c (by omega)
    have e1 : mm_call mX10_sum [vR 47] (mUp f 47 22 (f 47 22 + 1)) = some ([], f2) := e1
    have k35 : mm_ev mX10_compared (10 + (8 * (7 - o) + 3 : Int).toNat) 35 [some (vR 47), some (vI (nxR f))] [] f = some ([], f3) := by
      rw [X10_compared_35, u, mUp_nei (show (24 : Int) ≠ 22 by decide), ao, if_pos (by omega), e1, mm_be0, X10_compared_49, if_pos (by omega), e2, mm_be0, X10_compared_55]
    rw [if_pos rfl]
    unfold mm_sg at d
    rw [X10_compared_4, if_pos (by omega), s_look b c, mm_be1, X10_compared_8, if_neg (by omega)]
    by_cases s1 : nxR f = 60
    · rw [if_pos s1, k35]
    · rw [if_neg s1]
      by_cases s2 : nxR f = 61
      · rw [if_pos s2, k35]
      · rw [if_neg s2, if_pos (by omega), k35]
  · intro f f2 ao e
    have e : mm_call mX10_sum [vR 47] f = some ([], f2) := e
    show mm_call mX10_compared [vR 47] f = _
    rw [X10_compared_c, X10_compared_0, ao, if_pos (by omega), e, mm_be0]
theorem PJ_1 (o M : Int) (ho : 0 ≤ o ∧ o ≤ 6) (sub : mm_PJ (fun x => mm_call mX3_readExpression [vR 2, vI (1 + 1), vI o] x) (fun f => mm_call mX10_compared [vR 47] f) o M) : mm_PJ (fun x => mm_call mX3_readExpression [vR 2, vI 1, vI o] x) (fun f => mm_call mX10_both [vR 47] f) o (M + 1) := by
  refine lv_PJ 1 o M (by decide) ho _ _ (fun o1 f => mm_ev mX10_both (10 + (8 * (7 - o) + 4 : Int).toNat) 4 [some (vR 47)] [] f) sub ?_ ?_ ?_ ?_
  · intro o1 f a b c
    show mm_ev mX10_both _ 4 [some (vR 47)] [] f = _
    rw [X10_both_4, if_pos a]
  · intro o1 f a b c d
    show mm_ev mX10_both _ 4 [some (vR 47)] [] f = _
    unfold mm_sg at d
    rw [X10_both_4, if_neg (by omega), if_pos (by omega), s_look b c, mm_be1, X10_both_15, if_pos (by omega)]
  · intro o1 f f2 f3 a ao b c d e1 e2
    show mm_ev mX10_both _ 4 [some (vR 47)] [] f = _
    have u := fu b c (by have := (sg_bin d).2.1; omega)
    have e1 : mm_call mX10_compared [vR 47] (mUp f 47 22 (f 47 22 + 1)) = some ([], f2) := e1
    have d : nxR f = 38 := by unfold mm_sg at d; omega
    rw [d] at e2
    rw [if_neg (by decide), X10_both_4, if_neg (by omega), if_pos (by omega), s_look b c, mm_be1, X10_both_15, if_neg (by omega), u, mUp_nei (show (24 : Int) ≠ 22 by decide), ao, if_pos (by omega), e1, mm_be0, X10_both_34, if_pos (by omega), e2, mm_be0, X10_both_41]
  · intro f f2 ao e
    have e : mm_call mX10_compared [vR 47] f = some ([], f2) := e
    show mm_call mX10_both [vR 47] f = _
    rw [X10_both_c, X10_both_0, ao, if_pos (by omega), e, mm_be0]
theorem PJ_0 (o M : Int) (ho : 0 ≤ o ∧ o ≤ 6) (sub : mm_PJ (fun x => mm_call mX3_readExpression [vR 2, vI (0 + 1), vI o] x) (fun f => mm_call mX10_both [vR 47] f) o M) : mm_PJ (fun x => mm_call mX3_readExpression [vR 2, vI 0, vI o] x) (fun f => mm_call mX10_either [vR 47] f) o (M + 1) := by
  refine lv_PJ 0 o M (by decide) ho _ _ (fun o1 f => mm_ev mX10_either (10 + (8 * (7 - o) + 5 : Int).toNat) 4 [some (vR 47)] [] f) sub ?_ ?_ ?_ ?_
  · intro o1 f a b c
    show mm_ev mX10_either _ 4 [some (vR 47)] [] f = _
    rw [X10_either_4, if_pos a]
  · intro o1 f a b c d
    show mm_ev mX10_either _ 4 [some (vR 47)] [] f = _
    unfold mm_sg at d
    rw [X10_either_4, if_neg (by omega), if_pos (by omega), s_look b c, mm_be1, X10_either_15, if_pos (by omega)]
  · intro o1 f f2 f3 a ao b c d e1 e2
    show mm_ev mX10_either _ 4 [some (vR 47)] [] f = _
    have u := fu b c (by have := (sg_bin d).2.1; omega)
    have e1 : mm_call mX10_both [vR 47] (mUp f 47 22 (f 47 22 + 1)) = some ([], f2) := e1
    have d : nxR f = 124 := by unfold mm_sg at d; omega
    rw [d] at e2
    rw [if_neg (by decide), X10_either_4, if_neg (by omega), if_pos (by omega), s_look b c, mm_be1, X10_either_15, if_neg (by omega), u, mUp_nei (show (24 : Int) ≠ 22 by decide), ao, if_pos (by omega), e1, mm_be0, X10_either_34, if_pos (by omega), e2, mm_be0, X10_either_41]
  · intro f f2 ao e
    have e : mm_call mX10_both [vR 47] f = some ([], f2) := e
    show mm_call mX10_either [vR 47] f = _
    rw [X10_either_c, X10_either_0, ao, if_pos (by omega), e, mm_be0]
theorem PJ_all (o M : Int) (ho : 0 ≤ o ∧ o ≤ 6) (sub : mm_PJ (fun x => mm_call mX3_readOperand [vR 2, vI o] x) (fun f => mm_call mX10_operand [vR 47] f) o M) : mm_PJ (fun x => mm_call mX3_readExpression [vR 2, vI 0, vI o] x) (fun f => mm_call mX10_either [vR 47] f) o (M + 5) := by
  have a := PJ_0 o _ ho (PJ_1 o _ ho (PJ_2 o _ ho (PJ_3 o _ ho (PJ_4 o M ho (PJ_5 o M ho _ sub)))))
  rw [show M + 5 = M + 1 + 1 + 1 + 1 + 1 from by omega]
  exact a
