/-! the law: an operand -/
theorem add_mv {f f' : mm_M} {a b v : Int} (l0 : 0 ≤ f 47 25) (l1 : f 47 25 < 130) (h : mm_call mX10_addStep [vR 47, vI a, vI b] (mUp f 47 22 v) = some ([], f')) : ∃ fa, mm_call mX10_addStep [vR 47, vI a, vI b] f = some ([], fa) ∧ fa 47 22 = f 47 22 ∧ mUp fa 47 22 v = f' := by
  have e : (mUp f 47 22 v) 47 25 = f 47 25 := mUp_nei (by decide)
  have t := s_addStep (f := mUp f 47 22 v) a b (by omega) (by omega)
  rw [h, e] at t
  have t : f' = mUp (mUp (mUp (mUp f 47 22 v) 61 (130 + f 47 25) (w8 a)) 62 (130 + f 47 25) b) 47 25 (f 47 25 + 1) := congrArg Prod.snd (Option.some.inj t)
  refine ⟨_, s_addStep a b l0 l1, ?_, ?_⟩
  · rw [mUp_nei (by decide), mUp_ne (by decide), mUp_ne (by decide)]
  · rw [t]
    funext c i
    by_cases q : c = 47 ∧ i = 22
    · rw [q.1, q.2, mUp_self, mUp_nei (by decide), mUp_ne (by decide), mUp_ne (by decide), mUp_self]
    · simp only [mUp_at, if_neg q]
theorem gs_fig {x f : mm_M} {N p m l o : Int} (g : mm_gs x f N p m l o) (h : ¬ (48 ≤ nxR f ∧ nxR f ≤ 57)) : ∃ f', mm_call mX10_figure [vR 47] f = some ([], f') ∧ mm_pno (mUp x 2 3 1) f' N p m l ∧ mm_fc l f f' := by
  obtain ⟨z, X, F⟩ := gs_br g
  obtain ⟨t, ⟨a1, a2, a3⟩, ⟨b1, b2, b3, b4⟩, d1, d2, d3⟩ := g
  have t2 := t.2.1
  have t4 := t.2.2.2.1
  have l1 : (mUp f 47 23 p) 47 25 = l := by rw [mUp_nei (by decide)]; exact b4
  have B := s_addStep (f := mUp f 47 23 p) 1 0 (by omega) (by omega)
  rw [l1] at B
  have F2 : mm_fc l (mUp f 47 23 p) (mUp (mUp (mUp (mUp f 47 23 p) 61 (130 + l) (w8 1)) 62 (130 + l) 0) 47 25 (l + 1)) := fun c i q1 q2 => by
    have z1 : ¬ (c = 47 ∧ i = 25) := by omega
    have z2 : ¬ (c = 62 ∧ i = 130 + l) := fun w => q2 ⟨by omega, by omega⟩
    have z3 : ¬ (c = 61 ∧ i = 130 + l) := fun w => q2 ⟨by omega, by omega⟩
    rw [mUp_at, if_neg z1, mUp_at, if_neg z2, mUp_at, if_neg z3]
  refine ⟨_, ?_, ?_, F.tr F2 (Int.le_refl _)⟩
  · rw [X10_figure_c, X10_figure_4, if_neg (by decide), s_look (by omega) (by omega), mm_be1, X10_figure_13, s_in, mm_be1, if_neg h, X10_figure_20, if_pos rfl, X10_figure_52, if_pos rfl, s_faulty, if_neg (by omega), b1, mm_be0, X10_figure_74, B, mm_be0, X10_figure_80]
  · refine ⟨p, ⟨d1.1, Int.le_refl _, d1.2⟩, mm_tape.co X (F.tr F2 (Int.le_refl _)) t, ⟨by rw [mUp_nei (by decide)]; exact a1, ?_, ?_⟩, Or.inl (by rw [mUp_self]; decide), ⟨d3.1, ?_, ?_⟩, d2.1, ?_, ?_⟩
    · rw [mUp_nei (by decide), mUp_ne (by decide), mUp_ne (by decide), mUp_nei (by decide)]; exact b1
    · rw [mUp_nei (by decide), mUp_ne (by decide), mUp_ne (by decide), mUp_self]
    · rw [mUp_nei (by decide)]; omega
    · rw [mUp_nei (by decide)]; omega
    · rw [mUp_self]; omega
    · rw [mUp_self]; omega
theorem op_PJ (o M M' : Int) (ho : 0 ≤ o ∧ o ≤ 6) (hM : 1 ≤ M) (hM' : M' ≤ M) (hE : o < 6 → mm_PJ (fun x => mm_call mX3_readExpression [vR 2, vI 0, vI (o + 1)] x) (fun f => mm_call mX10_either [vR 47] f) (o + 1) M) (hO : o < 6 → mm_PJ (fun x => mm_call mX3_readOperand [vR 2, vI (o + 1)] x) (fun f => mm_call mX10_operand [vR 47] f) (o + 1) M') : mm_PJ (fun x => mm_call mX3_readOperand [vR 2, vI o] x) (fun f => mm_call mX10_operand [vR 47] f) o M := by
  intro x f N p m l g
  show ∃ x' f', mm_call mX3_readOperand [vR 2, vI o] x = some ([], x') ∧ mm_call mX10_operand [vR 47] f = some ([], f') ∧ mm_rs x f x' f' N p m l o M
  obtain ⟨t, ⟨x2, x3, x5⟩, ⟨f2, f3, f4, f5⟩, d1, d2, d3⟩ := id g
  have t1 := t.1
  have t2 := t.2.1
  have t4 := t.2.2.2.1
  have sp := t.2.2.2.2.2
  have nx := nx_eq t x2 f2 d1.1
  have w4 : w32 (o + 1) = o + 1 := w32_id (by unfold mm_r32; omega)
  have wp : w32 (p + 1) = p + 1 := w32_id (by unfold mm_r32; omega)
  have c0 : mm_call mX3_readOperand [vR 2, vI o] x = mm_ev mX3_readOperand (10 + (8 * (7 - o) : Int).toNat) 9 [some (vR 2), some (vI o), some (vI (nxC x))] [vI (if 48 ≤ nxC x ∧ nxC x ≤ 57 then 1 else 0)] x := by
    rw [X3_readOperand_c, X3_readOperand_0, if_pos (by omega), c_next (by omega) (by omega), mm_be1, X3_readOperand_4, if_pos (by omega), c_isDigit, mm_be1]
  have r0 : ∀ v, mm_call mX10_nameOf [vI (nxR f)] f = some ([vI v], f) → mm_call mX10_operand [vR 47] f = mm_ev mX10_operand (10 + (8 * (7 - o) + 0 : Int).toNat) 9 [some (vR 47), some (vI (nxR f))] [vI v] f := fun v hv => by
    rw [X10_operand_c, X10_operand_0, f4, if_pos (by omega), s_look (by omega) (by omega), mm_be1, X10_operand_4, if_pos (by omega), hv, mm_be1]
  by_cases dg : 48 ≤ nxC x ∧ nxC x ≤ 57
  · -- a number
    have nn : ¬ mm_lnm (nxR f) := by unfold mm_lnm; omega
    have nv : mm_call mX10_nameOf [vI (nxR f)] f = some ([vI (-1)], f) := by
      rcases s_nameOf f (nxR f) with w | w
      · exact absurd w.1 nn
      · exact w.2
    obtain ⟨x', f', i1, i2, R⟩ := num_loop o p m l M hM x f N ⟨d1.1, d3.1, d2.1, d3.2, d2.2⟩ 4 0 0 x f (by decide) (by decide) (by decide) (by rw [Int.add_zero]; exact g) mm_xc.rf mm_fc.rf (fun _ => dg) (by decide) (by decide) (fun _ => rfl) (fun _ => by decide) (fun _ => by decide) (fun _ => by decide)
    refine ⟨x', f', ?_, ?_, R⟩
    · rw [c0, if_pos dg, X3_readOperand_9, if_neg (by decide), if_pos (by omega), X3_readNumber_c, i1, mm_be0, X3_readOperand_16]
    · rw [r0 _ nv, X10_operand_9, if_pos (by decide), if_neg (by omega), if_pos (by omega), if_pos (by omega), if_pos (by omega), X10_figure_c, i2, mm_be0, X10_operand_154]
  · rw [if_neg dg] at c0
    have dgR : ¬ (48 ≤ nxR f ∧ nxR f ≤ 57) := by omega
    by_cases nm : mm_lnm (nxC x)
    · -- a name
      have eqn : nxC x = nxR f := by unfold mm_lnm at nm; omega
      have ran : 98 < nxC x ∧ nxC x < 122 := by unfold mm_lnm at nm; omega
      have inN := nx_in t x2 (by omega)
      have nmR : mm_lnm (nxR f) := by rw [← eqn]; exact nm
      obtain ⟨v, hv, v0, tr⟩ : ∃ v, mm_call mX10_nameOf [vI (nxR f)] f = some ([vI v], f) ∧ 0 ≤ v ∧ mm_tr (-nxR f) 2 v := by
        rcases s_nameOf f (nxR f) with w | w
        · exact w.2
        · exact absurd nmR w.1
      obtain ⟨g1, X1, F1⟩ := gs_st g inN.1
      obtain ⟨x', f', e1, e2, g3, X2, F2, v1, v2, v3, v4, v5⟩ := gs_add g1 (by omega) (by omega) (-nxC x) 2 v
      obtain ⟨fa, e3, e4, e5⟩ := add_mv (by omega) (by omega) e2
      have wn : w32 (-nxC x) = -nxC x := w32_id (by unfold mm_r32; omega)
      have w2 : w8 2 = 2 := by decide
      refine ⟨x', f', ?_, ?_, X1.tr X2 (Int.le_refl _), F1.tr F2 (Int.le_refl _), Or.inl ⟨p + 1, 1, by omega, g3, by decide, by omega, mm_E_1 (by rw [v1, v3, v4, w2, eqn]; exact tr) (by rw [v3, w2]; exact nd_2) hM⟩⟩
      · rw [c0, X3_readOperand_9, if_pos rfl, if_pos (by omega), c_isNm, mm_be1, if_pos nm, X3_readOperand_23, if_neg (by decide), if_pos (by omega), wn, x2, wp, e1, mm_be0, X3_readOperand_42]
      · rw [r0 v hv, X10_operand_9, if_neg (by omega), if_pos (by omega), hv, mm_be1, X10_operand_18, if_pos (by omega), e3, mm_be0, X10_operand_21, e4, f2, wp, e5, X10_operand_154]
    · have nmR : ¬ mm_lnm (nxR f) := by unfold mm_lnm at nm ⊢; omega
      have hv : mm_call mX10_nameOf [vI (nxR f)] f = some ([vI (-1)], f) := by
        rcases s_nameOf f (nxR f) with w | w
        · exact absurd w.1 nmR
        · exact w.2
      have r0 := r0 _ hv
      rw [X10_operand_9, if_pos (by decide)] at r0
      have br : mm_call mX3_readOperand [vR 2, vI o] x = some ([], mUp x 2 3 1) → ¬ (nxR f = 33 ∨ nxR f = 45 ∨ nxR f = 40) → ∃ x' f', mm_call mX3_readOperand [vR 2, vI o] x = some ([], x') ∧ mm_call mX10_operand [vR 47] f = some ([], f') ∧ mm_rs x f x' f' N p m l o M := fun ec no => by
        obtain ⟨f', e1, z, F⟩ := gs_fig g dgR
        refine ⟨_, f', ec, ?_, (gs_br g).2.1, F, Or.inr z⟩
        rw [r0, if_neg (by omega), if_pos (by omega), if_pos (by omega), if_pos (by omega), e1, mm_be0, X10_operand_154]
      rw [X3_readOperand_9, if_pos rfl, if_pos (by omega), c_isNm, mm_be1, if_neg nm, X3_readOperand_23, if_pos rfl] at c0
      by_cases o6 : o < 6
      · rw [if_pos o6, if_pos (by omega), c_skips (by omega) (by omega) (by decide)] at c0
        have op : mm_call mX10_opens [vR 47] f = some ([vI 1], mUp (mUp f 47 24 (o + 1)) 47 22 (p + 1)) := by
          rw [X10_opens_c, f4, if_pos (by omega), w4, mUp_nei (show (22 : Int) ≠ 24 by decide), f2, wp]
        by_cases s40 : nxC x = 40
        · -- a bracket
          have eqn : nxR f = 40 := by omega
          have inN := nx_in t x2 (by omega)
          rw [if_pos s40, mm_be1, X3_readOperand_65, if_neg (by decide), w4, if_pos (by omega), x2] at c0
          rw [if_neg (by omega), if_pos (by omega), if_neg (by omega), if_pos (by omega), op, mm_be1, X10_operand_97, if_pos (by decide), mUp_nei (show (24 : Int) ≠ 22 by decide), mUp_self, if_pos (by omega)] at r0
          obtain ⟨gA, FA⟩ := gs_op g (o + 1)
          obtain ⟨g1, X1, F1⟩ := gs_st gA inN.1
          obtain ⟨xa, fa, ea, eb, Xa, Fa, R⟩ := hE o6 _ _ _ _ _ _ g1
          have ea : mm_call mX3_readExpression [vR 2, vI 0, vI (o + 1)] (mUp x 2 2 (p + 1)) = some ([], xa) := ea
          have eb : mm_call mX10_either [vR 47] (mUp (mUp f 47 24 (o + 1)) 47 22 (p + 1)) = some ([], fa) := eb
          have XX := X1.tr Xa (Int.le_refl _)
          have FF := (FA.tr F1 (Int.le_refl _)).tr Fa (Int.le_refl _)
          rw [ea, mm_be0, X3_readOperand_76] at c0
          rw [eb, mm_be0, X10_operand_105] at r0
          rcases R with ⟨q, n, pq, g2, n0, nq, E⟩ | R
          · obtain ⟨tb, ⟨y2, y3, y5⟩, ⟨h2, h3, h4, h5⟩, u1, u2, u3⟩ := id g2
            have tb1 := tb.1
            have tb2 := tb.2.1
            have nx2 := nx_eq tb y2 h2 u1.1
            rw [if_neg (fun w => w y3), if_pos (by omega), c_skips (by omega) (by omega) (by decide)] at c0
            rw [if_pos (by omega), if_pos (by omega), s_look (by omega) (by omega), mm_be1, X10_operand_117] at r0
            by_cases s41 : nxC xa = 41
            · have inN2 := nx_in tb y2 (by omega)
              have wq : w32 (q + 1) = q + 1 := w32_id (by unfold mm_r32; omega)
              have wo : w32 (o + 1 - 1) = o := by rw [show o + 1 - 1 = o from by omega]; exact w32_id (by unfold mm_r32; omega)
              rw [if_pos s41, mm_be1, X3_readOperand_90, if_pos (by decide), y2] at c0
              rw [if_pos (by omega), h2, wq, mUp_nei (show (24 : Int) ≠ 22 by decide), h4, wo, X10_operand_154] at r0
              obtain ⟨g4, X4, F4⟩ := gs_st g2 inN2.1
              obtain ⟨g5, F5⟩ := gs_op g4 o
              have same : mUp (mUp xa 2 2 (q + 1)) 2 3 0 = mUp xa 2 2 (q + 1) := by
                funext c i
                rw [mUp_at]
                by_cases w : c = 2 ∧ i = 3
                · rw [if_pos w, w.1, w.2, mUp_nei (by decide), y3]
                · rw [if_neg w]
              rw [same] at c0
              refine ⟨_, _, c0, r0, XX.tr X4 (by omega), (FF.tr F4 (by omega)).tr F5 (by omega), Or.inl ⟨q + 1, n, by omega, g5, n0, by omega, ?_⟩⟩
              have sX : (mUp xa 2 2 (q + 1)) 2 4 = xa 2 4 := mUp_nei (by decide)
              refine mm_E_co (fun k k0 k1 => ⟨?_, ?_, ?_⟩) E
              · rw [sX, mUp_ne (by have := tb.2.2.2.2.2; omega)]
              · show fa 61 _ = mUp (mUp fa 47 22 (q + 1)) 47 24 o 61 _
                rw [mUp_ne (by decide), mUp_ne (by decide)]
              · show fa 62 _ = mUp (mUp fa 47 22 (q + 1)) 47 24 o 62 _
                rw [mUp_ne (by decide), mUp_ne (by decide)]
            · rw [if_neg s41, mm_be1, X3_readOperand_90, if_neg (by decide)] at c0
              rw [if_neg (by omega), if_pos (by omega), s_faulty, if_neg (by omega), h2, mm_be0, X10_operand_126] at r0
              obtain ⟨z, X4, F4⟩ := gs_br g2
              exact ⟨_, _, c0, r0, XX.tr X4 (by omega), FF.tr F4 (by omega), Or.inr (z.le (by omega) d1.1 d3.1 (by omega) d2.1 (by omega) (by omega))⟩
          · obtain ⟨z, X4⟩ := pno_br R
            obtain ⟨q, h1, tq, ⟨y2, y3, y4⟩, h2, h3, l0, h4, h5⟩ := id R
            have tq1 := tq.1
            rw [if_neg (by omega)] at r0
            refine ⟨mUp xa 2 3 1, fa, ?_, r0, XX.tr X4 (Int.le_refl _), FF, Or.inr (z.le (by omega) d1.1 d3.1 (Int.le_refl _) d2.1 (Int.le_refl _) (by omega))⟩
            rw [c0]
            by_cases e2 : xa 2 3 = 0
            · have dq : q < N ∧ 48 ≤ xa 15 q ∧ xa 15 q ≤ 57 := by
                rcases h2 with w | w
                · exact absurd e2 w
                · exact w
              have nq : nxC xa = xa 15 q := by
                unfold nxC
                rw [tq1, y2, if_neg (by omega)]
              rw [if_neg (fun w => w e2), if_pos (by omega), c_skips (by omega) (by omega) (by decide), if_neg (by omega), mm_be1, X3_readOperand_90, if_neg (by decide)]
            · rw [if_pos e2]
        · rw [if_neg s40, mm_be1, X3_readOperand_65, if_pos rfl, if_pos (by omega), c_skips (by omega) (by omega) (by decide)] at c0
          -- both signs before an operand
          have un : ∀ (s a w : Int), nxR f = s → nxC x = s → (s = 33 ∨ s = 45) → (w = 3 ∨ w = 4) → mm_tr a w 0 → (∀ xa xb, mm_call mX3_readOperand [vR 2, vI (o + 1)] (mUp x 2 2 (p + 1)) = some ([], xa) → mm_call mX3_add [vR 2, vI a] xa = some ([], xb) → mm_call mX3_readOperand [vR 2, vI o] x = some ([], xb)) → (∀ fa fb, mm_call mX10_operand [vR 47] (mUp (mUp f 47 24 (o + 1)) 47 22 (p + 1)) = some ([], fa) → mm_call mX10_addStep [vR 47, vI w, vI 0] (mUp fa 47 24 (w32 (fa 47 24 - 1))) = some ([], fb) → mm_call mX10_operand [vR 47] f = some ([], fb)) → ∃ x' f', mm_call mX3_readOperand [vR 2, vI o] x = some ([], x') ∧ mm_call mX10_operand [vR 47] f = some ([], f') ∧ mm_rs x f x' f' N p m l o M := by
            intro s a w sR sC hs hw tr hc hr
            have inN := nx_in t x2 (by omega)
            obtain ⟨gA, FA⟩ := gs_op g (o + 1)
            obtain ⟨g1, X1, F1⟩ := gs_st gA inN.1
            obtain ⟨xa, fa, ea, eb, Xa, Fa, R⟩ := hO o6 _ _ _ _ _ _ g1
            have XX := X1.tr Xa (Int.le_refl _)
            have FF := (FA.tr F1 (Int.le_refl _)).tr Fa (Int.le_refl _)
            have hc := fun xb => hc xa xb ea
            have hr := fun fb => hr fa fb eb
            have w8w : w8 w = w := by rcases hw with w | w <;> rw [w] <;> decide
            rcases R with ⟨q, n, pq, g2, n0, nq, E⟩ | R
            · have wo : w32 (fa 47 24 - 1) = o := by
                rw [g2.2.2.1.2.2.1, show o + 1 - 1 = o from by omega]
                exact w32_id (by unfold mm_r32; omega)
              rw [wo] at hr
              obtain ⟨g5, F5⟩ := gs_op g2 o
              have u1 := g2.2.2.2.2
              obtain ⟨x', f', e1, e2, g3, X2, F2, v1, v2, v3, v4, v5⟩ := gs_add g5 (by omega) (by omega) a w 0
              have g3' : mm_gs x' f' N q (m + (n + 1)) (l + (n + 1)) o := by
                rw [show m + (n + 1) = m + n + 1 from by omega, show l + (n + 1) = l + n + 1 from by omega]
                exact g3
              refine ⟨x', f', hc _ e1, hr _ e2, XX.tr X2 (by omega), (FF.tr F5 (by omega)).tr F2 (by omega), Or.inl ⟨q, n + 1, by omega, g3', by omega, by omega, ?_⟩⟩
              have E' : mm_E (x' (x' 2 4).toNat) m (mm_w f') (mm_x f') l n M := by
                refine mm_E_co (fun k k0 k1 => ⟨?_, ?_, ?_⟩) (mm_E_M hM' E)
                · rw [v2 _ (by omega)]
                · rw [(v5 _ (by omega)).1]
                  show fa 61 _ = mUp fa 47 24 o 61 _
                  rw [mUp_ne (by decide)]
                · rw [(v5 _ (by omega)).2]
                  show fa 62 _ = mUp fa 47 24 o 62 _
                  rw [mUp_ne (by decide)]
              refine mm_E_u E' (by rw [v1, v3, v4, w8w]; exact tr) ?_
              rw [v3, w8w]
              rcases hw with w | w <;> rw [w]
              · exact nd_3
              · exact nd_4
            · obtain ⟨z, F5⟩ := pno_op R (w32 (fa 47 24 - 1))
              obtain ⟨x', f', e1, e2, z2, X2, F2⟩ := no_add z (by omega) p (by omega) d1.1 a w 0
              exact ⟨x', f', hc _ e1, hr _ e2, XX.tr X2 (Int.le_refl _), (FF.tr F5 (Int.le_refl _)).tr F2 (Int.le_refl _), Or.inr z2⟩
          by_cases s33 : nxC x = 33
          · rw [if_pos s33, mm_be1, X3_readOperand_110, if_neg (by decide), w4, if_pos (by omega), x2] at c0
            rw [if_pos (by omega), if_pos (by omega), op, mm_be1, X10_operand_50, if_pos (by decide), mUp_nei (show (24 : Int) ≠ 22 by decide), mUp_self, if_pos (by omega)] at r0
            refine un 33 (-33) 3 (by omega) s33 (by omega) (Or.inl rfl) (by unfold mm_tr; omega) (fun xa xb ea eb => ?_) (fun fa fb ea eb => ?_)
            · rw [c0, ea, mm_be0, X3_readOperand_120, if_pos (by omega), eb, mm_be0, X3_readOperand_126]
            · rw [r0, ea, mm_be0, X10_operand_58, if_neg (by omega), if_pos (by omega), eb, mm_be0, X10_operand_84, X10_operand_154]
          · rw [if_neg s33, mm_be1, X3_readOperand_110, if_pos rfl, if_pos (by omega), c_skips (by omega) (by omega) (by decide)] at c0
            by_cases s45 : nxC x = 45
            · rw [if_pos s45, mm_be1, X3_readOperand_135, if_neg (by decide), w4, if_pos (by omega), x2] at c0
              rw [if_neg (by omega), if_neg (by omega), if_pos (by omega), op, mm_be1, X10_operand_50, if_pos (by decide), mUp_nei (show (24 : Int) ≠ 22 by decide), mUp_self, if_pos (by omega)] at r0
              refine un 45 (-1) 4 (by omega) s45 (by omega) (Or.inr rfl) (by unfold mm_tr; omega) (fun xa xb ea eb => ?_) (fun fa fb ea eb => ?_)
              · rw [c0, ea, mm_be0, X3_readOperand_145, if_pos (by omega), eb, mm_be0, X3_readOperand_150]
              · rw [r0, ea, mm_be0, X10_operand_58, if_pos (by omega), if_pos (by omega), eb, mm_be0, X10_operand_84, X10_operand_154]
            · rw [if_neg s45, mm_be1, X3_readOperand_135, if_pos rfl] at c0
              exact br c0 (by omega)
      · rw [if_neg o6] at c0
        by_cases sx : nxR f = 33 ∨ nxR f = 45 ∨ nxR f = 40
        · obtain ⟨z, X, F⟩ := gs_br g
          have op : mm_call mX10_opens [vR 47] f = some ([vI 0], mUp f 47 23 p) := by
            rw [X10_opens_c, if_neg (by omega), s_faulty, if_neg (by omega), f2, mm_be0, X10_opens_13]
          refine ⟨_, _, c0, ?_, X, F, Or.inr z⟩
          rw [r0]
          by_cases s1 : nxR f = 33
          · rw [if_pos s1, if_pos (by omega), op, mm_be1, X10_operand_50, if_neg (by decide)]
          · rw [if_neg s1]
            by_cases s2 : nxR f = 45
            · rw [if_neg (fun w => w s2), if_pos (by omega), op, mm_be1, X10_operand_50, if_neg (by decide)]
            · rw [if_pos s2, if_neg (by omega), if_pos (by omega), op, mm_be1, X10_operand_97, if_neg (by decide)]
        · exact br c0 sx
/-- at every nesting -/
theorem op_all : ∀ (d : Nat) (o : Int), 0 ≤ o → o ≤ 6 → 6 - o ≤ d → mm_PJ (fun x => mm_call mX3_readOperand [vR 2, vI o] x) (fun f => mm_call mX10_operand [vR 47] f) o (31 - 5 * o) := by
  intro d
  induction d with
  | zero =>
    intro o o0 o6 od
    exact op_PJ o _ 0 ⟨o0, o6⟩ (by omega) (by omega) (fun w => by omega) (fun w => by omega)
  | succ d ih =>
    intro o o0 o6 od
    by_cases q : o = 6
    · exact op_PJ o _ 0 ⟨o0, o6⟩ (by omega) (by omega) (fun w => by omega) (fun w => by omega)
    · have a := ih (o + 1) (by omega) (by omega) (by omega)
      have b := PJ_all (o + 1) _ ⟨by omega, by omega⟩ a
      rw [show 31 - 5 * (o + 1) + 5 = 31 - 5 * o from by omega] at b
      exact op_PJ o _ (31 - 5 * (o + 1)) ⟨o0, o6⟩ (by omega) (by omega) (fun _ => b) (fun _ => a)
theorem ex_all : mm_PJ (fun x => mm_call mX3_readExpression [vR 2, vI 0, vI 0] x) (fun f => mm_call mX10_either [vR 47] f) 0 64 := by
  have a := PJ_all 0 _ (by decide) (op_all 6 0 (by decide) (by decide) (by decide))
  intro x f N p m l g
  obtain ⟨x', f', h1, h2, X, F, R⟩ := a x f N p m l g
  refine ⟨x', f', h1, h2, X, F, ?_⟩
  rcases R with ⟨q, n, pq, g2, n0, nq, E⟩ | R
  · exact Or.inl ⟨q, n, pq, g2, n0, nq, mm_E_M (by decide) E⟩
  · exact Or.inr R
