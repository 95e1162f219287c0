/-! route: the pair -/
theorem s_gr23 (f : mm_M) (r : Nat) (u rule sh p d : Int) (hd : f 47 35 = d) (d7 : 0 ≤ d ∧ d < 7) (hr : r = 20 + (8 - d : Int).toNat) : mm_ev mX10_goRoutes r 23 [some (vR 47), some (vI u), some (vI rule), some (vI sh), some (vI p)] [] f = if f 47 1 ≤ p then some ([], f) else if ¬ tb u p = 1 then (mm_call mX10_goRoutes [vR 47, vI (iOr u (iShl 1 p)), vI rule, vI sh] (mUp (mUp f 68 d p) 47 35 (d + 1))).bind (fun w => mm_ev mX10_goRoutes r 78 [some (vR 47), some (vI u), some (vI rule), some (vI sh), some (vI p)] (w.1 ++ []) w.2) else mm_ev mX10_goRoutes r 23 [some (vR 47), some (vI u), some (vI rule), some (vI sh), some (vI (w32 (p + 1)))] [] f := by
  have e1 : (mUp f 68 d p) 47 35 = d := by rw [mUp_ne (by decide)]; exact hd
  have w1 : w32 (d + 1) = d + 1 := w32_id (by unfold mm_r32; omega)
  rw [X10_goRoutes_23, hd, e1, w1, if_pos d7, mUp_self, if_pos (show 20 + (8 - (d + 1) : Int).toNat < r by omega)]
  rfl
/-- no update below: the reference goes on without finding a better one -/
theorem L_rno (D : Int → Int → Int) (hD : mm_D D) (N rule sh B : Int) (N6 : N ≤ 6) (hr : rule = 0 ∨ rule = 1) (B0 : 0 ≤ B) : ∀ (m : Nat) (d u : Int) (e : Int → Int) (f : mm_M), N - d ≤ m → mm_pfx e N d u → mm_rS f D e N d → f 47 38 = B → B ≤ lbd rule D e N d → ∃ f', mm_call mX10_goRoutes [vR 47, vI u, vI rule, vI sh] f = some ([], f') ∧ mm_rF f f' d ∧ f' 47 38 = B ∧ ∀ k, f' 70 k = f 70 k := by
  intro m
  have leaf : ∀ (d u : Int) (e : Int → Int) (f : mm_M), N ≤ d → mm_pfx e N d u → mm_rS f D e N d → f 47 38 = B → B ≤ lbd rule D e N d → ∃ f', mm_call mX10_goRoutes [vR 47, vI u, vI rule, vI sh] f = some ([], f') ∧ mm_rF f f' d ∧ f' 47 38 = B ∧ ∀ k, f' 70 k = f 70 k := by
    intro d u e f Nd z S hB hl
    have dN : d = N := by have := z.2.1; omega
    subst dN
    have z1 := z.1
    have S1 := S.1
    have S6 := S.2.2.2.2.2
    obtain ⟨f1, a1, a2⟩ := s_leaf f D hD e d u rule sh N6 hr z S
    have lc : lbd rule D e d d = cst rule D e d := by
      unfold lbd
      rw [show d - d = 0 from by omega]
      split <;> omega
    rw [lc] at hl
    refine ⟨f1, ?_, ⟨fun c i q1 q2 q3 q4 => by rw [a2 c q2], by rw [a2 47 (by decide)], fun j hj => by rw [a2 68 (by decide)]⟩, by rw [a2 47 (by decide)]; exact hB, fun k => by rw [a2 70 (by decide)]⟩
    have w1 : w32 (f 47 1 - 1) = f 47 1 - 1 := w32_id (by unfold mm_r32; omega)
    have e38 : f1 47 38 = B := by rw [a2 47 (by decide)]; exact hB
    rw [X10_goRoutes_c, X10_goRoutes_0, w1, S1, if_neg (by omega), if_pos (by omega), a1, X10_metRoute_60, e38, if_neg (by omega), if_neg (by omega), mm_be0, X10_goRoutes_19]
  induction m with
  | zero =>
    intro d u e f dm z S hB hl
    exact leaf d u e f (by omega) z S hB hl
  | succ m ih =>
    intro d u e f dm z S hB hl
    by_cases dN : N ≤ d
    · exact leaf d u e f dN z S hB hl
    · have z1 := z.1
      have S1 := S.1
      have S6 := S.2.2.2.2.2
      have w1 : w32 (f 47 1 - 1) = f 47 1 - 1 := w32_id (by unfold mm_r32; omega)
      have L : ∀ (k : Nat) (p : Int) (x : mm_M), 1 ≤ p → p ≤ N + 1 → N + 1 - p ≤ k → mm_rF f x d → x 47 38 = B → (∀ k, x 70 k = f 70 k) → ∃ f', mm_ev mX10_goRoutes (20 + (8 - d : Int).toNat) 23 [some (vR 47), some (vI u), some (vI rule), some (vI sh), some (vI p)] [] x = some ([], f') ∧ mm_rF f f' d ∧ f' 47 38 = B ∧ ∀ k, f' 70 k = f 70 k := by
        intro k
        induction k with
        | zero =>
          intro p x p1 pN pk hx xB x70
          have Sx := S.fr hx
          refine ⟨x, ?_, hx, xB, x70⟩
          rw [s_gr23 x _ u rule sh p d Sx.1 (by omega) rfl, if_pos (by have := Sx.2.2.2.2.2; omega)]
        | succ k ihk =>
          intro p x p1 pN pk hx xB x70
          have Sx := S.fr hx
          have Sx6 := Sx.2.2.2.2.2
          by_cases q : N + 1 ≤ p
          · refine ⟨x, ?_, hx, xB, x70⟩
            rw [s_gr23 x _ u rule sh p d Sx.1 (by omega) rfl, if_pos (by omega)]
          · have w4 : w32 (p + 1) = p + 1 := w32_id (by unfold mm_r32; omega)
            rw [s_gr23 x _ u rule sh p d Sx.1 (by omega) rfl, if_neg (show ¬ x 47 1 ≤ p by omega), w4]
            by_cases qb : tb u p = 1
            · rw [if_neg (fun w => w qb)]
              exact ihk (p + 1) x (by omega) (by omega) (by omega) hx xB x70
            · rw [if_pos qb]
              have z' := pre_s N6 z (by omega) p1 (by omega) qb
              have S' : mm_rS (mUp (mUp x 68 d p) 47 35 (d + 1)) D (eU e d p) N (d + 1) := by
                obtain ⟨y1, y2, y3, y4, y5, y6⟩ := Sx
                refine ⟨mUp_self _ _ _ _, fun j j0 j1 => ?_, ?_, fun i i0 i1 => ?_, fun a b a0 a7 b0 b7 => ?_, ?_⟩
                · rw [mUp_ne (by decide)]
                  by_cases w : j = d
                  · rw [w, mUp_self, eU_d]
                  · rw [mUp_nei w, eU_n w]
                    exact y2 j j0 (by omega)
                · rw [mUp_nei (by decide), mUp_ne (by decide)]
                  exact y3
                · rw [mUp_ne (by decide), mUp_ne (by decide), mUp_ne (by decide), mUp_ne (by decide)]
                  exact y4 i i0 i1
                · rw [← y5 a b a0 a7 b0 b7]
                  unfold rDi
                  rw [mUp_ne (by decide), mUp_ne (by decide), mUp_ne (by decide), mUp_ne (by decide)]
                · rw [mUp_nei (by decide), mUp_ne (by decide)]
                  exact y6
              obtain ⟨y, b1, b2, b3, b4⟩ := ih (d + 1) _ (eU e d p) _ (by omega) z' S' (by rw [mUp_nei (by decide), mUp_ne (by decide)]; exact xB) (Int.le_trans hl (lbd_s hD N6 z (by omega) (by omega) (by omega)))
              have y35 : y 47 35 = d + 1 := by rw [b2.2.1]; exact mUp_self _ _ _ _
              have w5 : w32 (y 47 35 - 1) = d := by
                rw [y35, w32_id (by unfold mm_r32; omega)]
                omega
              have hy : mm_rF f (mUp y 47 35 d) d := by
                refine ⟨fun c i q1 q2 q3 q4 => ?_, ?_, fun j hj => ?_⟩
                · rw [mUp_at, if_neg (by omega), b2.1 c i q1 q2 q3 q4, mUp_at, if_neg (by omega), mUp_ne q1]
                  exact hx.1 c i q1 q2 q3 q4
                · rw [mUp_self]
                  exact S1.symm
                · rw [mUp_ne (by decide), b2.2.2 j (by omega), mUp_ne (by decide), mUp_nei (by omega)]
                  exact hx.2.2 j hj
              rw [b1, mm_be0, X10_goRoutes_78, w5, w4]
              exact ihk (p + 1) _ (by omega) (by omega) (by omega) hy (by rw [mUp_nei (by decide)]; exact b3) (fun k => by rw [mUp_ne (by decide), b4, mUp_ne (by decide), mUp_ne (by decide)]; exact x70 k)
      obtain ⟨f', c1, c2⟩ := L 7 1 f (by omega) (by omega) (by omega) mm_rF.rf hB (fun _ => rfl)
      refine ⟨f', ?_, c2⟩
      rw [X10_goRoutes_c, X10_goRoutes_0, w1, S1, if_pos (by omega)]
      exact c1
/-- the class at a way of d posts -/
def mm_cS (g : mm_M) (D : Int → Int → Int) (e : Int → Int) (N d rule : Int) : Prop := g 8 4 = N ∧ g 8 5 = rule ∧ (∀ p q : Int, 0 ≤ p → p ≤ N → 0 ≤ q → q ≤ N → g 36 (p * 7 + q) = D p q) ∧ ∀ j : Int, 0 ≤ j → j < d → g 35 j = e j
def mm_cF (g g' : mm_M) (d : Int) : Prop := (∀ c i, c ≠ 34 → c ≠ 35 → ¬ (c = 8 ∧ (i = 0 ∨ i = 2 ∨ i = 3)) → g' c i = g c i) ∧ ∀ j : Int, j < d → g' 35 j = g 35 j
theorem mm_cF.rf {f : mm_M} {d : Int} : mm_cF f f d := ⟨fun _ _ _ _ _ => rfl, fun _ _ => rfl⟩
theorem mm_cS.fr {g g' : mm_M} {D : Int → Int → Int} {e : Int → Int} {N d rule : Int} (z : mm_cS g D e N d rule) (h : mm_cF g g' d) : mm_cS g' D e N d rule := by
  obtain ⟨z1, z2, z3, z4⟩ := z
  obtain ⟨h1, h2⟩ := h
  exact ⟨by rw [h1 8 4 (by decide) (by decide) (by omega)]; exact z1, by rw [h1 8 5 (by decide) (by decide) (by omega)]; exact z2, fun p q p0 p1 q0 q1 => by rw [h1 36 _ (by decide) (by decide) (by omega)]; exact z3 p q p0 p1 q0 q1, fun j j0 j1 => by rw [h2 j j1]; exact z4 j j0 j1⟩
theorem c_step (g : mm_M) (D : Int → Int → Int) (hD : mm_D D) (e : Int → Int) (N d u p rule : Int) (N6 : N ≤ 6) (z : mm_pfx e N d u) (S : mm_cS g D e N d rule) (p0 : 0 ≤ p) (pN : p ≤ N) : mm_call mX6_stepTo [vR 8, vI d, vI p] g = some ([vI (stp D e d p)], g) := by
  obtain ⟨s1, s2, s3, s4⟩ := S
  have z1 := z.1
  have z2 := z.2.1
  have sb := stp_b hD N6 z p0 (show p < 7 by omega)
  unfold stp at sb ⊢
  rw [X6_stepTo_c]
  by_cases q : d = 0
  · have t := s3 0 p (by omega) (by omega) p0 pN
    rw [show (0 : Int) * 7 + p = p from by omega] at t
    rw [if_neg (fun w => w q), if_pos (by omega), if_pos q, t]
  · rw [if_neg q] at sb ⊢
    have v := z.2.2.1 (d - 1) (by omega) (by omega)
    have w1 : w32 (d - 1) = d - 1 := w32_id (by unfold mm_r32; omega)
    have w2 : w32 (e (d - 1) * 7) = e (d - 1) * 7 := w32_id (by unfold mm_r32; omega)
    have w3 : w32 (e (d - 1) * 7 + p) = e (d - 1) * 7 + p := w32_id (by unfold mm_r32; omega)
    have w4 : w32 (1 + D (e (d - 1)) p) = 1 + D (e (d - 1)) p := w32_id (by unfold mm_r32; omega)
    rw [if_pos q, w1, if_pos (by omega), s4 (d - 1) (by omega) (by omega), w2, w3, if_pos (by omega), s3 _ _ (by omega) (by omega) p0 pN, w4]
/-- the best so far, on both sides -/
def mm_bR (g f : mm_M) (N : Int) : Prop := (g 8 0 = 1000000 ∧ f 47 38 = -1) ∨ (0 ≤ g 8 0 ∧ g 8 0 < 1000000 ∧ f 47 38 = g 8 0 ∧ ∀ k : Int, 0 ≤ k → k < N → f 70 k = g 34 k)
theorem pfx_free {e : Int → Int} {N d u : Int} (N6 : N ≤ 6) (z : mm_pfx e N d u) (dN : d < N) (w : ∀ q : Int, 1 ≤ q → q ≤ N → tb u q = 1) : False := by
  obtain ⟨z1, z2, z3, z4, z5, z6⟩ := z
  have h : ∀ i : Int, ∃ j : Int, (0 ≤ i → i < N → 0 ≤ j ∧ j < d ∧ e j = i + 1) := fun i => by
    by_cases q : 0 ≤ i ∧ i < N
    · obtain ⟨j, j0, j1, ej⟩ := (z6 (i + 1) (by omega) (by omega)).1 (w (i + 1) (by omega) (by omega))
      exact ⟨j, fun _ _ => ⟨j0, j1, ej⟩⟩
    · exact ⟨0, fun a b => absurd ⟨a, b⟩ q⟩
  have P := mm_php d.toNat (fun i => Classical.choose (h i) + 1) N (fun i i0 i1 => by
    have := Classical.choose_spec (h i) i0 i1
    omega) (fun i j i0 ij j1 e1 => by
    have a := Classical.choose_spec (h i) i0 (by omega)
    have b := Classical.choose_spec (h j) (by omega) j1
    have e2 : Classical.choose (h i) = Classical.choose (h j) := by omega
    rw [e2] at a
    omega)
  omega
theorem L_best (D : Int → Int → Int) (hD : mm_D D) (N rule sh : Int) (N6 : N ≤ 6) (hr : rule = 0 ∨ rule = 1) : ∀ (m : Nat) (d u : Int) (e : Int → Int) (g f : mm_M), N - d ≤ m → mm_pfx e N d u → mm_cS g D e N d rule → mm_rS f D e N d → mm_bR g f N → ∃ g' f', mm_call mX6_goOn [vR 8, vI d, vI u, vI (mi D e d), vI (cst rule D e d)] g = some ([], g') ∧ mm_call mX10_goRoutes [vR 47, vI u, vI rule, vI sh] f = some ([], f') ∧ mm_cF g g' d ∧ mm_rF f f' d ∧ mm_bR g' f' N ∧ g' 8 0 < 1000000 := by
  intro m
  have head : ∀ (d u : Int) (e : Int → Int) (g : mm_M), mm_pfx e N d u → mm_cS g D e N d rule → mm_call mX6_goOn [vR 8, vI d, vI u, vI (mi D e d), vI (cst rule D e d)] g = if lbd rule D e N d < g 8 0 then if d < N then mm_ev mX6_goOn (10 + (8 - d : Int).toNat) 55 [some (vR 8), some (vI d), some (vI u), some (vI (mi D e d)), some (vI (cst rule D e d)), some (vI 1), none] [] g else some ([], mCpy (mUp g 8 0 (cst rule D e d)) 35 0 34 0 6) else some ([], g) := by
    intro d u e g z S
    have z1 := z.1
    have z2 := z.2.1
    have mb := mi_b hD N6 z
    have cb := cst_b (rule := rule) hD N6 z
    have w1 : w32 (N - d) = N - d := w32_id (by unfold mm_r32; omega)
    have nl : 0 ≤ (N - d) * mi D e d ∧ (N - d) * mi D e d ≤ 6 * 1392 := by
      refine ⟨Int.mul_nonneg (by omega) mb.1, ?_⟩
      have a := mul_le6 (k := N - d) (by omega) mb.2
      have b : (N - d) * 1392 ≤ 6 * 1392 := by omega
      omega
    have l : mm_call mX6_leastToCome [vR 8, vI (N - d), vI (mi D e d)] g = some ([vI (if rule = 0 then 0 else (N - d) * mi D e d)], g) := by
      rw [X6_leastToCome_c, S.2.1]
      by_cases q : rule = 0
      · rw [if_neg (fun w => w q), if_pos q]
      · rw [if_pos q, if_neg q, w32_id (by unfold mm_r32; omega)]
    have w2 : w32 (cst rule D e d + if rule = 0 then 0 else (N - d) * mi D e d) = lbd rule D e N d := by
      unfold lbd
      rw [w32_id (by unfold mm_r32; split <;> omega)]
    rw [X6_goOn_c, X6_goOn_0, if_pos (by omega), S.1, w1, l, mm_be1, X6_goOn_13, w2, S.1]
    by_cases q1 : lbd rule D e N d < g 8 0
    · rw [if_pos q1, if_pos q1]
      by_cases q2 : d < N
      · rw [if_pos q2, if_pos q2]
      · rw [if_neg q2, if_neg q2, if_pos (by decide)]
    · rw [if_neg q1, if_neg q1]
  have prune : ∀ (d u : Int) (e : Int → Int) (g f : mm_M), mm_pfx e N d u → mm_cS g D e N d rule → mm_rS f D e N d → mm_bR g f N → ¬ lbd rule D e N d < g 8 0 → ∃ g' f', mm_call mX6_goOn [vR 8, vI d, vI u, vI (mi D e d), vI (cst rule D e d)] g = some ([], g') ∧ mm_call mX10_goRoutes [vR 47, vI u, vI rule, vI sh] f = some ([], f') ∧ mm_cF g g' d ∧ mm_rF f f' d ∧ mm_bR g' f' N ∧ g' 8 0 < 1000000 := by
    intro d u e g f z S T hb hl
    have mb := mi_b hD N6 z
    have cb := cst_b (rule := rule) hD N6 z
    have z1 := z.1
    have z2 := z.2.1
    have hl8 : lbd rule D e N d < 1000000 := by
      unfold lbd
      have a := mul_le6 (k := N - d) (by omega) mb.2
      have b : (N - d) * 1392 ≤ 6 * 1392 := by omega
      split <;> omega
    rcases hb with ⟨b1, b2⟩ | ⟨b1, b2, b3, b4⟩
    · omega
    · obtain ⟨f', c1, c2, c3, c4⟩ := L_rno D hD N rule sh (g 8 0) N6 hr b1 7 d u e f (by omega) z T b3 (by omega)
      refine ⟨g, f', ?_, c1, mm_cF.rf, c2, Or.inr ⟨b1, b2, c3, fun k k0 k1 => by rw [c4]; exact b4 k k0 k1⟩, b2⟩
      rw [head d u e g z S, if_neg hl]
  have leaf : ∀ (d u : Int) (e : Int → Int) (g f : mm_M), N ≤ d → mm_pfx e N d u → mm_cS g D e N d rule → mm_rS f D e N d → mm_bR g f N → lbd rule D e N d < g 8 0 → ∃ g' f', mm_call mX6_goOn [vR 8, vI d, vI u, vI (mi D e d), vI (cst rule D e d)] g = some ([], g') ∧ mm_call mX10_goRoutes [vR 47, vI u, vI rule, vI sh] f = some ([], f') ∧ mm_cF g g' d ∧ mm_rF f f' d ∧ mm_bR g' f' N ∧ g' 8 0 < 1000000 := by
    intro d u e g f Nd z S T hb hl
    have dN : d = N := by have := z.2.1; omega
    subst dN
    have z1 := z.1
    have T1 := T.1
    have T6 := T.2.2.2.2.2
    have cb := cst_b (rule := rule) hD N6 z
    have lc : lbd rule D e d d = cst rule D e d := by
      unfold lbd
      rw [show d - d = 0 from by omega]
      split <;> omega
    obtain ⟨f1, a1, a2⟩ := s_leaf f D hD e d u rule sh N6 hr z T
    have w1 : w32 (f 47 1 - 1) = f 47 1 - 1 := w32_id (by unfold mm_r32; omega)
    obtain ⟨f2, k1, k2, k3⟩ := s_keep (mUp f1 47 38 (cst rule D e d)) (by rw [mUp_nei (by decide), a2 47 (by decide), T1]; omega)
    have e38 : f1 47 38 = f 47 38 := by rw [a2 47 (by decide)]
    have up : f1 47 38 < 0 ∨ cst rule D e d < f1 47 38 := by
      rw [e38]
      rw [lc] at hl
      rcases hb with ⟨b1, b2⟩ | ⟨b1, b2, b3, b4⟩ <;> omega
    have R : mm_call mX10_goRoutes [vR 47, vI u, vI rule, vI sh] f = some ([], f2) := by
      rw [X10_goRoutes_c, X10_goRoutes_0, w1, T1, if_neg (by omega), if_pos (by omega), a1, X10_metRoute_60]
      by_cases q : f1 47 38 < 0
      · rw [if_pos q, k1, mm_be0, X10_metRoute_86, mm_be0, X10_goRoutes_19]
      · rw [if_neg q, if_pos (by omega), k1, mm_be0, X10_metRoute_86, mm_be0, X10_goRoutes_19]
    refine ⟨mCpy (mUp g 8 0 (cst rule D e d)) 35 0 34 0 6, f2, ?_, R, ⟨fun c i q1 q2 q3 => ?_, fun j hj => ?_⟩, ⟨fun c i q1 q2 q3 q4 => ?_, ?_, fun j hj => ?_⟩, Or.inr ⟨?_, ?_, ?_, fun k k0 k1' => ?_⟩, ?_⟩
    · rw [head d u e g z S, if_pos hl, if_neg (by omega)]
    · unfold mCpy
      rw [if_neg (fun w => q1 w.1), mUp_at, if_neg (by omega)]
    · rfl
    · rw [k2 c q3, mUp_at, if_neg (by omega), a2 c q2]
    · rw [k2 47 (by decide), mUp_nei (by decide), a2 47 (by decide)]
    · rw [k2 68 (by decide), mUp_ne (by decide), a2 68 (by decide)]
    · exact cb.1
    · show cst rule D e d < 1000000
      omega
    · rw [k2 47 (by decide), mUp_self]
      rfl
    · have e35 : (mUp f1 47 38 (cst rule D e d)) 47 35 = d := by rw [mUp_nei (by decide), a2 47 (by decide)]; exact T1
      rw [k3 k k0 (by omega), mUp_ne (by decide), a2 68 (by decide), T.2.1 k k0 k1']
      show e k = (if 34 = 34 ∧ 0 ≤ k ∧ k < 0 + 6 then g 35 (0 + (k - 0)) else g 34 k)
      rw [if_pos (by omega), show 0 + (k - 0) = k from by omega]
      exact (S.2.2.2 k k0 k1').symm
    · show cst rule D e d < 1000000
      omega
  induction m with
  | zero =>
    intro d u e g f dm z S T hb
    by_cases hl : lbd rule D e N d < g 8 0
    · exact leaf d u e g f (by omega) z S T hb hl
    · exact prune d u e g f z S T hb hl
  | succ m ih =>
    intro d u e g f dm z S T hb
    by_cases hl : lbd rule D e N d < g 8 0
    · by_cases dN : N ≤ d
      · exact leaf d u e g f dN z S T hb hl
      · have z1 := z.1
        have T1 := T.1
        have T6 := T.2.2.2.2.2
        have w1 : w32 (f 47 1 - 1) = f 47 1 - 1 := w32_id (by unfold mm_r32; omega)
        have mb := mi_b hD N6 z
        have cb := cst_b (rule := rule) hD N6 z
        have L : ∀ (k : Nat) (p : Int) (o : Option mm_V) (y x : mm_M), 1 ≤ p → p ≤ N + 1 → N + 1 - p ≤ k → mm_cF g y d → mm_rF f x d → mm_bR y x N → ((∀ q : Int, 1 ≤ q → q < p → tb u q = 1) ∨ y 8 0 < 1000000) → ∃ g' f', mm_ev mX6_goOn (10 + (8 - d : Int).toNat) 55 [some (vR 8), some (vI d), some (vI u), some (vI (mi D e d)), some (vI (cst rule D e d)), some (vI p), o] [] y = some ([], g') ∧ mm_ev mX10_goRoutes (20 + (8 - d : Int).toNat) 23 [some (vR 47), some (vI u), some (vI rule), some (vI sh), some (vI p)] [] x = some ([], f') ∧ mm_cF g g' d ∧ mm_rF f f' d ∧ mm_bR g' f' N ∧ g' 8 0 < 1000000 := by
          intro k
          have fin : ∀ (p : Int) (o : Option mm_V) (y x : mm_M), N + 1 ≤ p → mm_cF g y d → mm_rF f x d → mm_bR y x N → ((∀ q : Int, 1 ≤ q → q < p → tb u q = 1) ∨ y 8 0 < 1000000) → ∃ g' f', mm_ev mX6_goOn (10 + (8 - d : Int).toNat) 55 [some (vR 8), some (vI d), some (vI u), some (vI (mi D e d)), some (vI (cst rule D e d)), some (vI p), o] [] y = some ([], g') ∧ mm_ev mX10_goRoutes (20 + (8 - d : Int).toNat) 23 [some (vR 47), some (vI u), some (vI rule), some (vI sh), some (vI p)] [] x = some ([], f') ∧ mm_cF g g' d ∧ mm_rF f f' d ∧ mm_bR g' f' N ∧ g' 8 0 < 1000000 := by
            intro p o y x pk hy hx hyx hw
            have Sy := S.fr hy
            have Tx := T.fr hx
            have Tx6 := Tx.2.2.2.2.2
            refine ⟨y, x, ?_, ?_, hy, hx, hyx, hw.elim (fun w => absurd (fun q q1 q2 => w q q1 (by omega)) (fun w => pfx_free N6 z (by omega) w)) id⟩
            · rw [X6_goOn_55, Sy.1, if_pos (by omega)]
            · rw [s_gr23 x _ u rule sh p d Tx.1 (by omega) rfl, if_pos (by omega)]
          induction k with
          | zero =>
            intro p o y x p1 pN pk hy hx hyx hw
            exact fin p o y x (by omega) hy hx hyx hw
          | succ k ihk =>
            intro p o y x p1 pN pk hy hx hyx hw
            by_cases q : N + 1 ≤ p
            · exact fin p o y x q hy hx hyx hw
            · have Sy := S.fr hy
              have Tx := T.fr hx
              have Tx6 := Tx.2.2.2.2.2
              have w4 : w32 (p + 1) = p + 1 := w32_id (by unfold mm_r32; omega)
              have tt := (tb_s (u := u) (p := p) (q := p) z.2.2.2.2.1 (by omega) (by omega)).2.2
              have E55 : mm_ev mX6_goOn (10 + (8 - d : Int).toNat) 55 [some (vR 8), some (vI d), some (vI u), some (vI (mi D e d)), some (vI (cst rule D e d)), some (vI p), o] [] y = if ¬ tb u p = 0 then mm_ev mX6_goOn (10 + (8 - d : Int).toNat) 55 [some (vR 8), some (vI d), some (vI u), some (vI (mi D e d)), some (vI (cst rule D e d)), some (vI (p + 1)), o] [] y else mm_ev mX6_goOn (10 + (8 - d : Int).toNat) 81 [some (vR 8), some (vI d), some (vI u), some (vI (mi D e d)), some (vI (cst rule D e d)), some (vI p), o] [vI (stp D e d p), vI (mi D e d)] y := by
                rw [X6_goOn_55, Sy.1, if_neg (by omega), X6_goOn_124, w4, if_pos (show 1 < 10 + (8 - d : Int).toNat by omega), c_step y D hD e N d u p rule N6 z Sy (by omega) (by omega), mm_be1]
                rfl
              rw [E55, s_gr23 x _ u rule sh p d Tx.1 (by omega) rfl, if_neg (show ¬ x 47 1 ≤ p by omega), w4]
              by_cases qb : tb u p = 1
              · rw [if_pos (show ¬ tb u p = 0 by omega), if_neg (fun w => w qb)]
                exact ihk (p + 1) o y x (by omega) (by omega) (by omega) hy hx hyx (hw.imp (fun w q q1 q2 => by
                  by_cases qp : q = p
                  · rw [qp]
                    exact qb
                  · exact w q q1 (by omega)) id)
              · have sb := stp_b hD N6 z (show 0 ≤ p by omega) (show p < 7 by omega)
                have w5 : w32 (mi D e d + stp D e d p) = mi D e d + stp D e d p := w32_id (by unfold mm_r32; omega)
                have w6 : w32 (cst rule D e d + (mi D e d + stp D e d p)) = cst rule D e d + (mi D e d + stp D e d p) := w32_id (by unfold mm_r32; omega)
                have w7 : w32 (d + 1) = d + 1 := w32_id (by unfold mm_r32; omega)
                have z' := pre_s N6 z (by omega) p1 (by omega) qb
                have m' := mi_eU (p := p) hD N6 z
                have c' := cst_eU (p := p) (rule := rule) hD N6 z
                have E81 : mm_ev mX6_goOn (10 + (8 - d : Int).toNat) 81 [some (vR 8), some (vI d), some (vI u), some (vI (mi D e d)), some (vI (cst rule D e d)), some (vI p), o] [vI (stp D e d p), vI (mi D e d)] y = (mm_call mX6_goOn [vR 8, vI (d + 1), vI (iOr u (iShl 1 p)), vI (mi D (eU e d p) (d + 1)), vI (cst rule D (eU e d p) (d + 1))] (mUp y 35 d p)).bind (fun w => mm_ev mX6_goOn (10 + (8 - d : Int).toNat) 124 [some (vR 8), some (vI d), some (vI u), some (vI (mi D e d)), some (vI (cst rule D e d)), some (vI p), some (vI (mi D e d + stp D e d p))] (w.1 ++ []) w.2) := by
                  have e5 : (mUp y 35 d p) 8 5 = rule := by rw [mUp_ne (by decide)]; exact Sy.2.1
                  have hrk : 10 + (8 - (d + 1) : Int).toNat < 10 + (8 - d : Int).toNat := by omega
                  rw [X6_goOn_81, if_pos (by omega), w5, w6, w7, e5, m', c']
                  by_cases qr : rule = 0
                  · rw [if_neg (fun w => w qr), if_pos hrk, if_pos qr]
                  · rw [if_pos qr, if_pos hrk, if_neg qr]
                have S' : mm_cS (mUp y 35 d p) D (eU e d p) N (d + 1) rule := by
                  obtain ⟨y1, y2, y3, y4⟩ := Sy
                  refine ⟨by rw [mUp_ne (by decide)]; exact y1, by rw [mUp_ne (by decide)]; exact y2, fun a b a0 a1 b0 b1 => by rw [mUp_ne (by decide)]; exact y3 a b a0 a1 b0 b1, fun j j0 j1 => ?_⟩
                  by_cases w : j = d
                  · rw [w, mUp_self, eU_d]
                  · rw [mUp_nei w, eU_n w]
                    exact y4 j j0 (by omega)
                have T' : mm_rS (mUp (mUp x 68 d p) 47 35 (d + 1)) D (eU e d p) N (d + 1) := by
                  obtain ⟨y1, y2, y3, y4, y5, y6⟩ := Tx
                  refine ⟨mUp_self _ _ _ _, fun j j0 j1 => ?_, ?_, fun i i0 i1 => ?_, fun a b a0 a7 b0 b7 => ?_, ?_⟩
                  · rw [mUp_ne (by decide)]
                    by_cases w : j = d
                    · rw [w, mUp_self, eU_d]
                    · rw [mUp_nei w, eU_n w]
                      exact y2 j j0 (by omega)
                  · rw [mUp_nei (by decide), mUp_ne (by decide)]
                    exact y3
                  · rw [mUp_ne (by decide), mUp_ne (by decide), mUp_ne (by decide), mUp_ne (by decide)]
                    exact y4 i i0 i1
                  · rw [← y5 a b a0 a7 b0 b7]
                    unfold rDi
                    rw [mUp_ne (by decide), mUp_ne (by decide), mUp_ne (by decide), mUp_ne (by decide)]
                  · rw [mUp_nei (by decide), mUp_ne (by decide)]
                    exact y6
                have hb' : mm_bR (mUp y 35 d p) (mUp (mUp x 68 d p) 47 35 (d + 1)) N := by
                  unfold mm_bR at hyx ⊢
                  rw [mUp_ne (show (8 : Nat) ≠ 35 by decide), mUp_ne (show (34 : Nat) ≠ 35 by decide), mUp_nei (show (38 : Int) ≠ 35 by decide), mUp_ne (show (70 : Nat) ≠ 47 by decide), mUp_ne (show (47 : Nat) ≠ 68 by decide), mUp_ne (show (70 : Nat) ≠ 68 by decide)]
                  exact hyx
                obtain ⟨y', x', c1, c2, c3, c4, c5, c6⟩ := ih (d + 1) _ (eU e d p) _ _ (by omega) z' S' T' hb'
                have y35 : x' 47 35 = d + 1 := by rw [c4.2.1]; exact mUp_self _ _ _ _
                have w8 : w32 (x' 47 35 - 1) = d := by
                  rw [y35, w32_id (by unfold mm_r32; omega)]
                  omega
                have hy2 : mm_cF g y' d := ⟨fun c i q1 q2 q3 => by rw [c3.1 c i q1 q2 q3, mUp_ne q2]; exact hy.1 c i q1 q2 q3, fun j hj => by rw [c3.2 j (by omega), mUp_nei (by omega)]; exact hy.2 j hj⟩
                have hx2 : mm_rF f (mUp x' 47 35 d) d := by
                  refine ⟨fun c i q1 q2 q3 q4 => ?_, ?_, fun j hj => ?_⟩
                  · rw [mUp_at, if_neg (by omega), c4.1 c i q1 q2 q3 q4, mUp_at, if_neg (by omega), mUp_ne q1]
                    exact hx.1 c i q1 q2 q3 q4
                  · rw [mUp_self]
                    exact T1.symm
                  · rw [mUp_ne (by decide), c4.2.2 j (by omega), mUp_ne (by decide), mUp_nei (by omega)]
                    exact hx.2.2 j hj
                have hb2 : mm_bR y' (mUp x' 47 35 d) N := by
                  unfold mm_bR at c5 ⊢
                  rw [mUp_nei (show (38 : Int) ≠ 35 by decide), mUp_ne (show (70 : Nat) ≠ 47 by decide)]
                  exact c5
                rw [if_neg (show ¬ ¬ tb u p = 0 by omega), if_pos qb, E81, c1, c2, mm_be0, mm_be0, X6_goOn_124, X10_goRoutes_78, w8, w4]
                exact ihk (p + 1) _ y' _ (by omega) (by omega) (by omega) hy2 hx2 hb2 (Or.inr c6)
        obtain ⟨g', f', c1, c2, c3⟩ := L 7 1 none g f (by omega) (by omega) (by omega) mm_cF.rf mm_rF.rf hb (Or.inl (fun q q1 q2 => by omega))
        refine ⟨g', f', ?_, ?_, c3⟩
        · rw [head d u e g z S, if_pos hl, if_pos (by omega)]
          exact c1
        · rw [X10_goRoutes_c, X10_goRoutes_0, w1, T1, if_pos (by omega)]
          exact c2
    · exact prune d u e g f z S T hb hl
