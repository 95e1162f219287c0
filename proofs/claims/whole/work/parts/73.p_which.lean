/-! which: the pair -/
theorem pfx_all {e : Int → Int} {N u p : Int} (z : mm_pfx e N N u) (p1 : 1 ≤ p) (pN : p ≤ N) : ∃ j : Int, 0 ≤ j ∧ j < N ∧ e j = p := by
  apply Classical.byContradiction
  intro w
  have ne : ∀ j : Int, 0 ≤ j → j < N → ¬ e j = p := fun j j0 j1 ej => w ⟨j, j0, j1, ej⟩
  have P := mm_php (N - 1).toNat (fun j => if p < e j then e j - 1 else e j) N (fun i i0 i1 => by
    have a := z.2.2.1 i i0 i1
    have b := ne i i0 i1
    show 0 < (if p < e i then e i - 1 else e i) ∧ (if p < e i then e i - 1 else e i) ≤ _
    split <;> omega) (fun i j i0 ij j1 e1 => by
    have a := z.2.2.2.1 i j i0 ij j1
    have b := ne i i0 (by omega)
    have c := ne j (by omega) j1
    have e1 : (if p < e i then e i - 1 else e i) = (if p < e j then e j - 1 else e j) := e1
    by_cases q1 : p < e i
    · rw [if_pos q1] at e1
      by_cases q2 : p < e j
      · rw [if_pos q2] at e1
        omega
      · rw [if_neg q2] at e1
        omega
    · rw [if_neg q1] at e1
      by_cases q2 : p < e j
      · rw [if_pos q2] at e1
        omega
      · rw [if_neg q2] at e1
        omega)
  omega
theorem mm_rF.Sm {f f' : mm_M} {d : Int} (h : mm_rF f f' d) : mm_Sm f f' := fun c i w => by
  by_cases q : c = 47 ∧ i = 35
  · exact absurd (by unfold mm_sc; omega) w
  · exact h.1 c i (fun q => w (by unfold mm_sc; omega)) (fun q => w (by unfold mm_sc; omega)) (fun q => w (by unfold mm_sc; omega)) (fun q => w (by unfold mm_sc; omega))
/-- a whole way by which all that was said is so -/
def mm_Gd (h : mm_M) (s : Int) (D : Int → Int → Int) (e : Int → Int) (N : Int) : Prop := ∀ k : Int, 0 ≤ k → 3 * k < h 20 s → 3 * k + 2 < h 20 s ∧ mm_va h s k ∧ rLet (mm_tH (pB D e N (sE h s (3 * k))) (h 11 55)) (h 11 53) (h 11 54) (h 11 56) (sE h s (3 * k + 1)) (sE h s (3 * k + 2))
theorem s_leaf2 (h f : mm_M) (hI : mm_Inv h) (s : Int) (shh : mm_sh h s) (hf : mm_Sm h f) (D : Int → Int → Int) (hD : mm_D D) (e : Int → Int) (N u : Int) (N6 : N ≤ 6) (z : mm_pfx e N N u) (hS : mm_rS f D e N N) : ∃ f1 b, mm_call mX10_metRoute [vR 47, vI 2, vI s] f = mm_ev mX10_metRoute 5 14 [some (vR 47), some (vI 2), some (vI s), none] [vI b] f1 ∧ (∀ c, c ≠ 69 → f1 c = f c) ∧ (b < 0 ↔ mm_Gd h s D e N) := by
  obtain ⟨z1, z2, z3, z4, z5, z6⟩ := hS
  have N0 := z.1
  have fI := mm_Inv_Sm hf hI
  have f11 : ∀ i, f 11 i = h 11 i := fun i => hf 11 i (by unfold mm_sc; omega)
  have nk := mm_nok.of hI.1
  obtain ⟨f1, a1, a2, a3⟩ := s_goB f (by omega) (fun j j0 j1 => by rw [z2 j j0 (by omega)]; have := z.2.2.1 j j0 (by omega); omega) (fun i j i0 ij j1 => by rw [z2 i i0 (by omega), z2 j (by omega) (by omega)]; exact z.2.2.2.1 i j i0 ij (by omega)) z3 z4
  have bB : ∀ p : Int, mm_bok (pB D e N p) := fun p => pB_ok N6 hD (fun i i0 i1 => by have := z.2.2.1 i i0 i1; omega)
  have n10 : f 47 12 = h 11 55 := by rw [(N10 fI.1).1, f11]
  have t69 : ∀ p : Int, 0 ≤ p → p < 7 → f1 69 p = mm_tH (pB D e N p) (h 11 55) := fun p p0 p7 => by
    rw [a3 p p0 p7, n10, z1]
    refine congrArg (fun w => mm_tH w (h 11 55)) (pB_co z5 (fun i i0 i1 => ?_))
    have := z.2.2.1 i i0 i1
    exact ⟨z2 i i0 i1, by omega, by omega⟩
  have f1S : mm_Sm h f1 := fun c i w => by
    rw [a2 c (fun q => w (by unfold mm_sc; omega))]
    exact hf c i w
  have f1I := mm_Inv_Sm f1S hI
  have f111 : ∀ i, f1 11 i = h 11 i := fun i => f1S 11 i (by unfold mm_sc; omega)
  have n11 := N11 f1I.1
  have n11h := N11 hI.1
  have tt := (hI.2.2.2.2.2.1 s shh.1.1 shh.1.2).2.2.2.2.2.2.2 (by rw [shh.2.1]; decide)
  obtain ⟨b, k1, k2⟩ := s_wrong h f1 s shh hI.2.2.2.2.2.1 (fun i => f1S 81 i (by unfold mm_sc; omega)) (by rw [f1S 80 s (by unfold mm_sc; omega)]; exact tt.1) (by rw [f1S 47 1 (by unfold mm_sc; omega)]; exact hI.1.2.2.1) ⟨hI.1.1, hI.1.2.1⟩ ⟨fun p p0 p7 => by rw [t69 p p0 p7]; have := tm_b (bB p) nk.1; exact ⟨this.1, this.2.1⟩, by rw [n11.1, f111]; omega, by rw [n11.1, f111]; omega⟩
  refine ⟨f1, b, ?_, a2, ?_⟩
  · rw [X10_metRoute_c, a1, mm_be0, X10_metRoute_4, if_neg (by decide), k1, mm_be1]
  · rw [mm_wr_a k2]
    have g7 := hI.1.2.1
    unfold mm_Gd
    constructor
    · intro w k k0 k1
      obtain ⟨w1, w2, w3⟩ := w k k0 k1
      have := w2.1
      rw [t69 _ (by omega) (by omega), (N8 f1I.1).1, (N9 f1I.1).1, n11.1, f111, f111, f111] at w3
      exact ⟨w1, w2, w3⟩
    · intro w k k0 k1
      obtain ⟨w1, w2, w3⟩ := w k k0 k1
      have := w2.1
      refine ⟨w1, w2, ?_⟩
      rw [t69 _ (by omega) (by omega), (N8 f1I.1).1, (N9 f1I.1).1, n11.1, f111, f111, f111]
      exact w3
theorem rS_step {x : mm_M} {D : Int → Int → Int} {e : Int → Int} {N d p : Int} (S : mm_rS x D e N d) : mm_rS (mUp (mUp x 68 d p) 47 35 (d + 1)) D (eU e d p) N (d + 1) := by
  obtain ⟨y1, y2, y3, y4, y5, y6⟩ := S
  refine ⟨mUp_self _ _ _ _, fun j j0 j1 => ?_, ?_, fun i i0 i1 => ?_, fun a b a0 a7 b0 b7 => ?_, ?_⟩
  · rw [mUp_ne (by decide)]
    by_cases w : j = d
    · rw [w, mUp_self, eU_d]
    · rw [mUp_nei w, eU_n w]
      exact y2 j j0 (by omega)
  · rw [mUp_nei (by decide), mUp_ne (by decide)]
    exact y3
  · rw [mUp_ne (by decide), mUp_ne (by decide), mUp_ne (by decide), mUp_ne (by decide)]
    exact y4 i i0 i1
  · rw [← y5 a b a0 a7 b0 b7]
    unfold rDi
    rw [mUp_ne (by decide), mUp_ne (by decide), mUp_ne (by decide), mUp_ne (by decide)]
  · rw [mUp_nei (by decide), mUp_ne (by decide)]
    exact y6
theorem rF_step {f x y : mm_M} {d p : Int} (hx : mm_rF f x d) (S1 : f 47 35 = d) (hy : mm_rF (mUp (mUp x 68 d p) 47 35 (d + 1)) y (d + 1)) : mm_rF f (mUp y 47 35 d) d := by
  refine ⟨fun c i q1 q2 q3 q4 => ?_, ?_, fun j hj => ?_⟩
  · rw [mUp_at, if_neg (by omega), hy.1 c i q1 q2 q3 q4, mUp_at, if_neg (by omega), mUp_ne q1]
    exact hx.1 c i q1 q2 q3 q4
  · rw [mUp_self]
    exact S1.symm
  · rw [mUp_ne (by decide), hy.2.2 j (by omega), mUp_ne (by decide), mUp_nei (by omega)]
    exact hx.2.2 j hj
theorem Sm_step {h x : mm_M} {d p : Int} (hx : mm_Sm h x) : mm_Sm h (mUp (mUp x 68 d p) 47 35 (d + 1)) := (hx.up (by unfold mm_sc; omega)).up (by unfold mm_sc; omega)
/-- from a way on by which nothing can be so -/
theorem L_wno (h : mm_M) (hI : mm_Inv h) (s : Int) (shh : mm_sh h s) (D : Int → Int → Int) (hD : mm_D D) (N : Int) (N6 : N ≤ 6) : ∀ (m : Nat) (d u : Int) (e : Int → Int) (f : mm_M), N - d ≤ m → mm_pfx e N d u → mm_rS f D e N d → mm_Sm h f → (∀ (e' : Int → Int) (u' : Int), mm_pfx e' N N u' → (∀ j : Int, 0 ≤ j → j < d → e' j = e j) → ¬ mm_Gd h s D e' N) → ∃ f', mm_call mX10_goRoutes [vR 47, vI u, vI 2, vI s] f = some ([], f') ∧ mm_rF f f' d ∧ f' 47 39 = f 47 39 ∧ ∀ k, f' 70 k = f 70 k := by
  intro m
  have leaf : ∀ (d u : Int) (e : Int → Int) (f : mm_M), N ≤ d → mm_pfx e N d u → mm_rS f D e N d → mm_Sm h f → (∀ (e' : Int → Int) (u' : Int), mm_pfx e' N N u' → (∀ j : Int, 0 ≤ j → j < d → e' j = e j) → ¬ mm_Gd h s D e' N) → ∃ f', mm_call mX10_goRoutes [vR 47, vI u, vI 2, vI s] f = some ([], f') ∧ mm_rF f f' d ∧ f' 47 39 = f 47 39 ∧ ∀ k, f' 70 k = f 70 k := by
    intro d u e f Nd z S hf no
    have dN : d = N := by have := z.2.1; omega
    subst dN
    have z1 := z.1
    have S1 := S.1
    have S6 := S.2.2.2.2.2
    obtain ⟨f1, b, a1, a2, a3⟩ := s_leaf2 h f hI s shh hf D hD e d u N6 z S
    have nb : ¬ b < 0 := fun w => no e u z (fun _ _ _ => rfl) (a3.1 w)
    refine ⟨f1, ?_, ⟨fun c i q1 q2 q3 q4 => by rw [a2 c q2], by rw [a2 47 (by decide)], fun j hj => by rw [a2 68 (by decide)]⟩, by rw [a2 47 (by decide)], fun k => by rw [a2 70 (by decide)]⟩
    have w1 : w32 (f 47 1 - 1) = f 47 1 - 1 := w32_id (by unfold mm_r32; omega)
    rw [X10_goRoutes_c, X10_goRoutes_0, w1, S1, if_neg (by omega), if_pos (by omega), a1, X10_metRoute_14, if_neg nb, mm_be0, X10_goRoutes_19]
  induction m with
  | zero =>
    intro d u e f dm z S hf no
    exact leaf d u e f (by omega) z S hf no
  | succ m ih =>
    intro d u e f dm z S hf no
    by_cases dN : N ≤ d
    · exact leaf d u e f dN z S hf no
    · have z1 := z.1
      have S1 := S.1
      have S6 := S.2.2.2.2.2
      have w1 : w32 (f 47 1 - 1) = f 47 1 - 1 := w32_id (by unfold mm_r32; omega)
      have L : ∀ (k : Nat) (p : Int) (x : mm_M), 1 ≤ p → p ≤ N + 1 → N + 1 - p ≤ k → mm_rF f x d → x 47 39 = f 47 39 → (∀ k, x 70 k = f 70 k) → ∃ f', mm_ev mX10_goRoutes (20 + (8 - d : Int).toNat) 23 [some (vR 47), some (vI u), some (vI 2), some (vI s), some (vI p)] [] x = some ([], f') ∧ mm_rF f f' d ∧ f' 47 39 = f 47 39 ∧ ∀ k, f' 70 k = f 70 k := by
        intro k
        induction k with
        | zero =>
          intro p x p1 pN pk hx xB x70
          have Sx := S.fr hx
          refine ⟨x, ?_, hx, xB, x70⟩
          rw [s_gr23 x _ u 2 s p d Sx.1 (by omega) rfl, if_pos (by have := Sx.2.2.2.2.2; omega)]
        | succ k ihk =>
          intro p x p1 pN pk hx xB x70
          have Sx := S.fr hx
          have Sx6 := Sx.2.2.2.2.2
          by_cases q : N + 1 ≤ p
          · refine ⟨x, ?_, hx, xB, x70⟩
            rw [s_gr23 x _ u 2 s p d Sx.1 (by omega) rfl, if_pos (by omega)]
          · have w4 : w32 (p + 1) = p + 1 := w32_id (by unfold mm_r32; omega)
            rw [s_gr23 x _ u 2 s p d Sx.1 (by omega) rfl, if_neg (show ¬ x 47 1 ≤ p by omega), w4]
            by_cases qb : tb u p = 1
            · rw [if_neg (fun w => w qb)]
              exact ihk (p + 1) x (by omega) (by omega) (by omega) hx xB x70
            · rw [if_pos qb]
              have z' := pre_s N6 z (by omega) p1 (by omega) qb
              obtain ⟨y, b1, b2, b3, b4⟩ := ih (d + 1) _ (eU e d p) _ (by omega) z' (rS_step Sx) (Sm_step (hf.tr hx.Sm)) (fun e' u' ze he => no e' u' ze (fun j j0 j1 => by rw [he j j0 (by omega), eU_n (by omega)]))
              have y35 : y 47 35 = d + 1 := by rw [b2.2.1]; exact mUp_self _ _ _ _
              have w5 : w32 (y 47 35 - 1) = d := by
                rw [y35, w32_id (by unfold mm_r32; omega)]
                omega
              rw [b1, mm_be0, X10_goRoutes_78, w5, w4]
              exact ihk (p + 1) _ (by omega) (by omega) (by omega) (rF_step hx S1 b2) (by rw [mUp_nei (by decide), b3, mUp_nei (by decide), mUp_ne (by decide)]; exact xB) (fun k => by rw [mUp_ne (by decide), b4, mUp_ne (by decide), mUp_ne (by decide)]; exact x70 k)
      obtain ⟨f', c1, c2⟩ := L 7 1 f (by omega) (by omega) (by omega) mm_rF.rf rfl (fun _ => rfl)
      refine ⟨f', ?_, c2⟩
      rw [X10_goRoutes_c, X10_goRoutes_0, w1, S1, if_pos (by omega)]
      exact c1
/-- a way's posts as digits -/
def dgw (e : Int → Int) : Nat → Int
  | 0 => 0
  | j + 1 => w32 (w32 (dgw e j * 10) + e (j : Int))
theorem dgw_co {e e' : Int → Int} : ∀ j : Nat, (∀ i : Int, 0 ≤ i → i < j → e i = e' i) → dgw e j = dgw e' j := by
  intro j
  induction j with
  | zero => intro _; rfl
  | succ j ih =>
    intro h
    show w32 (w32 (dgw e j * 10) + e (j : Int)) = w32 (w32 (dgw e' j * 10) + e' (j : Int))
    rw [ih (fun i i0 i1 => h i i0 (by omega)), h j (by omega) (by omega)]
theorem dgw_s {e : Int → Int} {k : Int} (k0 : 0 ≤ k) : dgw e (k + 1).toNat = w32 (w32 (dgw e k.toNat * 10) + e k) := by
  rw [show (k + 1).toNat = k.toNat + 1 from by omega]
  show w32 (w32 (dgw e k.toNat * 10) + e (k.toNat : Int)) = _
  rw [show (k.toNat : Int) = k from by omega]
def mm_wR (g f : mm_M) (N : Int) : Prop := f 47 39 = g 8 2 ∧ 0 ≤ g 8 2 ∧ ((g 8 2 = 0 ∧ g 8 3 = -2) ∨ (0 < g 8 2 ∧ g 8 3 = dgw (f 70) N.toNat))
/-- the class's bounds say by which whole ways all is so -/
def mm_fit (h y : mm_M) (s : Int) (D : Int → Int → Int) (N : Int) : Prop := ∀ (e : Int → Int) (u : Int), mm_pfx e N N u → (mm_Gd h s D e N ↔ (y 32 0 ≤ h 11 55 ∧ h 11 55 ≤ y 33 0) ∧ ∀ j : Int, 0 ≤ j → j < N → y 32 (e j) ≤ h 11 55 + ar D e j ∧ h 11 55 + ar D e j ≤ y 33 (e j))
theorem L_try (h : mm_M) (hI : mm_Inv h) (s : Int) (shh : mm_sh h s) (D : Int → Int → Int) (hD : mm_D D) (N rule : Int) (N6 : N ≤ 6) (y : mm_M) (hy : mm_fit h y s D N) (y0 : y 32 0 ≤ h 11 55 ∧ h 11 55 ≤ y 33 0) : ∀ (m : Nat) (d u W : Int) (e : Int → Int) (g f : mm_M), N - d ≤ m → mm_pfx e N d u → mm_cS g D e N d rule → (∀ p, g 32 p = y 32 p ∧ g 33 p = y 33 p) → mm_rS f D e N d → mm_Sm h f → mm_wR g f N → g 8 2 ≤ W → W + 7 ^ m < 2147483647 → (∀ j : Int, 0 ≤ j → j < d → y 32 (e j) ≤ h 11 55 + ar D e j ∧ h 11 55 + ar D e j ≤ y 33 (e j)) → ∃ g' f', mm_call mX6_tryOn [vR 8, vR 7, vI d, vI u, vI (h 11 55 + mi D e d), vI (dgw e d.toNat)] g = some ([], g') ∧ mm_call mX10_goRoutes [vR 47, vI u, vI 2, vI s] f = some ([], f') ∧ mm_cF g g' d ∧ mm_rF f f' d ∧ mm_wR g' f' N ∧ g' 8 2 ≤ W + 7 ^ m := by
  intro m
  have leaf : ∀ (d u W : Int) (e : Int → Int) (g f : mm_M), N ≤ d → mm_pfx e N d u → mm_cS g D e N d rule → mm_rS f D e N d → mm_Sm h f → mm_wR g f N → g 8 2 ≤ W → W + 1 < 2147483647 → (∀ j : Int, 0 ≤ j → j < d → y 32 (e j) ≤ h 11 55 + ar D e j ∧ h 11 55 + ar D e j ≤ y 33 (e j)) → ∃ g' f', mm_call mX6_tryOn [vR 8, vR 7, vI d, vI u, vI (h 11 55 + mi D e d), vI (dgw e d.toNat)] g = some ([], g') ∧ mm_call mX10_goRoutes [vR 47, vI u, vI 2, vI s] f = some ([], f') ∧ mm_cF g g' d ∧ mm_rF f f' d ∧ mm_wR g' f' N ∧ g' 8 2 ≤ W + 1 := by
    intro d u W e g f Nd z S T hf hw W0 W1 ft
    have dN : d = N := by have := z.2.1; omega
    subst dN
    have z1 := z.1
    have T1 := T.1
    have T6 := T.2.2.2.2.2
    obtain ⟨f1, b, a1, a2, a3⟩ := s_leaf2 h f hI s shh hf D hD e d u N6 z T
    have nb : b < 0 := a3.2 ((hy e u z).2 ⟨y0, ft⟩)
    have w1 : w32 (f 47 1 - 1) = f 47 1 - 1 := w32_id (by unfold mm_r32; omega)
    have f39 : f1 47 39 = f 47 39 := by rw [a2 47 (by decide)]
    obtain ⟨v1, v2, v3⟩ := hw
    have w2 : w32 (g 8 2 + 1) = g 8 2 + 1 := w32_id (by unfold mm_r32; omega)
    obtain ⟨f2, k1, k2, k3⟩ := s_keep f1 (by rw [a2 47 (by decide), T1]; omega)
    have f35 : f1 47 35 = d := by rw [a2 47 (by decide)]; exact T1
    by_cases q : g 8 2 = 0
    · have R : mm_call mX10_goRoutes [vR 47, vI u, vI 2, vI s] f = some ([], mUp f2 47 39 1) := by
        rw [X10_goRoutes_c, X10_goRoutes_0, w1, T1, if_neg (by omega), if_pos (by omega), a1, X10_metRoute_14, if_pos nb, f39, v1, if_neg (fun w => w q), k1, mm_be0, X10_metRoute_29, k2 47 (by decide), f39, v1, w2, q, mm_be0, X10_goRoutes_19]
        rfl
      refine ⟨mUp (mUp g 8 3 (dgw e d.toNat)) 8 2 (g 8 2 + 1), mUp f2 47 39 1, ?_, R, ⟨fun c i q1 q2 q3 => by rw [mUp_at, if_neg (by omega), mUp_at, if_neg (by omega)], fun j hj => by rw [mUp_ne (by decide), mUp_ne (by decide)]⟩, ⟨fun c i q1 q2 q3 q4 => by rw [mUp_at, if_neg (by omega), k2 c q3, a2 c q2], by rw [mUp_nei (by decide), k2 47 (by decide), a2 47 (by decide)], fun j hj => by rw [mUp_ne (by decide), k2 68 (by decide), a2 68 (by decide)]⟩, ⟨?_, ?_, Or.inr ⟨?_, ?_⟩⟩, ?_⟩
      · rw [X6_tryOn_c, X6_tryOn_0, S.1, if_neg (by omega), if_neg (fun w => w q), X6_tryOn_25, mUp_nei (by decide), w2]
      · rw [mUp_self, mUp_self, q]
        rfl
      · rw [mUp_self]
        omega
      · rw [mUp_self]
        omega
      · rw [mUp_nei (by decide), mUp_self, mUp_ne (by decide)]
        refine dgw_co _ (fun i i0 i1 => ?_)
        rw [k3 i i0 (by omega), a2 68 (by decide), T.2.1 i i0 (by omega)]
      · rw [mUp_self]
        omega
    · have R : mm_call mX10_goRoutes [vR 47, vI u, vI 2, vI s] f = some ([], mUp f1 47 39 (g 8 2 + 1)) := by
        rw [X10_goRoutes_c, X10_goRoutes_0, w1, T1, if_neg (by omega), if_pos (by omega), a1, X10_metRoute_14, if_pos nb, f39, v1, if_pos q, X10_metRoute_29, f39, v1, w2, mm_be0, X10_goRoutes_19]
      refine ⟨mUp (mUp g 8 3 (g 8 3)) 8 2 (g 8 2 + 1), mUp f1 47 39 (g 8 2 + 1), ?_, R, ⟨fun c i q1 q2 q3 => by rw [mUp_at, if_neg (by omega), mUp_at, if_neg (by omega)], fun j hj => by rw [mUp_ne (by decide), mUp_ne (by decide)]⟩, ⟨fun c i q1 q2 q3 q4 => by rw [mUp_at, if_neg (by omega), a2 c q2], by rw [mUp_nei (by decide), a2 47 (by decide)], fun j hj => by rw [mUp_ne (by decide), a2 68 (by decide)]⟩, ⟨?_, ?_, Or.inr ⟨?_, ?_⟩⟩, ?_⟩
      · rw [X6_tryOn_c, X6_tryOn_0, S.1, if_neg (by omega), if_pos q, X6_tryOn_25, mUp_nei (by decide), w2]
      · rw [mUp_self, mUp_self]
      · rw [mUp_self]
        omega
      · rw [mUp_self]
        omega
      · rw [mUp_nei (by decide), mUp_self, mUp_ne (by decide), a2 70 (by decide)]
        rcases v3 with w | w
        · exact absurd w.1 q
        · exact w.2
      · rw [mUp_self]
        omega
  induction m with
  | zero =>
    intro d u W e g f dm z S y32 T hf hw W0 W1 ft
    obtain ⟨g', f', c⟩ := leaf d u W e g f (by omega) z S T hf hw W0 (by simpa using W1) ft
    exact ⟨g', f', by simpa using c⟩
  | succ m ih =>
    intro d u W e g f dm z S y32 T hf hw W0 W1 ft
    have P0 : (1 : Int) ≤ 7 ^ m := by
      have := Int.pow_pos (n := 7) (m := m) (by decide)
      omega
    have P1 : (7 : Int) ^ (m + 1) = 7 ^ m * 7 := Int.pow_succ 7 m
    by_cases dN : N ≤ d
    · obtain ⟨g', f', c1, c2, c3, c4, c5, c6⟩ := leaf d u W e g f dN z S T hf hw W0 (by omega) ft
      exact ⟨g', f', c1, c2, c3, c4, c5, by omega⟩
    · generalize hP : (7 : Int) ^ m = P at ih P0 P1
      have z1 := z.1
      have T1 := T.1
      have T6 := T.2.2.2.2.2
      have w1 : w32 (f 47 1 - 1) = f 47 1 - 1 := w32_id (by unfold mm_r32; omega)
      have mb := mi_b hD N6 z
      have n1 := (mm_nok.of hI.1).1
      have L : ∀ (k : Nat) (p : Int) (o : Option mm_V) (v x : mm_M), 1 ≤ p → p ≤ N + 1 → N + 1 - p ≤ k → mm_cF g v d → mm_rF f x d → mm_wR v x N → v 8 2 ≤ W + (p - 1) * P → ∃ g' f', mm_ev mX6_tryOn (10 + (8 - d : Int).toNat) 42 [some (vR 8), some (vR 7), some (vI d), some (vI u), some (vI (h 11 55 + mi D e d)), some (vI (dgw e d.toNat)), some (vI p), o] [] v = some ([], g') ∧ mm_ev mX10_goRoutes (20 + (8 - d : Int).toNat) 23 [some (vR 47), some (vI u), some (vI 2), some (vI s), some (vI p)] [] x = some ([], f') ∧ mm_cF g g' d ∧ mm_rF f f' d ∧ mm_wR g' f' N ∧ g' 8 2 ≤ W + 7 * P := by
        intro k
        have fin : ∀ (p : Int) (o : Option mm_V) (v x : mm_M), 1 ≤ p → N + 1 ≤ p → p ≤ N + 1 → mm_cF g v d → mm_rF f x d → mm_wR v x N → v 8 2 ≤ W + (p - 1) * P → ∃ g' f', mm_ev mX6_tryOn (10 + (8 - d : Int).toNat) 42 [some (vR 8), some (vR 7), some (vI d), some (vI u), some (vI (h 11 55 + mi D e d)), some (vI (dgw e d.toNat)), some (vI p), o] [] v = some ([], g') ∧ mm_ev mX10_goRoutes (20 + (8 - d : Int).toNat) 23 [some (vR 47), some (vI u), some (vI 2), some (vI s), some (vI p)] [] x = some ([], f') ∧ mm_cF g g' d ∧ mm_rF f f' d ∧ mm_wR g' f' N ∧ g' 8 2 ≤ W + 7 * P := by
          intro p o v x p1 pk pN hv hx hvx hW
          have Sv := S.fr hv
          have Tx := T.fr hx
          have Tx6 := Tx.2.2.2.2.2
          refine ⟨v, x, ?_, ?_, hv, hx, hvx, ?_⟩
          · rw [X6_tryOn_42, Sv.1, if_pos (by omega)]
          · rw [s_gr23 x _ u 2 s p d Tx.1 (by omega) rfl, if_pos (by omega)]
          · have t : (p - 1) * P ≤ 7 * P := Int.mul_le_mul_of_nonneg_right (by omega) (by omega)
            omega
        induction k with
        | zero =>
          intro p o v x p1 pN pk hv hx hvx hW
          exact fin p o v x p1 (by omega) pN hv hx hvx hW
        | succ k ihk =>
          intro p o v x p1 pN pk hv hx hvx hW
          by_cases q : N + 1 ≤ p
          · exact fin p o v x p1 q pN hv hx hvx hW
          · have Sv := S.fr hv
            have Tx := T.fr hx
            have Tx6 := Tx.2.2.2.2.2
            have w4 : w32 (p + 1) = p + 1 := w32_id (by unfold mm_r32; omega)
            have tt := (tb_s (u := u) (p := p) (q := p) z.2.2.2.2.1 (by omega) (by omega)).2.2
            have sb := stp_b hD N6 z (show 0 ≤ p by omega) (show p < 7 by omega)
            have w5 : w32 (h 11 55 + mi D e d + stp D e d p) = h 11 55 + (mi D e d + stp D e d p) := by
              rw [w32_id (by unfold mm_r32; omega)]
              omega
            have pP : (p + 1 - 1) * P = (p - 1) * P + P := by
              rw [show p + 1 - 1 = (p - 1) + 1 from by omega, Int.add_mul, Int.one_mul]
            have v32 : v 32 p = y 32 p := by rw [hv.1 32 p (by decide) (by decide) (by omega)]; exact (y32 p).1
            have v33 : v 33 p = y 33 p := by rw [hv.1 33 p (by decide) (by decide) (by omega)]; exact (y32 p).2
            rw [X6_tryOn_42, Sv.1, if_neg (show ¬ N < p by omega), if_pos (show 1 < 10 + (8 - d : Int).toNat by omega), c_step v D hD e N d u p rule N6 z Sv (by omega) (by omega), mm_be1, X6_tryOn_60, w5, s_gr23 x _ u 2 s p d Tx.1 (by omega) rfl, if_neg (show ¬ x 47 1 ≤ p by omega), w4]
            by_cases qb : tb u p = 1
            · have e1 : ¬ iAnd (iShr u p) 1 = 0 := by
                show ¬ tb u p = 0
                omega
              rw [if_pos e1, if_neg (fun w => w qb), X6_tryOn_115, w4]
              exact ihk (p + 1) _ v x (by omega) (by omega) (by omega) hv hx hvx (by omega)
            · have e1 : ¬ ¬ iAnd (iShr u p) 1 = 0 := by
                show ¬ ¬ tb u p = 0
                omega
              have z' := pre_s N6 z (by omega) p1 (by omega) qb
              have m' := mi_eU (p := p) hD N6 z
              have ad : ar D (eU e d p) d = mi D e d + stp D e d p := by
                rw [← m']
                unfold mi
                rw [if_neg (by omega), show d + 1 - 1 = d from by omega]
              rw [if_neg e1, if_pos (show 1 < 10 + (8 - d : Int).toNat by omega), if_pos qb, c_fits v p _ (by omega), mm_be1, X6_tryOn_80, v32, v33]
              by_cases qf : y 32 p ≤ h 11 55 + (mi D e d + stp D e d p) ∧ h 11 55 + (mi D e d + stp D e d p) ≤ y 33 p
              · have w7 : w32 (d + 1) = d + 1 := w32_id (by unfold mm_r32; omega)
                have hrk : 10 + (8 - (d + 1) : Int).toNat < 10 + (8 - d : Int).toNat := by omega
                have dg : w32 (w32 (dgw e d.toNat * 10) + p) = dgw (eU e d p) (d + 1).toNat := by
                  rw [dgw_s z1, eU_d, dgw_co (e := eU e d p) (e' := e) d.toNat (fun i i0 i1 => eU_n (by omega))]
                have S' : mm_cS (mUp v 35 d p) D (eU e d p) N (d + 1) rule := by
                  obtain ⟨y1, y2, y3, y4⟩ := Sv
                  refine ⟨by rw [mUp_ne (by decide)]; exact y1, by rw [mUp_ne (by decide)]; exact y2, fun a b a0 a1 b0 b1 => by rw [mUp_ne (by decide)]; exact y3 a b a0 a1 b0 b1, fun j j0 j1 => ?_⟩
                  by_cases w : j = d
                  · rw [w, mUp_self, eU_d]
                  · rw [mUp_nei w, eU_n w]
                    exact y4 j j0 (by omega)
                have hw' : mm_wR (mUp v 35 d p) (mUp (mUp x 68 d p) 47 35 (d + 1)) N := by
                  unfold mm_wR at hvx ⊢
                  rw [mUp_ne (show (8 : Nat) ≠ 35 by decide), mUp_nei (show (39 : Int) ≠ 35 by decide), mUp_ne (show (70 : Nat) ≠ 47 by decide), mUp_ne (show (47 : Nat) ≠ 68 by decide), mUp_ne (show (70 : Nat) ≠ 68 by decide)]
                  exact hvx
                have t : (p - 1) * P ≤ 6 * P := Int.mul_le_mul_of_nonneg_right (by omega) (by omega)
                obtain ⟨g2, x2, c1, c2, c3, c4, c5, c6⟩ := ih (d + 1) _ (W + (p - 1) * P) (eU e d p) (mUp v 35 d p) (mUp (mUp x 68 d p) 47 35 (d + 1)) (by omega) z' S' (fun r => by
                  rw [mUp_ne (by decide), mUp_ne (by decide), hv.1 32 r (by decide) (by decide) (by omega), hv.1 33 r (by decide) (by decide) (by omega)]
                  exact y32 r) (rS_step Tx) (Sm_step (hf.tr hx.Sm)) hw' (by rw [mUp_ne (by decide)]; exact hW) (by omega) (fun j j0 j1 => by
                  by_cases w : j = d
                  · rw [w, eU_d, ad]
                    exact qf
                  · rw [eU_n w, ar_eU hD N6 z j0 (by omega)]
                    exact ft j j0 (by omega))
                have y35 : x2 47 35 = d + 1 := by rw [c4.2.1]; exact mUp_self _ _ _ _
                have w8 : w32 (x2 47 35 - 1) = d := by
                  rw [y35, w32_id (by unfold mm_r32; omega)]
                  omega
                have hy2 : mm_cF g g2 d := ⟨fun c i q1 q2 q3 => by rw [c3.1 c i q1 q2 q3, mUp_ne q2]; exact hv.1 c i q1 q2 q3, fun j hj => by rw [c3.2 j (by omega), mUp_nei (by omega)]; exact hv.2 j hj⟩
                have hw2 : mm_wR g2 (mUp x2 47 35 d) N := by
                  unfold mm_wR at c5 ⊢
                  rw [mUp_nei (show (39 : Int) ≠ 35 by decide), mUp_ne (show (70 : Nat) ≠ 47 by decide)]
                  exact c5
                rw [m'] at c1
                rw [if_pos qf, if_neg (by decide), if_pos (show 0 ≤ d ∧ d < 6 by omega), w7, if_pos hrk, dg, c1, c2, mm_be0, mm_be0, X6_tryOn_115, X10_goRoutes_78, w8, w4]
                exact ihk (p + 1) _ g2 _ (by omega) (by omega) (by omega) hy2 (rF_step hx T1 c4) hw2 (by omega)
              · obtain ⟨x2, b1, b2, b3, b4⟩ := L_wno h hI s shh D hD N N6 7 (d + 1) _ (eU e d p) (mUp (mUp x 68 d p) 47 35 (d + 1)) (by omega) z' (rS_step Tx) (Sm_step (hf.tr hx.Sm)) (fun e' u' ze he G => by
                  have t := ((hy e' u' ze).1 G).2 d z1 (by omega)
                  have e2 : ar D e' d = ar D (eU e d p) d := ar_co z1 (fun _ _ _ _ _ _ => rfl) (fun i i0 i1 => by
                    have := z'.2.2.1 i i0 (by omega)
                    exact ⟨he i i0 (by omega), by omega, by omega⟩)
                  rw [e2, ad, he d z1 (by omega), eU_d] at t
                  exact qf t)
                have y35 : x2 47 35 = d + 1 := by rw [b2.2.1]; exact mUp_self _ _ _ _
                have w8 : w32 (x2 47 35 - 1) = d := by
                  rw [y35, w32_id (by unfold mm_r32; omega)]
                  omega
                have hw2 : mm_wR v (mUp x2 47 35 d) N := by
                  unfold mm_wR at hvx ⊢
                  have e70 : x2 70 = x 70 := funext (fun k => by rw [b4, mUp_ne (by decide), mUp_ne (by decide)])
                  rw [mUp_nei (show (39 : Int) ≠ 35 by decide), mUp_ne (show (70 : Nat) ≠ 47 by decide), b3, mUp_nei (show (39 : Int) ≠ 35 by decide), mUp_ne (show (47 : Nat) ≠ 68 by decide), e70]
                  exact hvx
                rw [if_neg qf, if_pos rfl, b1, mm_be0, X6_tryOn_115, X10_goRoutes_78, w8, w4]
                exact ihk (p + 1) _ v _ (by omega) (by omega) (by omega) hv (rF_step hx T1 b2) hw2 (by omega)
      obtain ⟨g', f', c1, c2, c3, c4, c5, c6⟩ := L 7 1 none g f (by omega) (by omega) (by omega) mm_cF.rf mm_rF.rf hw (by omega)
      refine ⟨g', f', ?_, ?_, c3, c4, c5, by omega⟩
      · rw [X6_tryOn_c, X6_tryOn_0, S.1, if_pos (by omega)]
        exact c1
      · rw [X10_goRoutes_c, X10_goRoutes_0, w1, T1, if_pos (by omega)]
        exact c2
