/-! first: the pair -/
/-- the first of those that are most: where, how many -/
def bst (V : Int → Int) : Nat → Int
  | 0 => -1
  | i + 1 => if bst V i < 0 ∨ V (bst V i) < V (i : Int) then (i : Int) else bst V i
theorem bst_b (V : Int → Int) : ∀ n : Nat, (n = 0 ∧ bst V n = -1) ∨ (0 ≤ bst V n ∧ bst V n < n) := by
  intro n
  induction n with
  | zero => exact Or.inl ⟨rfl, rfl⟩
  | succ n ih =>
    right
    show 0 ≤ (if bst V n < 0 ∨ V (bst V n) < V (n : Int) then (n : Int) else bst V n) ∧ (if bst V n < 0 ∨ V (bst V n) < V (n : Int) then (n : Int) else bst V n) < ((n + 1 : Nat) : Int)
    split <;> omega
theorem bst_s (V : Int → Int) {k : Int} (k0 : 0 ≤ k) : bst V (k + 1).toNat = if bst V k.toNat < 0 ∨ V (bst V k.toNat) < V k then k else bst V k.toNat := by
  rw [show (k + 1).toNat = k.toNat + 1 from by omega]
  show (if bst V k.toNat < 0 ∨ V (bst V k.toNat) < V (k.toNat : Int) then (k.toNat : Int) else bst V k.toNat) = _
  rw [show (k.toNat : Int) = k from by omega]
def fV (g : mm_M) (k : Int) : Int := pV g (pB (wDi g) (eF (g 23) k) (g 4 0))
theorem pV_b (g : mm_M) (b : Int → Int) : 0 ≤ pV g b ∧ pV g b ≤ 4 := by
  have b0 := pVk_b g b 0
  have b1 := pVk_b g b 1
  have b2 := pVk_b g b 2
  have b3 := pVk_b g b 3
  unfold pV
  omega
theorem c_firstV (g x : mm_M) (k : Int) (W : mm_WG g) (I : mm_Inv g) (fx : mm_ofr g x) (k0 : 0 ≤ k) (k1 : k < g 4 0) : ∃ y, mm_call mX8_takeWithFirst [vR 5, vR 1, vR 4, vI k] x = some ([], y) ∧ mm_call mX8_patrolsIn [vR 5, vR 1, vI 0] y = some ([vI (fV g k)], y) ∧ mm_ofr g y := by
  have ofr_tr : ∀ {a b c : mm_M}, mm_ofr a b → mm_ofr b c → mm_ofr a c := fun x y c i q1 q2 q3 q4 => (y c i q1 q2 q3 q4).trans (x c i q1 q2 q3 q4)
  have x1 : x 1 1 = g 1 1 := fx 1 1 (by decide) (by decide) (by decide) (by omega)
  have x4 : x 4 0 = g 4 0 := fx 4 0 (by decide) (by decide) (by decide) (by omega)
  have x11 : x 11 = g 11 := funext (fun i => fx 11 i (by decide) (by decide) (by decide) (by omega))
  have x23 : x 23 = g 23 := funext (fun i => fx 23 i (by decide) (by decide) (by decide) (by omega))
  have x24 : x 24 = g 24 := funext (fun i => fx 24 i (by decide) (by decide) (by decide) (by omega))
  have x25 : x 25 = g 25 := funext (fun i => fx 25 i (by decide) (by decide) (by decide) (by omega))
  have xd : wDi x = wDi g := by
    funext a b
    unfold wDi
    rw [x11]
  have Wx : mm_WG x := by
    unfold mm_WG at W ⊢
    rw [x4, x23, x24, x25, x1, xd]
    exact W
  have n7 := I.1.2.1
  have hb := N_xy I.1
  obtain ⟨y, a1, a2, a3⟩ := c_twf x k Wx (by omega) (by rw [x11]; exact hb) k0 (by omega)
  rw [x23, x4] at a2
  have fy := ofr_tr fx a3
  have y11 : ∀ i, y 11 i = g 11 i := fun i => fy 11 i (by decide) (by decide) (by decide) (by omega)
  have y1 : y 1 1 = g 1 1 := fy 1 1 (by decide) (by decide) (by decide) (by omega)
  have yd : wDi y = wDi g := by
    funext a b
    unfold wDi
    rw [y11, y11, y11, y11]
  have nk := mm_nok.of I.1
  have nky : mm_nok y := by
    unfold mm_nok at nk ⊢
    rw [y11, y11, y11, y1]
    refine ⟨nk.1, nk.2.1, nk.2.2.1, nk.2.2.2.1, fun k k0 k1 => ?_⟩
    rw [y11, y11]
    exact nk.2.2.2.2 k k0 k1
  have bb : ∀ p : Int, 0 ≤ p → p < 7 → bh5 y p = pB (wDi g) (eF (g 23) k) (g 4 0) p := fun p p0 p7 => by
    rw [We_bh a2 p p0 p7, yd]
  have W6 := W.2.1
  have bo : ∀ p : Int, 0 ≤ p → p < 7 → mm_bok (bh5 y p) := fun p p0 p7 => by
    rw [bb p p0 p7]
    exact pB_ok W6 (fun p q p0 p1 q0 q1 => wDi_b ⟨p0, p1⟩ ⟨q0, q1⟩ hb) (fun i i0 i1 => eF_in k0 k1 (fun j j0 j1 => by have := (W.2.2.1 j j0 j1).1; omega) i0 i1)
  refine ⟨y, a1, ?_, fy⟩
  rw [c_patrolsIn5 y 0 bo nky]
  have e : ∀ j : Int, 0 ≤ j ∧ j < 4 → cPat5 y 0 j = pVk g (pB (wDi g) (eF (g 23) k) (g 4 0)) j := fun j hj => by
    rw [cPat05 y j hj nky]
    exact pVk_co hj nk y11 y1 bb
  rw [e 0 (by decide), e 1 (by decide), e 2 (by decide), e 3 (by decide)]
  rfl
theorem c_firstL (g : mm_M) (s w : Int) (W : mm_WG g) (I : mm_Inv g) : ∃ y, mm_ev mX9_first 6 34 [some (vR 0), some (vI s), some (vI w), some (vI 0), some (vI (-2)), some (vI (-2)), some (vI 0), none] [] g = some ([vI (if bst (fV g) (g 4 0).toNat < 0 then -2 else if w = 0 then g 23 (bst (fV g) (g 4 0).toNat) else fV g (bst (fV g) (g 4 0).toNat))], y) ∧ mm_ofr g y := by
  have W0 := W.1
  have W6 := W.2.1
  have fin : ∀ (a b : Int) (o : Option mm_V) (x : mm_M), mm_ofr g x → (a = if bst (fV g) (g 4 0).toNat < 0 then -2 else g 23 (bst (fV g) (g 4 0).toNat)) → (b = if bst (fV g) (g 4 0).toNat < 0 then -2 else fV g (bst (fV g) (g 4 0).toNat)) → mm_ev mX9_first 6 34 [some (vR 0), some (vI s), some (vI w), some (vI 0), some (vI a), some (vI b), some (vI (g 4 0)), o] [] x = some ([vI (if bst (fV g) (g 4 0).toNat < 0 then -2 else if w = 0 then g 23 (bst (fV g) (g 4 0).toNat) else fV g (bst (fV g) (g 4 0).toNat))], x) := by
    intro a b o x fx ha hb
    have x4 : x 4 0 = g 4 0 := fx 4 0 (by decide) (by decide) (by decide) (by omega)
    rw [X9_first_34, if_pos (by omega)]
    by_cases q : bst (fV g) (g 4 0).toNat < 0
    · rw [if_pos q] at ha hb
      rw [if_pos q, ha, hb]
      split <;> rfl
    · rw [if_neg q] at ha hb
      rw [if_neg q]
      by_cases q2 : w = 0
      · rw [if_neg (fun z => z q2), if_pos q2, ha]
      · rw [if_pos q2, if_neg q2, hb]
  have L : ∀ (m : Nat) (i a b : Int) (o : Option mm_V) (x : mm_M), 0 ≤ i → i ≤ g 4 0 → g 4 0 - i ≤ m → mm_ofr g x → (a = if bst (fV g) i.toNat < 0 then -2 else g 23 (bst (fV g) i.toNat)) → (b = if bst (fV g) i.toNat < 0 then -2 else fV g (bst (fV g) i.toNat)) → ∃ y, mm_ev mX9_first 6 34 [some (vR 0), some (vI s), some (vI w), some (vI 0), some (vI a), some (vI b), some (vI i), o] [] x = some ([vI (if bst (fV g) (g 4 0).toNat < 0 then -2 else if w = 0 then g 23 (bst (fV g) (g 4 0).toNat) else fV g (bst (fV g) (g 4 0).toNat))], y) ∧ mm_ofr g y := by
    intro m
    induction m with
    | zero =>
      intro i a b o x i0 i1 im fx ha hb
      have e : i = g 4 0 := by omega
      rw [e] at ha hb ⊢
      exact ⟨x, fin a b o x fx ha hb, fx⟩
    | succ m ih =>
      intro i a b o x i0 i1 im fx ha hb
      have x4 : x 4 0 = g 4 0 := fx 4 0 (by decide) (by decide) (by decide) (by omega)
      by_cases q0 : g 4 0 ≤ i
      · have e : i = g 4 0 := by omega
        rw [e] at ha hb ⊢
        exact ⟨x, fin a b o x fx ha hb, fx⟩
      · obtain ⟨y, y1, y2, y3⟩ := c_firstV g x i W I fx i0 (by omega)
        have w4 : w32 (i + 1) = i + 1 := w32_id (by unfold mm_r32; omega)
        have vb := pV_b g (pB (wDi g) (eF (g 23) i) (g 4 0))
        have vb : 0 ≤ fV g i ∧ fV g i ≤ 4 := vb
        have y23 : y 23 i = g 23 i := y3 23 i (by decide) (by decide) (by decide) (by omega)
        have s := bst_s (fV g) i0
        rw [X9_first_34, if_neg (by omega), y1, mm_be0, X9_first_63, y2, mm_be1, X9_first_75, w4]
        by_cases q : fV g i ≤ b
        · rw [if_pos q]
          have : ¬ (bst (fV g) i.toNat < 0 ∨ fV g (bst (fV g) i.toNat) < fV g i) := by
            by_cases z : bst (fV g) i.toNat < 0
            · rw [if_pos z] at hb
              omega
            · rw [if_neg z] at hb
              omega
          rw [if_neg this] at s
          exact ih (i + 1) a b _ y (by omega) (by omega) (by omega) y3 (by rw [s]; exact ha) (by rw [s]; exact hb)
        · rw [if_neg q, if_pos (show 0 ≤ i ∧ i < 6 by omega), y23]
          have : (bst (fV g) i.toNat < 0 ∨ fV g (bst (fV g) i.toNat) < fV g i) := by
            by_cases z : bst (fV g) i.toNat < 0
            · exact Or.inl z
            · rw [if_neg z] at hb
              omega
          rw [if_pos this] at s
          exact ih (i + 1) _ _ _ y (by omega) (by omega) (by omega) y3 (by rw [s, if_neg (by omega)]) (by rw [s, if_neg (by omega)])
  exact L 6 0 (-2) (-2) none g (by omega) W0 (by omega) (fun _ _ _ _ _ _ => rfl) rfl rfl
theorem mm_ofr.Sm {h g : mm_M} (f : mm_ofr h g) : mm_Sm h g := fun c i w => f c i (fun q => w (by unfold mm_sc; omega)) (fun q => w (by unfold mm_sc; omega)) (fun q => w (by unfold mm_sc; omega)) (fun q => w (by unfold mm_sc; omega))
theorem s_firstL (g f : mm_M) (s w : Int) (W : mm_WG g) (I : mm_Inv g) (lay : ∀ h1, mm_Sm g h1 → ∃ f, mm_call mX10_layRoute [vR 47, vI s] h1 = some ([], f) ∧ mm_LAY g f ∧ mm_Sm h1 f) (fS : mm_Sm g f) : ∃ y, mm_ev mX10_first 6 46 [some (vR 47), some (vI s), some (vI w), some (vI 0), some (vI (g 4 0)), some (vI (-2)), some (vI (-1)), some (vI 0), none] [] f = some ([vI (if bst (fV g) (g 4 0).toNat < 0 then -2 else if w = 0 then g 23 (bst (fV g) (g 4 0).toNat) else fV g (bst (fV g) (g 4 0).toNat))], y) ∧ mm_Sm g y := by
  have W0 := W.1
  have W6 := W.2.1
  have hbx := N_xy I.1
  have nk := mm_nok.of I.1
  have n7 := I.1.2.1
  have fin : ∀ (a b : Int) (o : Option mm_V) (x : mm_M), mm_Sm g x → (a = if bst (fV g) (g 4 0).toNat < 0 then -2 else g 23 (bst (fV g) (g 4 0).toNat)) → (b = if bst (fV g) (g 4 0).toNat < 0 then -1 else fV g (bst (fV g) (g 4 0).toNat)) → mm_ev mX10_first 6 46 [some (vR 47), some (vI s), some (vI w), some (vI 0), some (vI (g 4 0)), some (vI a), some (vI b), some (vI (g 4 0)), o] [] x = some ([vI (if bst (fV g) (g 4 0).toNat < 0 then -2 else if w = 0 then g 23 (bst (fV g) (g 4 0).toNat) else fV g (bst (fV g) (g 4 0).toNat))], x) := by
    intro a b o x fx ha hb
    rw [X10_first_46, if_pos (Int.le_refl _)]
    by_cases q : bst (fV g) (g 4 0).toNat < 0
    · rw [if_pos q] at ha
      rw [if_pos (by omega), if_pos q, ha]
    · rw [if_neg q] at ha hb
      have r := bst_b (fV g) (g 4 0).toNat
      have v := (W.2.2.1 (bst (fV g) (g 4 0).toNat) (by omega) (by omega)).1
      rw [if_neg (by omega), if_neg q]
      by_cases q2 : w = 0
      · rw [if_neg (fun z => z q2), if_pos q2, ha]
      · rw [if_pos q2, if_neg q2, hb]
  have L : ∀ (m : Nat) (i a b : Int) (o : Option mm_V) (x : mm_M), 0 ≤ i → i ≤ g 4 0 → g 4 0 - i ≤ m → mm_Sm g x → (a = if bst (fV g) i.toNat < 0 then -2 else g 23 (bst (fV g) i.toNat)) → (b = if bst (fV g) i.toNat < 0 then -1 else fV g (bst (fV g) i.toNat)) → ∃ y, mm_ev mX10_first 6 46 [some (vR 47), some (vI s), some (vI w), some (vI 0), some (vI (g 4 0)), some (vI a), some (vI b), some (vI i), o] [] x = some ([vI (if bst (fV g) (g 4 0).toNat < 0 then -2 else if w = 0 then g 23 (bst (fV g) (g 4 0).toNat) else fV g (bst (fV g) (g 4 0).toNat))], y) ∧ mm_Sm g y := by
    intro m
    induction m with
    | zero =>
      intro i a b o x i0 i1 im fx ha hb
      have e : i = g 4 0 := by omega
      rw [e] at ha hb ⊢
      exact ⟨x, fin a b o x fx ha hb, fx⟩
    | succ m ih =>
      intro i a b o x i0 i1 im fx ha hb
      by_cases q0 : g 4 0 ≤ i
      · have e : i = g 4 0 := by omega
        rw [e] at ha hb ⊢
        exact ⟨x, fin a b o x fx ha hb, fx⟩
      · obtain ⟨f1, c1, c2, c3⟩ := lay x fx
        have f1S := fx.tr c3
        have I1 := mm_Inv_Sm f1S I
        have e35 : f1 47 35 = g 4 0 := c2.1
        have hv : ∀ j : Int, 0 ≤ j → j < f1 47 35 → 0 < f1 68 j ∧ f1 68 j < 7 := fun j j0 j1 => by
          rw [c2.2.1 j j0 (by omega)]
          have := (W.2.2.1 j j0 (by omega)).1
          omega
        have hd : ∀ i j : Int, 0 ≤ i → i < j → j < f1 47 35 → ¬ f1 68 i = f1 68 j := fun i j i0 ij j1 => by
          rw [c2.2.1 i i0 (by omega), c2.2.1 j (by omega) (by omega)]
          exact WG_d W i0 ij (by omega)
        have n10 := N10 I1.1
        have d11 : ∀ i, f1 11 i = g 11 i := fun i => f1S 11 i (by unfold mm_sc; omega)
        obtain ⟨f2, d1, d2, d3⟩ := s_putFirst f1 i (by omega) i0 (by omega) hv hd (by omega) (N_rxy I1.1)
        have f2S : mm_Sm g f2 := fun c k z => by
          rw [d2 c (fun q => z (by unfold mm_sc; omega)) (fun q => z (by unfold mm_sc; omega))]
          exact f1S c k z
        have I2 := mm_Inv_Sm f2S I
        have e11 : ∀ i, f2 11 i = g 11 i := fun i => f2S 11 i (by unfold mm_sc; omega)
        have eo : ∀ j : Int, 0 ≤ j → j < g 4 0 → eF (f1 68) i j = eF (g 23) i j := fun j j0 j1 => by
          unfold eF
          by_cases z : j = 0
          · rw [if_pos z, if_pos z]
            exact c2.2.1 i i0 (by omega)
          · rw [if_neg z, if_neg z]
            by_cases z2 : j ≤ i
            · rw [if_pos z2, if_pos z2]
              exact c2.2.1 _ (by omega) (by omega)
            · rw [if_neg z2, if_neg z2]
              exact c2.2.1 _ j0 j1
        have vF : ∀ j : Int, 0 ≤ j → j < g 4 0 → 0 < eF (g 23) i j ∧ eF (g 23) i j < 7 := fun j j0 j1 => eF_in i0 (by omega) (fun j j0 j1 => by have := (W.2.2.1 j j0 j1).1; omega) j0 j1
        have bE : ∀ p : Int, pB (rDi f1) (eF (f1 68) i) (f1 47 35) p = pB (wDi g) (eF (g 23) i) (g 4 0) p := fun p => by
          rw [e35]
          refine pB_co (fun a b a0 a1 b0 b1 => ?_) (fun j j0 j1 => ?_)
          · rw [N_di I1.1 a b ⟨a0, a1⟩ ⟨b0, b1⟩]
            unfold wDi
            rw [d11, d11, d11, d11]
          · have := vF j j0 j1
            exact ⟨eo j j0 j1, by omega, by omega⟩
        have hm := s_homeB (g := g) (f := f2) (b := pB (wDi g) (eF (g 23) i) (g 4 0)) nk I2.1 e11 (f2S 1 1 (by unfold mm_sc; omega)) (fun p p0 p7 => pB_ok W6 (fun p q p0 p1 q0 q1 => wDi_b ⟨p0, p1⟩ ⟨q0, q1⟩ hbx) vF) (fun p p0 p7 => by rw [d3 p p0 p7, bE, n10.1, d11])
        have hm : mm_call mX10_homeMany [vR 47] f2 = some ([vI (fV g i)], f2) := hm
        have w4 : w32 (i + 1) = i + 1 := w32_id (by unfold mm_r32; omega)
        have vb : 0 ≤ fV g i ∧ fV g i ≤ 4 := pV_b g (pB (wDi g) (eF (g 23) i) (g 4 0))
        have s := bst_s (fV g) i0
        have p68 : f1 68 i = g 23 i := c2.2.1 i i0 (by omega)
        rw [X10_first_46, if_neg q0, c1, mm_be0, X10_first_58, if_pos (by omega), d1, mm_be0, X10_first_73, hm, mm_be1, X10_first_77, w4, p68]
        by_cases q : b < fV g i
        · rw [if_pos q, hm, mm_be1, X10_first_93, w4]
          have : (bst (fV g) i.toNat < 0 ∨ fV g (bst (fV g) i.toNat) < fV g i) := by
            by_cases z : bst (fV g) i.toNat < 0
            · exact Or.inl z
            · rw [if_neg z] at hb
              omega
          rw [if_pos this] at s
          exact ih (i + 1) _ _ _ f2 (by omega) (by omega) (by omega) f2S (by rw [s, if_neg (by omega)]) (by rw [s, if_neg (by omega)])
        · rw [if_neg q]
          have : ¬ (bst (fV g) i.toNat < 0 ∨ fV g (bst (fV g) i.toNat) < fV g i) := by
            by_cases z : bst (fV g) i.toNat < 0
            · rw [if_pos z] at hb
              omega
            · rw [if_neg z] at hb
              omega
          rw [if_neg this] at s
          exact ih (i + 1) a b _ f2 (by omega) (by omega) (by omega) f2S (by rw [s]; exact ha) (by rw [s]; exact hb)
  exact L 6 0 (-2) (-1) none f (by omega) W0 (by omega) fS rfl rfl
theorem p_first (h : mm_M) (s w : Int) (hI : mm_Inv h) : mm_Pr mX9_first mX10_first [vI s, vI w] h mm_Inv := by
  have eR : ∀ x : mm_M, mm_call mX10_first [vR 47, vI s, vI w] x = if 0 ≤ s ∧ s < 6 then (if 0 ≤ w ∧ w ≤ 1 then (mm_call mX10_layOr [vR 47, vI s] x).bind (fun z => mm_ev mX10_first 6 23 [some (vR 47), some (vI s), some (vI w), none, none, none, none, none, none] (z.1 ++ []) z.2) else some ([vI (-1)], x)) else some ([vI (-1)], x) := by
    intro x
    rw [X10_first_c, s_shelf, mm_be1, X10_first_4]
    by_cases hs : 0 ≤ s ∧ s < 6
    · rw [if_pos hs, if_neg (by decide), if_pos hs, s_in, mm_be1, X10_first_13]
      by_cases q : 0 ≤ w ∧ w ≤ 1
      · rw [if_pos q, if_pos (by decide), if_pos q]
      · rw [if_neg q, if_neg (fun w => w rfl), if_neg q]
    · rw [if_neg hs, if_pos rfl, if_neg hs]
  have eC : mm_call mX9_first [vR 0, vI s, vI w] h = if 0 ≤ w ∧ w ≤ 1 then (mm_call mX9_layOut [vR 0, vI s] h).bind (fun z => mm_ev mX9_first 6 16 [some (vR 0), some (vI s), some (vI w), none, none, none, none, none] (z.1 ++ []) z.2) else some ([vI (-1)], h) := by
    rw [X9_first_c]
    by_cases q : w < 0
    · rw [if_pos q, if_neg (by omega)]
    · rw [if_neg q]
      by_cases q2 : w ≤ 1
      · rw [if_pos q2, if_pos ⟨by omega, q2⟩]
      · rw [if_neg q2, if_neg (by omega)]
  by_cases hw : 0 ≤ w ∧ w ≤ 1
  · rw [if_pos hw] at eC
    by_cases hz : kWhy h s 0 = 0
    · obtain ⟨hs, -⟩ := kWhy0 hz
      obtain ⟨g, a1, -, a3, a4, a5, a6, a7, a8⟩ := mm_ctx h s hI hz
      obtain ⟨y, y1, y2⟩ := c_firstL g s w a3 a5
      rw [a1, mm_be1, X9_first_16, if_pos rfl, y1] at eC
      obtain ⟨f, b1, b2, b3, b4, b5, b6, b7, b8, b9⟩ := a8 y y2.Sm
      obtain ⟨u, u1, u2⟩ := s_firstL g f s w a3 a5 (fun h1 m => by
        obtain ⟨f, b1, b2, b3, b4, -⟩ := a8 h1 m
        exact ⟨f, b2, b3, b4⟩) (y2.Sm.tr b4)
      have eR := eR y
      rw [if_pos hs, if_pos hw, b1, mm_be1, X10_first_23, if_pos (by decide), b3.1, u1] at eR
      exact mm_Pr.of eC eR (mm_Inv_Sm u2 a5)
    · rw [lay_bad h s hz, mm_be1, X9_first_16, if_neg hz] at eC
      refine mm_Pr.of eC ?_ hI
      rw [eR h]
      by_cases hs : 0 ≤ s ∧ s < 6
      · have ng := kWhy_neg hz
        rw [if_pos hs, if_pos hw, rlay_bad h s hI hs hz, mm_be1, X10_first_23, if_neg (by omega)]
      · rw [if_neg hs, kWhy_no hs]
  · rw [if_neg hw] at eC
    refine mm_Pr.of eC ?_ hI
    rw [eR h, if_neg hw]
    by_cases hs : 0 ≤ s ∧ s < 6
    · rw [if_pos hs]
    · rw [if_neg hs]
