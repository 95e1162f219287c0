/-! word: the pair -/
/-- the first word but the old one that is most -/
def bsw (V : Int → Int) (old : Int) : Nat → Int
  | 0 => -1
  | i + 1 => if (i : Int) = old then bsw V old i else if bsw V old i < 0 ∨ V (bsw V old i) < V (i : Int) then (i : Int) else bsw V old i
theorem bsw_s (V : Int → Int) (old : Int) {k : Int} (k0 : 0 ≤ k) : bsw V old (k + 1).toNat = if k = old then bsw V old k.toNat else if bsw V old k.toNat < 0 ∨ V (bsw V old k.toNat) < V k then k else bsw V old k.toNat := by
  rw [show (k + 1).toNat = k.toNat + 1 from by omega]
  show (if (k.toNat : Int) = old then bsw V old k.toNat else if bsw V old k.toNat < 0 ∨ V (bsw V old k.toNat) < V (k.toNat : Int) then (k.toNat : Int) else bsw V old k.toNat) = _
  rw [show (k.toNat : Int) = k from by omega]
theorem bsw_b (V : Int → Int) (old : Int) : ∀ n : Nat, (bsw V old n = -1 ∧ ∀ i : Nat, i < n → (i : Int) = old) ∨ (0 ≤ bsw V old n ∧ bsw V old n < n) := by
  intro n
  induction n with
  | zero => exact Or.inl ⟨rfl, fun i hi => by omega⟩
  | succ n ih =>
    have e : bsw V old (n + 1) = if (n : Int) = old then bsw V old n else if bsw V old n < 0 ∨ V (bsw V old n) < V (n : Int) then (n : Int) else bsw V old n := rfl
    rw [e]
    by_cases q : (n : Int) = old
    · rw [if_pos q]
      rcases ih with ⟨a, b⟩ | ⟨a, b⟩
      · refine Or.inl ⟨a, fun i hi => ?_⟩
        by_cases z : i = n
        · rw [z]
          exact q
        · exact b i (by omega)
      · exact Or.inr ⟨a, by omega⟩
    · rw [if_neg q]
      right
      by_cases z : bsw V old n < 0 ∨ V (bsw V old n) < V (n : Int)
      · rw [if_pos z]
        omega
      · rw [if_neg z]
        rcases ih with ⟨a, b⟩ | ⟨a, b⟩ <;> omega
theorem bsw_10 (V : Int → Int) (old : Int) : 0 ≤ bsw V old 10 ∧ bsw V old 10 < 10 := by
  rcases bsw_b V old 10 with ⟨a, b⟩ | h
  · have b0 := b 0 (by decide)
    have b1 := b 1 (by decide)
    omega
  · exact h
theorem lCmp_le {a b : Int} : lCmp a b ≤ 0 ↔ a ≤ b := by
  unfold lCmp
  repeat' split
  all_goals omega
theorem lCmp_lt {a b : Int} : 0 < lCmp a b ↔ b < a := by
  unfold lCmp
  repeat' split
  all_goals omega
def wV (h : mm_M) (e : Int → Int) (n w : Int) : Int := prN (vRt h w e 0) n.toNat
theorem mm_WG.co {g x : mm_M} (W : mm_WG g) (f : mm_xf g x) : mm_WG x := by
  have x1 : x 1 1 = g 1 1 := f 1 1 (by decide) (by decide) (by decide) (by decide) (by omega)
  have x4 : x 4 0 = g 4 0 := f 4 0 (by decide) (by decide) (by decide) (by decide) (by omega)
  have x11 : x 11 = g 11 := funext (fun i => f 11 i (by decide) (by decide) (by decide) (by decide) (by omega))
  have x23 : x 23 = g 23 := funext (fun i => f 23 i (by decide) (by decide) (by decide) (by decide) (by omega))
  have x24 : x 24 = g 24 := funext (fun i => f 24 i (by decide) (by decide) (by decide) (by decide) (by omega))
  have x25 : x 25 = g 25 := funext (fun i => f 25 i (by decide) (by decide) (by decide) (by decide) (by omega))
  have xd : wDi x = wDi g := by
    funext a b
    unfold wDi
    rw [x11]
  unfold mm_WG at W ⊢
  rw [x4, x23, x24, x25, x1, xd]
  exact W
theorem mm_xf.tr {a b c : mm_M} (x : mm_xf a b) (y : mm_xf b c) : mm_xf a c := fun k i q1 q2 q3 q4 q5 => (y k i q1 q2 q3 q4 q5).trans (x k i q1 q2 q3 q4 q5)
theorem mm_xf.rf {a : mm_M} : mm_xf a a := fun _ _ _ _ _ _ _ => rfl
theorem c_wordL (h g : mm_M) (s : Int) (hI : mm_Inv h) (m : mm_Sm h g) (W : mm_WG g) : ∃ x, mm_ev mX9_word 6 23 [some (vR 0), some (vI s), some (vI 0), some (vI (-2)), some (vL (-1)), none, some (vI 0), none, none] [] g = some ([vI (bsw (wV h (g 23) (g 4 0)) (h 11 53) 10)], x) ∧ mm_xf g x := by
  have W0 := W.1
  have W6 := W.2.1
  have g11 : g 1 1 = h 1 1 := m 1 1 (by unfold mm_sc; omega)
  have n7 := hI.1.2.1
  have b10 := bsw_10 (wV h (g 23) (g 4 0)) (h 11 53)
  have L : ∀ (c : Nat) (k a b : Int) (o : Option mm_V) (x : mm_M), 0 ≤ k → k ≤ 10 → 10 - k ≤ c → mm_xf g x → (a = if bsw (wV h (g 23) (g 4 0)) (h 11 53) k.toNat < 0 then -2 else bsw (wV h (g 23) (g 4 0)) (h 11 53) k.toNat) → (b = if bsw (wV h (g 23) (g 4 0)) (h 11 53) k.toNat < 0 then -1 else wV h (g 23) (g 4 0) (bsw (wV h (g 23) (g 4 0)) (h 11 53) k.toNat)) → ∃ y, mm_ev mX9_word 6 23 [some (vR 0), some (vI s), some (vI 0), some (vI a), some (vL b), none, some (vI k), o, none] [] x = some ([vI (bsw (wV h (g 23) (g 4 0)) (h 11 53) 10)], y) ∧ mm_xf g y := by
    intro c
    have fin : ∀ (k a b : Int) (o : Option mm_V) (x : mm_M), k = 10 → mm_xf g x → (a = if bsw (wV h (g 23) (g 4 0)) (h 11 53) k.toNat < 0 then -2 else bsw (wV h (g 23) (g 4 0)) (h 11 53) k.toNat) → ∃ y, mm_ev mX9_word 6 23 [some (vR 0), some (vI s), some (vI 0), some (vI a), some (vL b), none, some (vI k), o, none] [] x = some ([vI (bsw (wV h (g 23) (g 4 0)) (h 11 53) 10)], y) ∧ mm_xf g y := by
      intro k a b o x ek fx ha
      subst ek
      have ha : a = if bsw (wV h (g 23) (g 4 0)) (h 11 53) 10 < 0 then -2 else bsw (wV h (g 23) (g 4 0)) (h 11 53) 10 := ha
      rw [if_neg (by omega)] at ha
      refine ⟨x, ?_, fx⟩
      rw [X9_word_23, if_pos (by decide), ha]
    induction c with
    | zero =>
      intro k a b o x k0 k1 kc fx ha hb
      exact fin k a b o x (by omega) fx ha
    | succ c ih =>
      intro k a b o x k0 k1 kc fx ha hb
      by_cases q : k = 10
      · exact fin k a b o x q fx ha
      · have w4 : w32 (k + 1) = k + 1 := w32_id (by unfold mm_r32; omega)
        have x53 : x 11 53 = h 11 53 := by rw [fx 11 53 (by decide) (by decide) (by decide) (by decide) (by omega)]; exact m 11 53 (by unfold mm_sc; omega)
        have sb := bsw_s (wV h (g 23) (g 4 0)) (h 11 53) k0
        rw [X9_word_23, if_neg (by omega), c_old, mm_be1, X9_word_41, x53, w4]
        by_cases q2 : k = h 11 53
        · rw [if_pos q2] at sb
          rw [if_pos q2]
          exact ih (k + 1) a b _ x (by omega) (by omega) (by omega) fx (by rw [sb]; exact ha) (by rw [sb]; exact hb)
        · rw [if_neg q2] at sb
          obtain ⟨y, y1, wt, yf⟩ := c_weigh h x hI (m.tr fx.Sm) (W.co fx) k (by omega)
          have x4 : x 4 0 = g 4 0 := fx 4 0 (by decide) (by decide) (by decide) (by decide) (by omega)
          have x23 : x 23 = g 23 := funext (fun i => fx 23 i (by decide) (by decide) (by decide) (by decide) (by omega))
          rw [x23, x4] at wt
          have y4 : y 4 0 = g 4 0 := by rw [yf 4 0 (by decide) (by decide) (by decide) (by decide) (by omega)]; exact x4
          have oA := c_ofAll h y k (g 23) (g 4 0) 0 wt ⟨W0, W6⟩ y4 (fun j j0 j1 => by
            have := (W.2.2.1 j j0 j1).1
            refine ⟨?_, by omega, by omega⟩
            rw [yf 23 j (by decide) (by decide) (by decide) (by decide) (by omega), x23])
          have oA : mm_call mX1_ofAll [vR 6, vR 4, vI 0] y = some ([vL (wV h (g 23) (g 4 0) k)], y) := oA
          have fy := fx.tr yf
          have vb : 0 ≤ wV h (g 23) (g 4 0) k := (prN_6 (A := vRt h k (g 23) 0) (g 4 0).toNat (by omega) (fun i i0 i1 => vRt_b _ _ _ _ _)).1
          rw [if_neg q2, y1, mm_be0, X9_word_65, oA, mm_be1, X9_word_77, w4]
          by_cases q3 : wV h (g 23) (g 4 0) k ≤ b
          · have ng : ¬ (bsw (wV h (g 23) (g 4 0)) (h 11 53) k.toNat < 0 ∨ wV h (g 23) (g 4 0) (bsw (wV h (g 23) (g 4 0)) (h 11 53) k.toNat) < wV h (g 23) (g 4 0) k) := by
              by_cases z : bsw (wV h (g 23) (g 4 0)) (h 11 53) k.toNat < 0
              · rw [if_pos z] at hb
                omega
              · rw [if_neg z] at hb
                omega
            rw [if_neg ng] at sb
            rw [if_pos (lCmp_le.2 q3)]
            exact ih (k + 1) a b _ y (by omega) (by omega) (by omega) fy (by rw [sb]; exact ha) (by rw [sb]; exact hb)
          · have ps : (bsw (wV h (g 23) (g 4 0)) (h 11 53) k.toNat < 0 ∨ wV h (g 23) (g 4 0) (bsw (wV h (g 23) (g 4 0)) (h 11 53) k.toNat) < wV h (g 23) (g 4 0) k) := by
              by_cases z : bsw (wV h (g 23) (g 4 0)) (h 11 53) k.toNat < 0
              · exact Or.inl z
              · rw [if_neg z] at hb
                omega
            rw [if_pos ps] at sb
            rw [if_neg (fun w => q3 (lCmp_le.1 w))]
            exact ih (k + 1) _ _ _ y (by omega) (by omega) (by omega) fy (by rw [sb, if_neg (by omega)]) (by rw [sb, if_neg (by omega)])
  exact L 10 0 (-2) (-1) none g (by decide) (by decide) (by decide) mm_xf.rf rfl rfl
theorem s_wordL (h f : mm_M) (s was : Int) (e : Int → Int) (n : Int) (hI : mm_Inv h) (n0 : 0 ≤ n ∧ n ≤ 6) (he : ∀ j : Int, 0 ≤ j → j < n → 0 ≤ e j ∧ e j < 7) (R : ∃ w, mm_rr h f w e n) (f10 : f 47 10 = h 11 53) : ∃ x w, mm_ev mX10_word 7 35 [some (vR 47), some (vI s), some (vI 0), some (vI was), some (vI (-1)), some (vL 0), none, some (vI 0), none, none] [] f = some ([vI (bsw (wV h e n) (h 11 53) 10)], mUp x 47 11 was) ∧ mm_rr h x w e n := by
  have b10 := bsw_10 (wV h e n) (h 11 53)
  have L : ∀ (c : Nat) (k a b : Int) (o : Option mm_V) (x : mm_M), 0 ≤ k → k ≤ 10 → 10 - k ≤ c → (∃ w, mm_rr h x w e n) → x 47 10 = h 11 53 → a = bsw (wV h e n) (h 11 53) k.toNat → (0 ≤ bsw (wV h e n) (h 11 53) k.toNat → b = wV h e n (bsw (wV h e n) (h 11 53) k.toNat)) → ∃ y w, mm_ev mX10_word 7 35 [some (vR 47), some (vI s), some (vI 0), some (vI was), some (vI a), some (vL b), none, some (vI k), o, none] [] x = some ([vI (bsw (wV h e n) (h 11 53) 10)], mUp y 47 11 was) ∧ mm_rr h y w e n := by
    intro c
    have fin : ∀ (k a b : Int) (o : Option mm_V) (x : mm_M), k = 10 → (∃ w, mm_rr h x w e n) → a = bsw (wV h e n) (h 11 53) k.toNat → ∃ y w, mm_ev mX10_word 7 35 [some (vR 47), some (vI s), some (vI 0), some (vI was), some (vI a), some (vL b), none, some (vI k), o, none] [] x = some ([vI (bsw (wV h e n) (h 11 53) 10)], mUp y 47 11 was) ∧ mm_rr h y w e n := by
      intro k a b o x ek Rx ha
      subst ek
      obtain ⟨w, Rx⟩ := Rx
      refine ⟨x, w, ?_, Rx⟩
      rw [X10_word_35, if_pos (by decide), ha]
      rfl
    induction c with
    | zero =>
      intro k a b o x k0 k1 kc Rx x10 ha hb
      exact fin k a b o x (by omega) Rx ha
    | succ c ih =>
      intro k a b o x k0 k1 kc Rx x10 ha hb
      by_cases q : k = 10
      · exact fin k a b o x q Rx ha
      · have w4 : w32 (k + 1) = k + 1 := w32_id (by unfold mm_r32; omega)
        have sb := bsw_s (wV h e n) (h 11 53) k0
        have bb := bsw_b (wV h e n) (h 11 53) k.toNat
        rw [X10_word_35, if_neg (by omega), x10, w4]
        by_cases q2 : k = h 11 53
        · rw [if_pos q2] at sb
          rw [if_neg (fun w => w q2)]
          exact ih (k + 1) a b _ x (by omega) (by omega) (by omega) Rx x10 (by rw [sb]; exact ha) (by rw [sb]; exact hb)
        · rw [if_neg q2] at sb
          have Rk : mm_rr h (mUp x 47 11 k) k e n := by
            obtain ⟨w, ⟨z1, z2⟩, z3, z4⟩ := Rx
            refine ⟨⟨fun c i q1 q2 => by rw [mUp_at, if_neg q2]; exact z1 c i q1 q2, mUp_self _ _ _ _⟩, by rw [mUp_nei (by decide)]; exact z3, fun j j0 j1 => by rw [mUp_ne (by decide)]; exact z4 j j0 j1⟩
          obtain ⟨y, y1, y2⟩ := s_rightAll h hI k e n 0 (by omega) n0 he (by decide) (mUp x 47 11 k) Rk
          have y1 : mm_call mX10_rightAll [vR 47, vI 0] (mUp x 47 11 k) = some ([vL (wV h e n k)], y) := y1
          have Ry : ∃ w, mm_rr h y w e n := ⟨k, Rk.fr y2⟩
          have y10 : y 47 10 = h 11 53 := by rw [y2 47 (by decide) (by decide), mUp_nei (by decide)]; exact x10
          rw [if_pos q2, y1, mm_be1, X10_word_65, w4]
          by_cases q3 : a < 0
          · rw [if_pos (Or.inl (by omega))] at sb
            rw [if_pos q3, X10_word_83, w4]
            exact ih (k + 1) _ _ _ y (by omega) (by omega) (by omega) Ry y10 (by rw [sb]) (fun _ => by rw [sb])
          · rw [if_neg q3]
            have hb := hb (by omega)
            by_cases q4 : b < wV h e n k
            · rw [if_pos (Or.inr (by omega))] at sb
              rw [if_pos (lCmp_lt.2 q4), X10_word_83, w4]
              exact ih (k + 1) _ _ _ y (by omega) (by omega) (by omega) Ry y10 (by rw [sb]) (fun _ => by rw [sb])
            · rw [if_neg (by omega)] at sb
              rw [if_neg (fun w => q4 (lCmp_lt.1 w))]
              exact ih (k + 1) _ _ _ y (by omega) (by omega) (by omega) Ry y10 (by rw [sb]; exact ha) (fun _ => by rw [sb]; exact hb)
  exact L 10 0 (-1) 0 none f (by decide) (by decide) (by decide) R f10 rfl (fun w => absurd (show (0 : Int) ≤ -1 from w) (by decide))
theorem p_word (h : mm_M) (s : Int) (hI : mm_Inv h) : mm_Pr mX9_word mX10_word [vI s] h mm_Inv := by
  have eR : ∀ x : mm_M, mm_call mX10_word [vR 47, vI s] x = if 0 ≤ s ∧ s < 6 then (mm_call mX10_layOr [vR 47, vI s] x).bind (fun w => mm_ev mX10_word 7 14 [some (vR 47), some (vI s), none, none, none, none, none, none, none, none] (w.1 ++ []) w.2) else some ([vI (-1)], x) := by
    intro x
    rw [X10_word_c, s_shelf, mm_be1, X10_word_4]
    by_cases hs : 0 ≤ s ∧ s < 6
    · rw [if_pos hs, if_pos (by decide), if_pos hs]
    · rw [if_neg hs, if_neg (fun w => w rfl), if_neg hs]
  by_cases hz : kWhy h s 0 = 0
  · obtain ⟨hs, -⟩ := kWhy0 hz
    obtain ⟨g, a1, -, W, a4, a5, a6, a7, a8⟩ := mm_ctx h s hI hz
    obtain ⟨x, x1, xf⟩ := c_wordL h g s hI a4 W
    have eC : mm_call mX9_word [vR 0, vI s] h = some ([vI (bsw (wV h (g 23) (g 4 0)) (h 11 53) 10)], x) := by
      rw [X9_word_c, a1, mm_be1, X9_word_5, if_pos rfl]
      exact x1
    obtain ⟨f, b1, -, Ly, b4, b5, -, -, -, -⟩ := a8 x xf.Sm
    have fS := (a4.tr xf.Sm).tr b4
    have R := rr_of hI fS Ly
    have g11 : g 1 1 = h 1 1 := a4 1 1 (by unfold mm_sc; omega)
    have n7 := hI.1.2.1
    obtain ⟨y, w, y1, y2⟩ := s_wordL h f s (f 47 11) (g 23) (g 4 0) hI ⟨W.1, W.2.1⟩ (fun j j0 j1 => by
      have := (W.2.2.1 j j0 j1).1
      omega) ⟨_, R⟩ (by rw [(N8 b5.1).1]; exact fS 11 53 (by unfold mm_sc; omega))
    refine mm_Pr.of eC (v := vI (bsw (wV h (g 23) (g 4 0)) (h 11 53) 10)) (h2 := mUp y 47 11 (f 47 11)) ?_ ?_
    · rw [eR x, if_pos hs, b1, mm_be1, X10_word_14, if_pos (by decide)]
      exact y1
    · refine mm_Inv_Sm (fun c k z => ?_) hI
      by_cases q : c = 47 ∧ k = 11
      · rw [q.1, q.2, mUp_self]
        exact fS 47 11 (by unfold mm_sc; omega)
      · rw [mUp_at, if_neg q]
        exact y2.1.1 c k z q
  · have eC : mm_call mX9_word [vR 0, vI s] h = some ([vI (kWhy h s 0)], h) := by
      rw [X9_word_c, lay_bad h s hz, mm_be1, X9_word_5, if_neg hz]
    refine mm_Pr.of eC ?_ hI
    rw [eR h]
    by_cases hs : 0 ≤ s ∧ s < 6
    · have ng := kWhy_neg hz
      rw [if_pos hs, rlay_bad h s hI hs hz, mm_be1, X10_word_14, if_neg (by omega)]
    · rw [if_neg hs, kWhy_no hs]
