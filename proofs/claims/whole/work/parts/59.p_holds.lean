/-! holdsFor: the pair -/
def need (g : mm_M) (k : Int) : Int := if g 11 (49 + k) < g 1 1 then (if kn g k = g 11 54 ∧ cT (bh g (g 11 (49 + k))) (g 11 55) ≤ g 11 (45 + k) then 0 else if kn g k = g 11 53 then (if 0 < g 11 (45 + k) - cT (bh g (g 11 (49 + k))) (g 11 55) + 1 then g 11 (45 + k) - cT (bh g (g 11 (49 + k))) (g 11 55) + 1 else 0) else 1000000) else 1000000
theorem c_need (g : mm_M) (k : Int) (hk : 0 ≤ k ∧ k < 4) (hb : ∀ p : Int, 0 ≤ p → p < 7 → mm_bok (bh g p)) (hn : mm_nok g) : mm_call mX8_holdsNeeded [vR 4, vR 1, vI k] g = some ([vI (need g k)], g) := by
  obtain ⟨n1, n2, n3, n4, n5⟩ := id hn
  obtain ⟨m1, m2, m3, m4⟩ := n5 k hk.1 hk.2
  rw [X8a_holdsNeeded_c, g_by g k hk, mm_be1]
  refine (X8a_holdsNeeded_7 _ _ _).trans ?_
  rw [c_isPost, mm_be1]
  refine (X8a_holdsNeeded_13 _ _ _ _).trans ?_
  unfold need
  by_cases q : g 11 (49 + k) < g 1 1
  · have bp := hb _ m3 (by omega)
    rw [if_pos (⟨m3, q⟩ : 0 ≤ g 11 (49 + k) ∧ g 11 (49 + k) < g 1 1), if_pos (by decide), g_home g k hk, mm_be1, if_pos q]
    refine (X8a_holdsNeeded_26 _ _ _ _).trans ?_
    rw [c_hearing g _ ⟨m3, by omega⟩ bp n1, mm_be1]
    refine (X8a_holdsNeeded_32 _ _ _ _ _).trans ?_
    rw [c_known g k hk, mm_be1]
    refine (X8a_holdsNeeded_40 _ _ _ _ _).trans ?_
    rw [c_new, mm_be1]
    refine (X8a_holdsNeeded_50 _ _ _ _ _ _ _).trans ?_
    have hT : ∃ T, T = cT (bh g (g 11 (49 + k))) (g 11 55) := ⟨_, rfl⟩
    obtain ⟨T, hT⟩ := hT
    have bT : 0 ≤ T ∧ T ≤ 1000000 := by
      rw [hT]
      exact cT_b bp n1
    rw [← hT]
    have w1 : w32 (g 11 (45 + k) - T) = g 11 (45 + k) - T := w32_id (by unfold mm_r32; omega)
    have w2 : w32 (g 11 (45 + k) - T + 1) = g 11 (45 + k) - T + 1 := w32_id (by unfold mm_r32; omega)
    have e68 : ¬ (kn g k = g 11 54 ∧ T ≤ g 11 (45 + k)) → (mm_call mX4_the [vR 1, vI 8] g).bind (fun w => mm_ev mX8_holdsNeeded 3 68 [some (vR 4), some (vR 1), some (vI k), some (vI (g 11 (49 + k))), some (vI (w32 (g 11 (45 + k) - T))), some (vI (kn g k))] (w.1 ++ [vI (kn g k)]) w.2) = some ([vI (if kn g k = g 11 54 ∧ T ≤ g 11 (45 + k) then 0 else if kn g k = g 11 53 then (if 0 < g 11 (45 + k) - T + 1 then g 11 (45 + k) - T + 1 else 0) else 1000000)], g) := by
      intro z
      rw [c_old, mm_be1]
      refine (X8a_holdsNeeded_68 _ _ _ _ _ _ _).trans ?_
      rw [if_neg z, w1, w2]
      by_cases q2 : kn g k = g 11 53
      · rw [if_neg (fun w => w q2), if_pos q2]
      · rw [if_pos q2, if_neg q2]
    by_cases q1 : kn g k = g 11 54
    · rw [if_neg (fun w => w q1)]
      by_cases q2 : w32 (g 11 (45 + k) - T) < 0
      · rw [if_pos q2]
        exact e68 (by omega)
      · rw [if_neg q2, if_pos (by omega)]
    · rw [if_pos q1]
      exact e68 (fun w => q1 w.1)
  · rw [if_neg (fun w : 0 ≤ g 11 (49 + k) ∧ g 11 (49 + k) < g 1 1 => q w.2), if_neg (fun w => w rfl), if_neg q]
theorem kn_or (g : mm_M) (k : Int) : kn g k = g 11 53 ∨ kn g k = g 11 54 := by
  unfold kn
  split
  · exact Or.inl rfl
  · exact Or.inr rfl
theorem need_b (g : mm_M) (k : Int) (hk : 0 ≤ k ∧ k < 4) (hb : ∀ p : Int, 0 ≤ p → p < 7 → mm_bok (bh g p)) (hn : mm_nok g) : 0 ≤ need g k ∧ need g k ≤ 1000000 := by
  obtain ⟨n1, n2, n3, n4, n5⟩ := id hn
  obtain ⟨m1, m2, m3, m4⟩ := n5 k hk.1 hk.2
  unfold need
  by_cases q : g 11 (49 + k) < g 1 1
  · rw [if_pos q]
    have bp := hb _ m3 (by omega)
    by_cases q : bh g (g 11 (49 + k)) = 1000000
    · rw [show cT (bh g (g 11 (49 + k))) (g 11 55) = 1000000 from if_pos q]
      repeat' split
      all_goals omega
    · rw [show cT (bh g (g 11 (49 + k))) (g 11 55) = g 11 55 + bh g (g 11 (49 + k)) from if_neg q]
      repeat' split
      all_goals omega
  · rw [if_neg q]
    omega
theorem need_eq {g f : mm_M} {k v : Int} (hk : 0 ≤ k ∧ k < 4) (ag : mm_AG g f) (hn : mm_nok g) (e13 : f 47 13 = v) (hv : 0 ≤ v ∧ v ≤ 999) (hb : ∀ p : Int, 0 ≤ p → p < 7 → mm_bok (bh g p)) : rHome f k ↔ need g k ≤ v := by
  obtain ⟨n1, n2, n3, n4, n5⟩ := id hn
  obtain ⟨m1, m2, m3, m4⟩ := n5 k hk.1 hk.2
  rw [home_eq hk ag, e13]
  unfold need
  by_cases q : g 11 (49 + k) < g 1 1
  · rw [if_pos q]
    have bp := hb _ m3 (by omega)
    have ko := kn_or g k
    have b7 : 0 ≤ g 11 (49 + k) ∧ g 11 (49 + k) < 7 := by omega
    have le := let_eq (b := bh g (g 11 (49 + k))) (a := g 11 55) (m := g 11 (45 + k)) (old := g 11 53) (e := g 11 54) (hd := v) (w := kn g k) bp n1 (by omega) hv.1
    have key : cLet (cT (bh g (g 11 (49 + k))) (g 11 55)) (g 11 53) (g 11 54) v (g 11 (45 + k)) (kn g k) ↔ (if kn g k = g 11 54 ∧ cT (bh g (g 11 (49 + k))) (g 11 55) ≤ g 11 (45 + k) then 0 else if kn g k = g 11 53 then (if 0 < g 11 (45 + k) - cT (bh g (g 11 (49 + k))) (g 11 55) + 1 then g 11 (45 + k) - cT (bh g (g 11 (49 + k))) (g 11 55) + 1 else 0) else 1000000) ≤ v := by
      generalize cT (bh g (g 11 (49 + k))) (g 11 55) = T
      generalize kn g k = w at ko ⊢
      unfold cLet
      repeat' split
      all_goals omega
    rw [← key]
    constructor
    · intro w
      exact le.2 (w.2.1 b7)
    · intro w
      exact ⟨q, fun _ => le.1 w, fun z => absurd b7 z⟩
  · rw [if_neg q]
    constructor
    · intro w
      exact absurd w.1 q
    · intro w
      omega
/-- the least of 0 .. 999 by which something is; -2 -/
def mm_lst (Q : Int → Prop) (r : Int) : Prop := (r = -2 ∧ ∀ v : Int, 0 ≤ v → v ≤ 999 → ¬ Q v) ∨ (0 ≤ r ∧ r ≤ 999 ∧ Q r ∧ ∀ v : Int, 0 ≤ v → v < r → ¬ Q v)
theorem c_holdsL (g : mm_M) (s : Int) (hb : ∀ p : Int, 0 ≤ p → p < 7 → mm_bok (bh g p)) (hn : mm_nok g) : ∃ r, mm_lst (fun v => ∀ k : Int, 0 ≤ k → k < 4 → need g k ≤ v) r ∧ mm_ev mX9_holdsFor 6 17 [some (vR 0), some (vI s), some (vI 0), some (vI 0), some (vI 0), none] [] g = some ([vI r], g) := by
  have st : ∀ (m : Nat) (k a : Int) (o : Option mm_V), 0 ≤ k → k ≤ 4 → 4 - k ≤ m → 0 ≤ a → a ≤ 999 → (∀ j : Int, 0 ≤ j → j < k → need g j ≤ a) → (a = 0 ∨ ∃ j : Int, 0 ≤ j ∧ j < k ∧ need g j = a) → ∃ r, mm_lst (fun v => ∀ k : Int, 0 ≤ k → k < 4 → need g k ≤ v) r ∧ mm_ev mX9_holdsFor 6 17 [some (vR 0), some (vI s), some (vI 0), some (vI a), some (vI k), o] [] g = some ([vI r], g) := by
    intro m
    induction m with
    | zero =>
      intro k a o k0 k4 km a0 a9 A B
      refine ⟨a, Or.inr ⟨a0, a9, fun j j0 j1 => A j j0 (by omega), fun v v0 v1 w => ?_⟩, ?_⟩
      · rcases B with B | ⟨j, j0, j1, e⟩
        · omega
        · have := w j j0 (by omega)
          omega
      · rw [X9_holdsFor_17, if_pos (by omega)]
    | succ m ih =>
      intro k a o k0 k4 km a0 a9 A B
      by_cases q : 4 ≤ k
      · refine ⟨a, Or.inr ⟨a0, a9, fun j j0 j1 => A j j0 (by omega), fun v v0 v1 w => ?_⟩, ?_⟩
        · rcases B with B | ⟨j, j0, j1, e⟩
          · omega
          · have := w j j0 (by omega)
            omega
        · rw [X9_holdsFor_17, if_pos q]
      · have nb := need_b g k ⟨k0, by omega⟩ hb hn
        have w4 : w32 (k + 1) = k + 1 := w32_id (by unfold mm_r32; omega)
        have e : mm_ev mX9_holdsFor 6 17 [some (vR 0), some (vI s), some (vI 0), some (vI a), some (vI k), o] [] g = if need g k < 1000 then mm_ev mX9_holdsFor 6 17 [some (vR 0), some (vI s), some (vI 0), some (vI (if a < need g k then need g k else a)), some (vI (k + 1)), some (vI (need g k))] [] g else some ([vI (-2)], g) := by
          rw [X9_holdsFor_17, if_neg q, c_need g k ⟨k0, by omega⟩ hb hn, mm_be1]
          refine (X9_holdsFor_36 _ _ _ _ _ _ _).trans ?_
          rw [w4]
        rw [e]
        by_cases q2 : need g k < 1000
        · rw [if_pos q2]
          by_cases q3 : a < need g k
          · rw [if_pos q3]
            refine ih (k + 1) _ _ (by omega) (by omega) (by omega) (by omega) (by omega) (fun j j0 j1 => ?_) (Or.inr ⟨k, k0, by omega, rfl⟩)
            by_cases q4 : j = k
            · rw [q4]
              omega
            · have := A j j0 (by omega)
              omega
          · rw [if_neg q3]
            refine ih (k + 1) _ _ (by omega) (by omega) (by omega) a0 a9 (fun j j0 j1 => ?_) ?_
            · by_cases q4 : j = k
              · rw [q4]
                omega
              · exact A j j0 (by omega)
            · rcases B with B | ⟨j, j0, j1, e⟩
              · exact Or.inl B
              · exact Or.inr ⟨j, j0, by omega, e⟩
        · rw [if_neg q2]
          exact ⟨-2, Or.inl ⟨rfl, fun v v0 v1 w => by have := w k k0 (by omega); omega⟩, rfl⟩
  exact st 4 0 0 none (by omega) (by omega) (by omega) (by omega) (by omega) (fun j j0 j1 => by omega) (Or.inl rfl)
theorem s_holdsL (f : mm_M) (s : Int) (Q : Int → Prop) (r : Int) (hr : mm_lst Q r) (hQ : ∀ x v, (∀ c i, ¬ (c = 47 ∧ i = 13) → x c i = f c i) → x 47 13 = v → 0 ≤ v → v ≤ 999 → ∃ b, mm_call mX10_homeMany [vR 47] x = some ([vI b], x) ∧ (b = 4 ↔ Q v)) : mm_ev mX10_holdsFor 6 33 [some (vR 47), some (vI s), some (vI 0), some (vI (f 47 13)), some (vI (-2)), some (vI 0)] [] f = some ([vI r], f) := by
  have fin : ∀ x : mm_M, (∀ c i, ¬ (c = 47 ∧ i = 13) → x c i = f c i) → mUp x 47 13 (f 47 13) = f := fun x hx => by
    funext c i
    rw [mUp_at]
    by_cases q : c = 47 ∧ i = 13
    · rw [if_pos q, q.1, q.2]
    · rw [if_neg q, hx c i q]
  have st : ∀ (m : Nat) (v : Int) (x : mm_M), (∀ c i, ¬ (c = 47 ∧ i = 13) → x c i = f c i) → 0 ≤ v → 1000 - v ≤ m → (r = -2 ∨ v ≤ r) → mm_ev mX10_holdsFor 6 33 [some (vR 47), some (vI s), some (vI 0), some (vI (f 47 13)), some (vI (-2)), some (vI v)] [] x = some ([vI r], f) := by
    intro m
    induction m with
    | zero =>
      intro v x hx v0 vm hv
      rw [X10_holdsFor_33, if_pos (by omega), fin x hx]
      rcases hr with ⟨a, b⟩ | ⟨a, b, c, d⟩
      · rw [a]
      · omega
    | succ m ih =>
      intro v x hx v0 vm hv
      by_cases q : 999 < v
      · rw [X10_holdsFor_33, if_pos q, fin x hx]
        rcases hr with ⟨a, b⟩ | ⟨a, b, c, d⟩
        · rw [a]
        · omega
      · have w4 : w32 (v + 1) = v + 1 := w32_id (by unfold mm_r32; omega)
        have hx2 : ∀ c i, ¬ (c = 47 ∧ i = 13) → mUp x 47 13 v c i = f c i := fun c i z => by
          rw [mUp_at, if_neg z]
          exact hx c i z
        obtain ⟨b, b1, b2⟩ := hQ (mUp x 47 13 v) v hx2 (mUp_self _ _ _ _) v0 (by omega)
        rw [X10_holdsFor_33, if_neg q, if_neg (by decide), b1, mm_be1]
        refine (X10_holdsFor_56 _ _ _ _ _ _ _).trans ?_
        rw [w4]
        by_cases q2 : b = 4
        · have Qv := b2.1 q2
          have e : r = v := by
            rcases hr with ⟨a, b⟩ | ⟨a, b, c, d⟩
            · exact absurd Qv (b v v0 (by omega))
            · by_cases z : v < r
              · exact absurd Qv (d v v0 z)
              · omega
          rw [if_neg (fun w => w q2), X10_holdsFor_33]
          by_cases q3 : 999 < v + 1
          · rw [if_pos q3, fin _ hx2, e]
          · rw [if_neg q3, if_pos v0, fin _ hx2, e]
        · rw [if_pos q2]
          refine ih (v + 1) _ hx2 (by omega) (by omega) ?_
          rcases hr with ⟨a, b⟩ | ⟨a, b, c, d⟩
          · exact Or.inl a
          · right
            by_cases z : v = r
            · rw [← z] at c
              exact absurd (b2.2 c) q2
            · omega
  exact st 1000 0 f (fun _ _ _ => rfl) (by omega) (by omega) (by rcases hr with ⟨a, b⟩ | ⟨a, b, c, d⟩; exact Or.inl a; exact Or.inr a)
theorem mm_rok.up13 {f x : mm_M} (ho : mm_rok f) (hx : ∀ c i, ¬ (c = 47 ∧ i = 13) → x c i = f c i) (v : Int) (hv : 0 ≤ v ∧ v ≤ 999) (e : x 47 13 = v) : mm_rok x := ⟨fun p p0 p7 => by rw [hx 69 p (by omega)]; exact ho.1 p p0 p7, by omega, by omega⟩
theorem mm_rby.up13 {f x : mm_M} (ho : mm_rby f) (hx : ∀ c i, ¬ (c = 47 ∧ i = 13) → x c i = f c i) : mm_rby x := ⟨by rw [hx 47 1 (by omega)]; exact ho.1, fun k k0 k1 => by rw [hx 55 k (by omega)]; exact ho.2 k k0 k1⟩
theorem mm_AG.up13 {g f x : mm_M} (ag : mm_AG g f) (hx : ∀ c i, ¬ (c = 47 ∧ i = 13) → x c i = f c i) : mm_AG g x := by
  obtain ⟨g1, g2, g3, g4, g5, g6⟩ := ag
  refine ⟨by rw [hx 47 1 (by omega)]; exact g1, by rw [hx 47 10 (by omega)]; exact g2, by rw [hx 47 11 (by omega)]; exact g3, by rw [hx 47 12 (by omega)]; exact g4, fun k k0 k1 => ?_, fun p p0 p7 => by rw [hx 69 p (by omega)]; exact g6 p p0 p7⟩
  rw [hx 53 k (by omega), hx 54 k (by omega), hx 55 k (by omega)]
  exact g5 k k0 k1
theorem p_holdsFor (h : mm_M) (s : Int) (hI : mm_Inv h) : mm_Pr mX9_holdsFor mX10_holdsFor [vI s] h mm_Inv := by
  have eR : ∀ x : mm_M, mm_call mX10_holdsFor [vR 47, vI s] x = if 0 ≤ s ∧ s < 6 then (mm_call mX10_layOr [vR 47, vI s] x).bind (fun w => mm_ev mX10_holdsFor 6 14 [some (vR 47), some (vI s), none, none, none, none] (w.1 ++ []) w.2) else some ([vI (-1)], x) := by
    intro x
    rw [X10_holdsFor_c, s_shelf, mm_be1]
    refine (X10_holdsFor_4 _ _ _).trans ?_
    by_cases hs : 0 ≤ s ∧ s < 6
    · rw [if_pos hs, if_pos (by decide), if_pos hs]
    · rw [if_neg hs, if_neg (fun w => w rfl), if_neg hs]
  by_cases hz : kWhy h s 0 = 0
  · obtain ⟨hs, -⟩ := kWhy0 hz
    obtain ⟨g, a1, -, a3, a4, a5, a6, a7, a8⟩ := mm_ctx h s hI hz
    obtain ⟨f, b1, b2, b3, b4, b5, b6, b7, b8, b9⟩ := a8 g mm_Sm.rf
    have ag := AG_of b3 b5.1 b8 b9
    have eR := eR g
    rw [if_pos hs, b1, mm_be1] at eR
    have eR := eR.trans (X10_holdsFor_14 _ _ _)
    rw [if_pos (by decide)] at eR
    obtain ⟨r, r1, r2⟩ := c_holdsL g s a6 a7
    have eC : mm_call mX9_holdsFor [vR 0, vI s] h = some ([vI r], g) := by
      rw [X9_holdsFor_c, a1, mm_be1]
      refine (X9_holdsFor_5 _ _ _).trans ?_
      rw [if_pos rfl]
      exact r2
    refine mm_Pr.of eC (eR.trans (s_holdsL f s _ r r1 (fun x v hx e v0 v9 => ?_))) b5
    have ag2 := ag.up13 hx
    refine ⟨_, s_homeMany x (b6.up13 hx v ⟨v0, v9⟩ e) (b7.up13 hx), ?_⟩
    have p : ∀ k : Int, 0 ≤ k ∧ k < 4 → (rPat x k = 1 ↔ need g k ≤ v) := fun k hk => by
      rw [← need_eq hk ag2 a7 e ⟨v0, v9⟩ a6]
      unfold rPat
      by_cases q : rHome x k
      · rw [if_pos q]
        exact ⟨fun _ => q, fun _ => rfl⟩
      · rw [if_neg q]
        exact ⟨fun w => absurd w (by decide), fun w => absurd w q⟩
    have c0 := rPat_b x 0
    have c1 := rPat_b x 1
    have c2 := rPat_b x 2
    have c3 := rPat_b x 3
    constructor
    · intro w k k0 k4
      rw [← p k ⟨k0, k4⟩]
      have : k = 0 ∨ k = 1 ∨ k = 2 ∨ k = 3 := by omega
      rcases this with rfl | rfl | rfl | rfl <;> omega
    · intro w
      have d0 := (p 0 (by decide)).2 (w 0 (by decide) (by decide))
      have d1 := (p 1 (by decide)).2 (w 1 (by decide) (by decide))
      have d2 := (p 2 (by decide)).2 (w 2 (by decide) (by decide))
      have d3 := (p 3 (by decide)).2 (w 3 (by decide) (by decide))
      omega
  · have eC : mm_call mX9_holdsFor [vR 0, vI s] h = some ([vI (kWhy h s 0)], h) := by
      rw [X9_holdsFor_c, lay_bad h s hz, mm_be1]
      exact (X9_holdsFor_5 _ _ _).trans (if_neg hz)
    refine mm_Pr.of eC ?_ hI
    rw [eR h]
    by_cases hs : 0 ≤ s ∧ s < 6
    · have ng := kWhy_neg hz
      rw [if_pos hs, rlay_bad h s hI hs hz, mm_be1]
      exact (X10_holdsFor_14 _ _ _).trans (if_neg (by omega))
    · rw [if_neg hs, kWhy_no hs]
