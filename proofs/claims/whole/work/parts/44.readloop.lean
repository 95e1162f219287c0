/-! the class reads a route: the loop -/
theorem mm_wfr.e {h g : mm_M} (f : mm_wfr h g) {c : Nat} (a : c ≠ 23) (b : c ≠ 24) (d : c ≠ 25) (e : c ≠ 4) : g c = h c := by
  funext i
  exact f c i a b d (fun w => e w.1)
theorem L_read (h : mm_M) (s : Int) (hs : 0 ≤ s ∧ s < 6) (hk : h 19 s = 0) (h60 : h 20 s ≤ 60) (n7 : h 1 1 ≤ 7) (hb : ∀ i : Int, 0 ≤ i → i < 14 → 0 ≤ h 11 i ∧ h 11 i ≤ 99) : ∀ (m : Nat) (k : Int) (o : Option mm_V) (g : mm_M), mm_WR h g s k → mm_wfr h g → h 20 s - k ≤ m → ∃ g' n, mm_ev mX8_readFrom 4 7 [some (vR 4), some (vR 1), some (vR 3), some (vI s), some (vI k), o] [] g = some ([], g') ∧ mm_WR h g' s n ∧ mm_wfr h g' ∧ (n = h 20 s ∨ ¬ rV h s n ∨ n = 6) := by
  intro m
  induction m with
  | zero =>
    intro k o g hW hf hm
    have W := hW
    obtain ⟨a1, a2, a3, a4, a5, a6⟩ := W
    have g20 := hf.e (c := 20) (by decide) (by decide) (by decide) (by decide)
    refine ⟨g, k, ?_, hW, hf, Or.inl (by omega)⟩
    rw [X8a_readFrom_7, if_pos hs, g20, if_pos (by omega)]
  | succ m ih =>
    intro k o g hW hf hm
    have W := hW
    obtain ⟨a1, a2, a3, a4, a5, a6⟩ := W
    have g20 := hf.e (c := 20) (by decide) (by decide) (by decide) (by decide)
    have g19 := hf.e (c := 19) (by decide) (by decide) (by decide) (by decide)
    have g22 := hf.e (c := 22) (by decide) (by decide) (by decide) (by decide)
    have g1 := hf.e (c := 1) (by decide) (by decide) (by decide) (by decide)
    have g11 := hf.e (c := 11) (by decide) (by decide) (by decide) (by decide)
    by_cases z : h 20 s ≤ k
    · refine ⟨g, k, ?_, hW, hf, Or.inl (by omega)⟩
      rw [X8a_readFrom_7, if_pos hs, g20, if_pos z]
    by_cases z6 : 6 ≤ k
    · refine ⟨g, k, ?_, hW, hf, Or.inr (Or.inr (by omega))⟩
      rw [X8a_readFrom_7, if_pos hs, g20, if_neg z, a4, if_pos z6]
    have eE : w32 (h 22 (s * 60 + k)) = pE h s k := rfl
    have rd : mm_ev mX8_readFrom 4 7 [some (vR 4), some (vR 1), some (vR 3), some (vI s), some (vI k), o] [] g = if pE h s k = 0 then some ([], g) else mm_ev mX8_readFrom 4 48 [some (vR 4), some (vR 1), some (vR 3), some (vI s), some (vI k), some (vI (pE h s k))] [vI (if 0 ≤ pE h s k ∧ pE h s k < h 1 1 then 1 else 0)] g := by
      rw [X8a_readFrom_7, if_pos hs, g20, if_neg z, a4, if_neg z6, c_read0 g s k hs (by rw [g19]; exact hk) (by rw [g20]; omega) (by rw [g20]; omega), g22, mm_bs]
      refine (X8a_readFrom_34 _ _ _ _ _).trans ?_
      rw [eE]
      by_cases q : pE h s k = 0
      · rw [if_pos q, if_pos q]
      · rw [if_neg q, if_neg q, c_isPost, ← g1]
        rfl
    by_cases v : rV h s k
    · obtain ⟨⟨v1, v2⟩, v3⟩ := id v
      have p7 : 0 ≤ pE h s k ∧ pE h s k < 7 := by omega
      have s24 : g 24 (pE h s k) = -1 := a6 _ p7.1 p7.2 v3
      have at0 : wAt g = if k = 0 then 0 else pE h s (k - 1) := by
        unfold wAt
        rw [a4]
        by_cases q : k = 0
        · rw [if_pos q, if_pos q]
        · rw [if_neg q, if_neg q]
          exact (a5 (k - 1) (by omega) (by omega)).2.1
      have of0 : wOff g = if k = 0 then 0 else hv h s (k - 1) + 1 := by
        unfold wOff
        rw [at0, a4]
        by_cases q : k = 0
        · rw [if_pos q, if_pos q]
        · rw [if_neg q, if_neg q, if_neg q]
          rw [(a5 (k - 1) (by omega) (by omega)).2.2.2]
      have di : ∀ p q, wDi g p q = wDi h p q := fun p q => by unfold wDi; rw [g11]
      have hvk : wOff g + wDi g (wAt g) (pE h s k) = hv h s k := by
        rw [of0, at0, di]
        by_cases q : k = 0
        · rw [if_pos q, if_pos q, q, hv0]
          omega
        · rw [if_neg q, if_neg q]
          have := hv1 h s (k - 1) (by omega)
          rw [show k - 1 + 1 = k from by omega] at this
          exact this.symm
      have ha : 0 ≤ wAt g ∧ wAt g < 7 := by
        rw [at0]
        by_cases q : k = 0
        · rw [if_pos q]
          decide
        · rw [if_neg q]
          have := (a5 (k - 1) (by omega) (by omega)).1.1
          omega
      have ho : 0 ≤ wOff g ∧ wOff g ≤ 10000 := by
        rw [of0]
        by_cases q : k = 0
        · rw [if_pos q]
          decide
        · rw [if_neg q]
          have := hv_b (h := h) (s := s) n7 hb (k - 1).toNat (fun i i0 i1 => (a5 i i0 (by omega)).1)
          rw [show (((k - 1).toNat : Nat) : Int) = k - 1 from by omega] at this
          omega
      have go := c_goTo g (pE h s k) p7 (by omega) ha ho (by rw [g11]; exact hb)
      rw [hvk, a4] at go
      have w1 : w32 (k + 1) = k + 1 := w32_id (by unfold mm_r32; omega)
      obtain ⟨g', n, e1, e2, e3, e4⟩ := ih (k + 1) (some (vI (pE h s k))) (mUp (mUp (mUp (mUp g 25 (pE h s k) (hv h s k)) 24 (pE h s k) k) 23 k (pE h s k)) 4 0 (k + 1)) (by
        refine ⟨by omega, by omega, by omega, rfl, fun j j0 j1 => ?_, fun p p0 p1 pj => ?_⟩
        · show rV h s j ∧ (if 23 = 23 ∧ j = k then pE h s k else g 23 j) = pE h s j ∧ (if 24 = 24 ∧ pE h s j = pE h s k then k else g 24 (pE h s j)) = j ∧ (if 25 = 25 ∧ pE h s j = pE h s k then hv h s k else g 25 (pE h s j)) = hv h s j
          by_cases q : j = k
          · rw [q, if_pos ⟨rfl, rfl⟩, if_pos ⟨rfl, rfl⟩, if_pos ⟨rfl, rfl⟩]
            exact ⟨v, rfl, rfl, rfl⟩
          · have ne := v3 j j0 (by omega)
            rw [if_neg (fun w => q w.2), if_neg (fun w => ne w.2), if_neg (fun w => ne w.2)]
            exact a5 j j0 (by omega)
        · show (if 24 = 24 ∧ p = pE h s k then k else g 24 p) = -1
          rw [if_neg (fun w => pj k a1 (by omega) w.2.symm)]
          exact a6 p p0 p1 (fun j j0 j1 => pj j j0 (by omega))) (by
        intro c i q1 q2 q3 q4
        rw [mUp_at, if_neg q4, mUp_ne q1, mUp_ne q2, mUp_ne q3]
        exact hf c i q1 q2 q3 q4) (by omega)
      refine ⟨g', n, ?_, e2, e3, e4⟩
      rw [rd, if_neg (by omega), if_pos (by omega)]
      refine (X8a_readFrom_48 _ _ _ _ _).trans ?_
      rw [if_neg (by decide), if_pos p7, s24, if_pos (by decide), go, mm_bs]
      refine (X8a_readFrom_69 _ _ _ _).trans ?_
      rw [w1]
      exact e1
    · refine ⟨g, k, ?_, hW, hf, Or.inr (Or.inl v)⟩
      rw [rd]
      by_cases q : pE h s k = 0
      · rw [if_pos q]
      · rw [if_neg q]
        refine (X8a_readFrom_48 _ _ _ _ _).trans ?_
        by_cases q2 : 0 ≤ pE h s k ∧ pE h s k < h 1 1
        · rw [if_pos q2, if_neg (by decide), if_pos (by omega)]
          have : ∃ i : Int, 0 ≤ i ∧ i < k ∧ pE h s i = pE h s k := by
            apply Classical.byContradiction
            intro w
            exact v ⟨by omega, fun i i0 i1 e => w ⟨i, i0, i1, e⟩⟩
          obtain ⟨i, i0, i1, e⟩ := this
          have t := (a5 i i0 i1).2.2.1
          rw [e] at t
          rw [if_neg (by omega)]
        · rw [if_neg q2, if_pos rfl]
