/-! the reference reads a route -/
abbrev qV (h : mm_M) (s j : Int) : Prop := (0 < qE h s j ∧ qE h s j < h 47 1) ∧ ∀ i : Int, 0 ≤ i → i < j → ¬ qE h s i = qE h s j
def mm_QR (h g : mm_M) (s n : Int) : Prop := 0 ≤ n ∧ n ≤ 6 ∧ n ≤ h 80 s ∧ g 47 35 = n ∧ ∀ j : Int, 0 ≤ j → j < n → qV h s j ∧ g 68 j = qE h s j
def mm_qfr (h g : mm_M) : Prop := ∀ c i, c ≠ 68 → ¬ (c = 47 ∧ i = 35) → g c i = h c i
def mm_QE (h : mm_M) (s n : Int) : Prop := n = h 80 s ∨ ¬ qV h s n
theorem qV6 {h : mm_M} {s n : Int} (n7 : h 47 1 ≤ 7) (v : ∀ j : Int, 0 ≤ j → j < n → qV h s j) : n ≤ 6 := by
  refine mm_php 6 (fun i => qE h s i) n (fun i i0 i1 => ?_) (fun i j i0 ij j1 => (v j (by omega) j1).2 i i0 ij)
  have := (v i i0 i1).1
  show 0 < qE h s i ∧ qE h s i ≤ _
  omega
theorem L_rread (h : mm_M) (s : Int) (hs : 0 ≤ s ∧ s < 6) (h60 : h 80 s ≤ 60) (p0 : 0 ≤ h 47 1) (n7 : h 47 1 ≤ 7) : ∀ (m : Nat) (k : Int) (o : Option mm_V) (g : mm_M), mm_QR h g s k → mm_qfr h g → h 80 s - k ≤ m → ∃ g' n a o', mm_ev mX10_layRoute 4 7 [some (vR 47), some (vI s), some (vI k), o] [] g = (mm_call mX10_goRoute [vR 47] g').bind (fun w => mm_ev mX10_layRoute 4 77 [some (vR 47), some (vI s), some (vI a), o'] (w.1 ++ []) w.2) ∧ mm_QR h g' s n ∧ mm_qfr h g' ∧ mm_QE h s n := by
  intro m
  induction m with
  | zero =>
    intro k o g hQ hf hm
    obtain ⟨a1, a2, a3, a4, a5⟩ := id hQ
    have g80 : ∀ i, g 80 i = h 80 i := fun i => hf 80 i (by decide) (by omega)
    refine ⟨g, k, k, o, ?_, hQ, hf, Or.inl (by omega)⟩
    rw [X10_layRoute_7, if_pos hs, g80, if_pos (by omega)]
  | succ m ih =>
    intro k o g hQ hf hm
    obtain ⟨a1, a2, a3, a4, a5⟩ := id hQ
    have g80 : ∀ i, g 80 i = h 80 i := fun i => hf 80 i (by decide) (by omega)
    have g81 : ∀ i, g 81 i = h 81 i := fun i => hf 81 i (by decide) (by omega)
    have g1 : g 47 1 = h 47 1 := hf 47 1 (by decide) (by omega)
    by_cases z : h 80 s ≤ k
    · refine ⟨g, k, k, o, ?_, hQ, hf, Or.inl (by omega)⟩
      rw [X10_layRoute_7, if_pos hs, g80, if_pos z]
    have w1 : w32 (60 * s) = 60 * s := w32_id (by unfold mm_r32; omega)
    have w2 : w32 (60 * s + k) = 60 * s + k := w32_id (by unfold mm_r32; omega)
    have w3 : w32 (h 47 1 - 1) = h 47 1 - 1 := w32_id (by unfold mm_r32; omega)
    have w4 : w32 (k + 1) = k + 1 := w32_id (by unfold mm_r32; omega)
    have rd : mm_ev mX10_layRoute 4 7 [some (vR 47), some (vI s), some (vI k), o] [] g = mm_ev mX10_layRoute 4 29 [some (vR 47), some (vI s), some (vI k), some (vI (qE h s k))] [vI (if 0 ≤ qE h s k ∧ qE h s k ≤ h 47 1 - 1 then 1 else 0)] g := by
      rw [X10_layRoute_7, if_pos hs, g80, if_neg z, X10_at_c, w1, w2, if_pos (by omega), g81, mm_bs]
      refine (X10_layRoute_23 _ _ _ _ _).trans ?_
      rw [s_isPost, ← w3, ← g1]
      rfl
    rw [rd, X10_layRoute_29]
    by_cases q1 : 0 ≤ qE h s k ∧ qE h s k ≤ h 47 1 - 1
    · rw [if_pos q1, if_neg (by decide)]
      by_cases q2 : qE h s k = 0
      · rw [if_pos q2]
        exact ⟨g, k, _, _, rfl, hQ, hf, Or.inr (fun v => by have := v.1; omega)⟩
      · rw [if_neg q2]
        rcases s_placeOf g (qE h s k) (by omega) (by omega) with ⟨j, j1, j2, j3, j4, j5⟩ | ⟨b1, b2⟩
        · rw [j4, mm_bs]
          refine ⟨g, k, k, some (vI (qE h s k)), ?_, hQ, hf, Or.inr (fun v => ?_)⟩
          · exact (X10_layRoute_41 _ _ _ _ _).trans (if_neg (by omega))
          · exact v.2 j j1 (by omega) ((a5 j j1 (by omega)).2.symm.trans j3)
        · have v : qV h s k := ⟨by omega, fun i i0 i1 e => b1 i i0 (by omega) ((a5 i i0 i1).2.trans e)⟩
          have k6 : k + 1 ≤ 6 := qV6 (s := s) n7 (fun j j0 j1 => by
            by_cases q : j = k
            · rw [q]
              exact v
            · exact (a5 j j0 (by omega)).1)
          rw [b2, mm_bs]
          obtain ⟨g', n, a, o', e1, e2, e3, e4⟩ := ih (k + 1) (some (vI (qE h s k))) (mUp (mUp g 68 k (qE h s k)) 47 35 (k + 1)) (by
            refine ⟨by omega, k6, by omega, rfl, fun j j0 j1 => ?_⟩
            show qV h s j ∧ (if 68 = 68 ∧ j = k then qE h s k else g 68 j) = qE h s j
            by_cases q : j = k
            · rw [q, if_pos ⟨rfl, rfl⟩]
              exact ⟨v, rfl⟩
            · rw [if_neg (fun w => q w.2)]
              exact a5 j j0 (by omega)) (by
            intro c i q3 q4
            rw [mUp_at, if_neg q4, mUp_ne q3]
            exact hf c i q3 q4) (by omega)
          refine ⟨g', n, a, o', ?_, e2, e3, e4⟩
          refine (X10_layRoute_41 _ _ _ _ _).trans ?_
          show (if (-1 : Int) < 0 then if 0 ≤ g 47 35 ∧ g 47 35 < 7 then mm_ev mX10_layRoute 4 7 [some (vR 47), some (vI s), some (vI (w32 (k + 1))), some (vI (qE h s k))] [] (mUp (mUp g 68 (g 47 35) (qE h s k)) 47 35 (w32 (g 47 35 + 1))) else none else _) = _
          rw [if_pos (by decide), a4, if_pos (by omega), w4]
          exact e1
    · rw [if_neg q1, if_pos rfl]
      exact ⟨g, k, _, _, rfl, hQ, hf, Or.inr (fun v => by have := v.1; omega)⟩
