/-! the class lays a route out -/
theorem mm_php : ∀ (b : Nat) (f : Int → Int) (n : Int), (∀ i : Int, 0 ≤ i → i < n → 0 < f i ∧ f i ≤ b) → (∀ i j : Int, 0 ≤ i → i < j → j < n → ¬ f i = f j) → n ≤ b := by
  intro b
  induction b with
  | zero =>
    intro f n h1 h2
    apply Classical.byContradiction
    intro w
    have := h1 0 (by omega) (by omega)
    omega
  | succ b ih =>
    intro f n h1 h2
    by_cases e : ∃ t : Int, 0 ≤ t ∧ t < n ∧ f t = (b : Int) + 1
    · obtain ⟨t, t0, t1, t2⟩ := e
      have := ih (fun i => if i < t then f i else f (i + 1)) (n - 1) (fun i i0 i1 => by
        show 0 < (if i < t then f i else f (i + 1)) ∧ (if i < t then f i else f (i + 1)) ≤ _
        by_cases q : i < t
        · rw [if_pos q]
          have a := h1 i i0 (by omega)
          have c := h2 i t i0 q t1
          omega
        · rw [if_neg q]
          have a := h1 (i + 1) (by omega) (by omega)
          have c := h2 t (i + 1) t0 (by omega) (by omega)
          omega) (fun i j i0 ij j1 => by
        show ¬ (if i < t then f i else f (i + 1)) = (if j < t then f j else f (j + 1))
        by_cases q : i < t
        · rw [if_pos q]
          by_cases q2 : j < t
          · rw [if_pos q2]
            exact h2 i j i0 ij (by omega)
          · rw [if_neg q2]
            exact h2 i (j + 1) i0 (by omega) (by omega)
        · rw [if_neg q, if_neg (by omega)]
          exact h2 (i + 1) (j + 1) (by omega) (by omega) (by omega))
      omega
    · have := ih f n (fun i i0 i1 => by
        have a := h1 i i0 i1
        have c : ¬ f i = (b : Int) + 1 := fun w => e ⟨i, i0, i1, w⟩
        omega) h2
      omega
/-- where a route ends -/
def mm_WE (h : mm_M) (s n : Int) : Prop := n = h 20 s ∨ ¬ rV h s n
theorem c_readFrom (h : mm_M) (s : Int) (hs : 0 ≤ s ∧ s < 6) (hk : h 19 s = 0) (h0 : 0 ≤ h 20 s) (h60 : h 20 s ≤ 60) (n7 : h 1 1 ≤ 7) (hb : ∀ i : Int, 0 ≤ i → i < 14 → 0 ≤ h 11 i ∧ h 11 i ≤ 99) : ∃ g n, mm_call mX8_readFrom [vR 4, vR 1, vR 3, vI s] h = some ([], g) ∧ mm_WR h g s n ∧ mm_wfr h g ∧ mm_WE h s n := by
  obtain ⟨g0, e1, e2, e3, e4⟩ := c_clear h
  obtain ⟨g, n, a1, a2, a3, a4⟩ := L_read h s hs hk h60 n7 hb 60 0 none g0 ⟨by omega, by omega, h0, e3, fun j j0 j1 => by omega, fun p p0 p1 _ => e4 p p0 p1⟩ (fun c i q1 q2 q3 q4 => e2 c i q2 q4) (by omega)
  refine ⟨g, n, ?_, a2, a3, ?_⟩
  · rw [X8a_readFrom_c, e1, mm_bs]
    exact (X8a_readFrom_4 _ _).trans a1
  · rcases a4 with q | q | q
    · exact Or.inl q
    · exact Or.inr q
    · refine Or.inr (fun v => ?_)
      have w := mm_php 6 (fun i => pE h s i) 7 (fun i i0 i1 => by
        have : rV h s i := by
          by_cases q2 : i = n
          · rw [q2]
            exact v
          · exact (a2.2.2.2.2.1 i i0 (by omega)).1
        have := this.1
        show 0 < pE h s i ∧ pE h s i ≤ _
        omega) (fun i j i0 ij j1 => by
        have : rV h s j := by
          by_cases q2 : j = n
          · rw [q2]
            exact v
          · exact (a2.2.2.2.2.1 j (by omega) (by omega)).1
        exact this.2 i i0 ij)
      omega
theorem c_layOut (h : mm_M) (s : Int) (hz : kWhy h s 0 = 0 → 0 ≤ h 20 s ∧ h 20 s ≤ 60) (n7 : h 1 1 ≤ 7) (hb : ∀ i : Int, 0 ≤ i → i < 14 → 0 ≤ h 11 i ∧ h 11 i ≤ 99) : (¬ kWhy h s 0 = 0 → mm_call mX9_layOut [vR 0, vI s] h = some ([vI (kWhy h s 0)], h)) ∧ (kWhy h s 0 = 0 → ∃ g n, mm_call mX9_layOut [vR 0, vI s] h = some ([vI 0], g) ∧ mm_WR h g s n ∧ mm_wfr h g ∧ mm_WE h s n) := by
  have e : mm_call mX9_layOut [vR 0, vI s] h = mm_ev mX9_layOut 5 9 [some (vR 0), some (vI s), none] [vI (kWhy h s 0)] h := by
    rw [X9_layOut_c, c_refusal, mm_bs]
    rfl
  rw [e, X9_layOut_9]
  refine ⟨fun w => ?_, fun w => ?_⟩
  · rw [if_pos w]
    exact X9_layOut_30 _ _ _
  · have hs : 0 ≤ s ∧ s < 6 := by
      apply Classical.byContradiction
      intro q
      unfold kWhy at w
      rw [if_neg q] at w
      omega
    have hk : h 19 s = 0 := by
      unfold kWhy at w
      rw [if_pos hs] at w
      by_cases q1 : h 19 s = -1
      · rw [if_pos q1] at w
        omega
      · rw [if_neg q1] at w
        by_cases q2 : h 19 s = 0
        · exact q2
        · rw [if_neg q2] at w
          omega
    obtain ⟨g, n, a1, a2, a3, a4⟩ := c_readFrom h s hs hk (hz w).1 (hz w).2 n7 hb
    refine ⟨g, n, ?_, a2, a3, a4⟩
    rw [if_neg (fun q => q w), a1, mm_bs, w]
    exact X9_layOut_30 _ _ _
