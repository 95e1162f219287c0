/-! posts -/
theorem lCmp_l (x : Int) : (lCmp x 0 < 0) = (x < 0) := by
  unfold lCmp
  apply propext
  repeat' split
  all_goals omega
theorem lCmp_g (x y : Int) : (0 ≤ lCmp x y) = (y ≤ x) := by
  unfold lCmp
  apply propext
  repeat' split
  all_goals omega
theorem c_read0 (h : mm_M) (s j : Int) (hs : 0 ≤ s ∧ s < 6) (hk : h 19 s = 0) (hj : 0 ≤ j ∧ j < h 20 s) (h60 : h 20 s ≤ 60) : mm_call mX7_read [vR 3, vI s, vI j] h = some ([vL (h 22 (s * 60 + j))], h) := by
  have w1 : w32 (s * 60) = s * 60 := w32_id (by unfold mm_r32; omega)
  have w2 : w32 (s * 60 + j) = s * 60 + j := w32_id (by unfold mm_r32; omega)
  have e : sWhy h s j = 0 := by
    unfold sWhy
    rw [if_pos hs, if_pos (by omega), if_pos hj]
  rw [X7_read_c, c_why, mm_bs]
  refine (X7_read_6 _ _ _ _).trans ?_
  rw [e, if_neg (fun w => w rfl), w1, w2, if_pos (by omega)]
def pE (h : mm_M) (s j : Int) : Int := w32 (h 22 (s * 60 + j))
abbrev pOk (h : mm_M) (s i k : Int) : Prop := h 1 1 < 7 ∧ 0 ≤ i ∧ i + 3 * k + 2 < h 20 s ∧ (0 ≤ pE h s (i + 3 * k) ∧ pE h s (i + 3 * k) ≤ 99) ∧ (0 ≤ pE h s (i + 3 * k + 1) ∧ pE h s (i + 3 * k + 1) ≤ 99) ∧ (0 ≤ pE h s (i + 3 * k + 2) ∧ pE h s (i + 3 * k + 2) ≤ 12)
theorem c_mb (h : mm_M) (w v : Int) (a : 0 ≤ w ∧ w ≤ 11) : mm_call mX4_mayBe [vR 1, vI w, vI v] h = some ([vI (if mm_ct 102 w ≤ v ∧ v ≤ mm_ct 103 w then 1 else 0)], h) := by
  rw [c_mayBe]
  by_cases e : mm_ct 102 w ≤ v ∧ v ≤ mm_ct 103 w
  · rw [if_pos e, if_pos ⟨a.1, a.2, e.1, e.2⟩]
  · rw [if_neg e, if_neg (fun w => e ⟨w.2.2.1, w.2.2.2⟩)]
theorem c_comes (h : mm_M) (s i k : Int) (hs : 0 ≤ s ∧ s < 6) (hk : h 19 s = 0) (h0 : 0 ≤ h 20 s) (h60 : h 20 s ≤ 60) (n0 : 0 ≤ h 1 1) (k0 : 0 ≤ k) (k7 : k ≤ 7) (hi : mm_r32 i) : mm_call mX9_comesFromRow [vR 0, vI s, vI i, vI k] h = if pOk h s i k then some ([vI 1], mm_en h (pE h s (i + 3 * k)) (pE h s (i + 3 * k + 1)) (pE h s (i + 3 * k + 2))) else some ([vI 0], h) := by
  unfold mm_r32 at hi
  have w1 : w32 (h 20 s - 3) = h 20 s - 3 := w32_id (by unfold mm_r32; omega)
  have w2 : w32 (3 * k) = 3 * k := w32_id (by unfold mm_r32; omega)
  rw [X9_comesFromRow_c, if_pos hs, w1, w2]
  by_cases a1 : 7 ≤ h 1 1
  · rw [if_pos a1, if_neg (fun w => by omega)]
  by_cases a2 : i < 0
  · rw [if_neg a1, if_pos a2, if_neg (fun w => by omega)]
  by_cases a3 : h 20 s - 3 < i
  · rw [if_neg a1, if_neg a2, if_pos a3, if_neg (fun w => by omega)]
  have w3 : w32 (i + 3 * k) = i + 3 * k := w32_id (by unfold mm_r32; omega)
  rw [if_neg a1, if_neg a2, if_neg a3, w3]
  by_cases a4 : i + 3 * k ≤ h 20 s - 3
  · have w4 : w32 (i + 3 * k + 1) = i + 3 * k + 1 := w32_id (by unfold mm_r32; omega)
    have w5 : w32 (i + 3 * k + 2) = i + 3 * k + 2 := w32_id (by unfold mm_r32; omega)
    rw [if_pos a4, c_read0 h s _ hs hk (by omega) h60, mm_bs]
    refine (X9_comesFromRow_64 _ _ _ _ _ _ _).trans ?_
    rw [w4, c_read0 h s _ hs hk (by omega) h60, mm_bs]
    refine (X9_comesFromRow_79 _ _ _ _ _ _ _ _).trans ?_
    rw [w5, c_read0 h s _ hs hk (by omega) h60, mm_bs]
    refine (X9_comesFromRow_94 _ _ _ _ _ _ _ _ _).trans ?_
    show (mm_call mX4_mayBe [vR 1, vI 0, vI (pE h s (i + 3 * k))] h).bind _ = _
    rw [c_mb h 0 _ (by decide), mm_bs]
    refine (X9_comesFromRow_107 _ _ _ _ _ _ _ _ _ _).trans ?_
    by_cases b1 : 0 ≤ pE h s (i + 3 * k) ∧ pE h s (i + 3 * k) ≤ 99
    · rw [if_pos (c := mm_ct 102 0 ≤ pE h s (i + 3 * k) ∧ pE h s (i + 3 * k) ≤ mm_ct 103 0) b1, if_neg (by decide)]
      show (mm_call mX4_mayBe [vR 1, vI 1, vI (pE h s (i + 3 * k + 1))] h).bind _ = _
      rw [c_mb h 1 _ (by decide), mm_bs]
      refine (X9_comesFromRow_120 _ _ _ _ _ _ _ _ _ _).trans ?_
      by_cases b2 : 0 ≤ pE h s (i + 3 * k + 1) ∧ pE h s (i + 3 * k + 1) ≤ 99
      · rw [if_pos (c := mm_ct 102 1 ≤ pE h s (i + 3 * k + 1) ∧ pE h s (i + 3 * k + 1) ≤ mm_ct 103 1) b2, if_neg (by decide)]
        show (mm_call mX4_mayBe [vR 1, vI 2, vI (pE h s (i + 3 * k + 2))] h).bind _ = _
        rw [c_mb h 2 _ (by decide), mm_bs]
        refine (X9_comesFromRow_133 _ _ _ _ _ _ _ _ _ _).trans ?_
        by_cases b3 : 0 ≤ pE h s (i + 3 * k + 2) ∧ pE h s (i + 3 * k + 2) ≤ 12
        · rw [if_pos (c := mm_ct 102 2 ≤ pE h s (i + 3 * k + 2) ∧ pE h s (i + 3 * k + 2) ≤ mm_ct 103 2) b3, if_pos (by decide), if_pos ⟨by omega, by omega, by omega, b1, b2, b3⟩]
          show (mm_call mX9_enlist [vR 0, vI (pE h s (i + 3 * k)), vI (pE h s (i + 3 * k + 1)), vI (pE h s (i + 3 * k + 2))] h).bind _ = _
          rw [c_enlist h _ _ _ ⟨n0, by omega⟩, mm_bs]
          exact X9_comesFromRow_148 _ _ _ _ _ _ _ _ _ _
        · rw [if_neg (c := mm_ct 102 2 ≤ pE h s (i + 3 * k + 2) ∧ pE h s (i + 3 * k + 2) ≤ mm_ct 103 2) b3, if_neg (fun w => w rfl), if_neg (fun w => b3 w.2.2.2.2.2)]
      · rw [if_neg (c := mm_ct 102 1 ≤ pE h s (i + 3 * k + 1) ∧ pE h s (i + 3 * k + 1) ≤ mm_ct 103 1) b2, if_pos rfl, if_neg (fun w => b2 w.2.2.2.2.1)]
    · rw [if_neg (c := mm_ct 102 0 ≤ pE h s (i + 3 * k) ∧ pE h s (i + 3 * k) ≤ mm_ct 103 0) b1, if_pos rfl, if_neg (fun w => b1 w.2.2.2.1)]
  · rw [if_neg a4, if_neg (fun w => by omega)]
