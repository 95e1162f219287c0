/-! of: which numbers there are -/
theorem mm_w12 {w : Int} (a : 0 ≤ w) (b : w ≤ 11) : w = 0 ∨ w = 1 ∨ w = 2 ∨ w = 3 ∨ w = 4 ∨ w = 5 ∨ w = 6 ∨ w = 7 ∨ w = 8 ∨ w = 9 ∨ w = 10 ∨ w = 11 := by omega
def mm_vb (h : mm_M) (w : Int) : Int := if w ≤ 2 then h 1 1 else mm_ct 101 w
abbrev mm_wz (h : mm_M) (k w : Int) : Prop := 0 ≤ w ∧ w ≤ 11 ∧ 0 ≤ k ∧ k < mm_vb h w
theorem mm_wz.wk {h : mm_M} {k w : Int} (n : h 1 1 ≤ 7) (z : mm_wz h k w) : mm_wk w k := by
  obtain ⟨a, b, c, d⟩ := z
  refine ⟨a, by omega, c, ?_⟩
  unfold mm_vb at d
  by_cases q : w ≤ 2
  · rw [if_pos q] at d
    have : w = 0 ∨ w = 1 ∨ w = 2 := by omega
    have e : mm_ct 101 w = 7 := by rcases this with rfl | rfl | rfl <;> rfl
    omega
  · rw [if_neg q] at d
    exact d
theorem mm_cell {w k : Int} (z : mm_wk w k) : 0 ≤ mm_ct 100 w + k ∧ mm_ct 100 w + k < 57 ∧ 0 ≤ mm_ct 100 w := by
  obtain ⟨a, b, c, d⟩ := z
  rcases mm_w12 a (by omega) with rfl | rfl | rfl | rfl | rfl | rfl | rfl | rfl | rfl | rfl | rfl | rfl <;> simp [mm_ct] at d ⊢ <;> omega
theorem c_cellOf (h : mm_M) (k w : Int) (n : h 1 1 ≤ 7) : mm_call mX4_cellOf [vR 1, vI k, vI w] h = some ([vI (if mm_wz h k w then mm_ct 100 w + k else -1)], h) := by
  by_cases z : mm_wz h k w
  · obtain ⟨u1, u2, u3⟩ := mm_cell (z.wk n)
    have w1 : w32 (mm_ct 100 w + k) = mm_ct 100 w + k := w32_id (by unfold mm_r32; omega)
    rw [if_pos z]
    obtain ⟨a, b, c, d⟩ := z
    unfold mm_vb at d
    have a1 : ¬ w < 0 := by omega
    have a2 : ¬ 11 < w := by omega
    by_cases q : w ≤ 2
    · rw [if_pos q] at d
      rw [X4_cellOf_c, if_neg a1, if_neg a2, if_pos c, if_neg (by omega), X4_cellOf_33, if_neg (by omega), if_pos (by omega), w1]
    · rw [if_neg q] at d
      rw [X4_cellOf_c, if_neg a1, if_neg a2, if_pos c, if_pos (by omega), if_pos (by omega), X4_cellOf_33, if_neg (by omega), if_pos (by omega), w1]
  · rw [if_neg z]
    rw [X4_cellOf_c]
    by_cases a1 : w < 0
    · rw [if_pos a1]
    · by_cases a2 : 11 < w
      · rw [if_neg a1, if_pos a2]
      · by_cases c : 0 ≤ k
        · by_cases q : w ≤ 2
          · have d : h 1 1 ≤ k := by
              apply Classical.byContradiction
              intro d
              exact z ⟨by omega, by omega, c, by unfold mm_vb; rw [if_pos q]; omega⟩
            rw [if_neg a1, if_neg a2, if_pos c, if_neg (by omega), X4_cellOf_33, if_pos d]
          · have d : mm_ct 101 w ≤ k := by
              apply Classical.byContradiction
              intro d
              exact z ⟨by omega, by omega, c, by unfold mm_vb; rw [if_neg q]; omega⟩
            rw [if_neg a1, if_neg a2, if_pos c, if_pos (by omega), if_pos (by omega), X4_cellOf_33, if_pos d]
        · rw [if_neg a1, if_neg a2, if_neg c]
theorem s_isOne (h : mm_M) (k w : Int) (n1 : h 47 1 = h 1 1) (n0 : 0 ≤ h 1 1) (n : h 1 1 ≤ 7) : mm_call mX10_isOne [vR 47, vI k, vI w] h = some ([vI (if mm_wz h k w then 1 else 0)], h) := by
  have w1 : w32 (h 47 1 - 1) = h 1 1 - 1 := by rw [n1]; exact w32_id (by unfold mm_r32; omega)
  have r1 : (k ≤ h 1 1 - 1) = (k < h 1 1) := propext ⟨fun _ => by omega, fun _ => by omega⟩
  have r2 : (k ≤ 9) = (k < 10) := propext ⟨fun _ => by omega, fun _ => by omega⟩
  have r3 : (k ≤ 3) = (k < 4) := propext ⟨fun _ => by omega, fun _ => by omega⟩
  have r4 : (0 ≤ k ∧ k < 1) = (k = 0) := propext ⟨fun _ => by omega, fun _ => by omega⟩
  have w2 : ∀ p : Prop, [Decidable p] → ((if p then (1 : Int) else 0) = 0 ∨ (if p then (1 : Int) else 0) = 1) = True := fun p _ => by by_cases z : p <;> simp [z]
  by_cases a : 0 ≤ w ∧ w ≤ 11
  · rcases mm_w12 a.1 a.2 with rfl | rfl | rfl | rfl | rfl | rfl | rfl | rfl | rfl | rfl | rfl | rfl <;> simp [s_in, s_isPost, s_isWord, mm_bs, mm_wz, mm_vb, mm_ct, X10_isOne_c, X10_isOne_6, X10_isOne_14, X10_isOne_21, X10_isOne_28, X10_isOne_36, X10_isOne_45, X10_isOne_56, w1, w2, r1, r2, r3, r4]
    all_goals first | (by_cases y : k = 0 <;> simp [y] <;> done) | (repeat' split <;> first | rfl | (exfalso; omega))
  · have a1 : ¬ (0 ≤ w ∧ w ≤ 2) := by omega
    have a2 : ¬ (3 ≤ w ∧ w ≤ 4) := by omega
    have a3 : ¬ (5 ≤ w ∧ w ≤ 7) := by omega
    have a4 : ¬ (8 ≤ w ∧ w ≤ 11) := by omega
    have a5 : ¬ mm_wz h k w := fun q => a ⟨q.1, q.2.1⟩
    simp [s_in, mm_bs, X10_isOne_c, X10_isOne_6, X10_isOne_14, X10_isOne_21, X10_isOne_28, X10_isOne_36, X10_isOne_45, X10_isOne_56, a1, a2, a3, a4, a5]
theorem s_valueAt (h : mm_M) (w k : Int) (z : mm_wk w k) : mm_call mX10_valueAt [vR 47, vI w, vI k] h = some ([vI (mm_vAt h w k)], h) := by
  obtain ⟨a, b, c, d⟩ := z
  rcases mm_w12 a (by omega) with rfl | rfl | rfl | rfl | rfl | rfl | rfl | rfl | rfl | rfl | rfl | rfl <;> simp [mm_ct] at d <;> simp [mm_vAt, X10_valueAt_c, c, d]
theorem s_mayBe (h : mm_M) (w v : Int) (a : 0 ≤ w ∧ w ≤ 11) : mm_call mX10_mayBe [vI w, vI v] h = some ([vI (if mm_ct 102 w ≤ v ∧ v ≤ mm_ct 103 w then 1 else 0)], h) := by
  have w2 : ∀ p : Prop, [Decidable p] → ((if p then (1 : Int) else 0) = 0 ∨ (if p then (1 : Int) else 0) = 1) = True := fun p _ => by by_cases z : p <;> simp [z]
  rcases mm_w12 a.1 a.2 with rfl | rfl | rfl | rfl | rfl | rfl | rfl | rfl | rfl | rfl | rfl | rfl <;> simp [s_in, s_isWord, mm_bs, mm_ct, X10_mayBe_c, X10_mayBe_63, X10_mayBe_71, X10_mayBe_79, X10_mayBe_87, X10_mayBe_92, X10_mayBe_100, X10_mayBe_105, X10_mayBe_110, X10_mayBe_119, w2]
theorem p_of (h : mm_M) (k w : Int) (hI : mm_Inv h) : mm_Pr mX9_of mX10_of [vI k, vI w] h mm_Inv := by
  obtain ⟨z1, z2, z3, z4⟩ := id hI
  obtain ⟨n0, n7, n1, nv⟩ := id z1
  obtain ⟨d1, d2, d3, d4, d5⟩ := id z3
  have w1 : w32 (h 1 1 - 1) = h 1 1 - 1 := w32_id (by unfold mm_r32; omega)
  by_cases q1 : w = 12
  · subst q1
    by_cases q2 : 0 ≤ k ∧ k < h 1 1
    · have q3 : 0 ≤ k ∧ k ≤ h 1 1 - 1 := by omega
      have q4 : 0 ≤ k ∧ k < 7 := by omega
      refine mm_Pr.of (v := vI (h 37 k)) (h1 := h) (h2 := h) ?_ ?_ hI
      · simp [c_isPost, mm_bs, X9_of_c, X9_of_14, X9_of_62, q2, q4]
      · simp [s_isPost, mm_bs, X10_of_c, X10_of_11, X10_of_50, X10_of_59, w1, n1, q3, q4]
        exact (d4 k q2.1 q2.2).1
    · have q3 : ¬ (0 ≤ k ∧ k ≤ h 1 1 - 1) := by omega
      refine mm_Pr.of (v := vI (-1)) (h1 := h) (h2 := h) ?_ ?_ hI
      · simp [c_isPost, mm_bs, X9_of_c, X9_of_14, X9_of_62, q2]
      · simp [s_isPost, mm_bs, X10_of_c, X10_of_11, X10_of_50, X10_of_59, w1, n1, q3]
  · by_cases q2 : w = 13
    · subst q2
      by_cases q3 : k = 0
      · refine mm_Pr.of (v := vI (h 9 0)) (h1 := h) (h2 := h) ?_ ?_ hI
        · simp [X9_of_c, q3]
        · simp [X10_of_c, q3, d1]
      · refine mm_Pr.of (v := vI (-1)) (h1 := h) (h2 := h) ?_ ?_ hI
        · simp [X9_of_c, q3]
        · simp [X10_of_c, q3]
    · by_cases q3 : mm_wz h k w
      · obtain ⟨u1, u2, u3⟩ := mm_cell (q3.wk n7)
        refine mm_Pr.of (v := vI (h 11 (mm_ct 100 w + k))) (h1 := h) (h2 := h) ?_ ?_ hI
        · rw [X9_of_c, if_pos q1, if_pos q2, c_cellOf h k w n7, if_pos q3, mm_bs]
          refine (X9_of_62 _ _ _ _).trans ?_
          rw [if_pos u1, if_pos ⟨u1, u2⟩]
        · rw [X10_of_c, if_pos q1, if_pos q2, s_isOne h k w n1 n0 n7, if_pos q3, mm_bs]
          refine (X10_of_50 _ _ _ _).trans ?_
          rw [if_neg (by decide), s_valueAt h w k (q3.wk n7), mm_bs]
          refine (X10_of_59 _ _ _ _).trans ?_
          rw [(nv w k (q3.wk n7)).1]
      · refine mm_Pr.of (v := vI (-1)) (h1 := h) (h2 := h) ?_ ?_ hI
        · rw [X9_of_c, if_pos q1, if_pos q2, c_cellOf h k w n7, if_neg q3, mm_bs]
          exact (X9_of_62 _ _ _ _).trans (if_neg (by decide))
        · rw [X10_of_c, if_pos q1, if_pos q2, s_isOne h k w n1 n0 n7, if_neg q3, mm_bs]
          exact (X10_of_50 _ _ _ _).trans (if_pos rfl)
