/-! shift -/
theorem L_shift1 (s i o j n : Int) (hs : 0 ≤ s ∧ s < 6) (hi : 0 ≤ i ∧ i + n ≤ 60) : ∀ (m : Nat) (k : Int) (h : mm_M), 0 ≤ k → k ≤ n → n - k ≤ m → ∃ h', mm_ev mX10_shift 3 113 [some (vR 47), some (vI s), some (vI i), some (vI o), some (vI j), some (vI n), some (vI k)] [] h = mm_ev mX10_shift 3 150 [some (vR 47), some (vI s), some (vI i), some (vI o), some (vI j), some (vI n), some (vI 0)] [] h' ∧ (∀ c, c ≠ 82 → h' c = h c) ∧ ∀ x, h' 82 x = if k ≤ x ∧ x < n then h 81 (60 * s + i + x) else h 82 x := by
  intro m
  induction m with
  | zero =>
    intro k h k0 kn hm
    refine ⟨h, ?_, fun _ _ => rfl, fun x => ?_⟩
    · rw [X10_shift_113, if_pos (by omega)]
    · rw [if_neg (by omega)]
  | succ m ih =>
    intro k h k0 kn hm
    by_cases z : n ≤ k
    · refine ⟨h, ?_, fun _ _ => rfl, fun x => ?_⟩
      · rw [X10_shift_113, if_pos z]
      · rw [if_neg (by omega)]
    · have w1 : w32 (60 * s) = 60 * s := w32_id (by unfold mm_r32; omega)
      have w2 : w32 (60 * s + i) = 60 * s + i := w32_id (by unfold mm_r32; omega)
      have w3 : w32 (60 * s + i + k) = 60 * s + i + k := w32_id (by unfold mm_r32; omega)
      have w4 : w32 (k + 1) = k + 1 := w32_id (by unfold mm_r32; omega)
      obtain ⟨h', e1, e2, e3⟩ := ih (k + 1) (mUp h 82 k (h 81 (60 * s + i + k))) (by omega) (by omega) (by omega)
      refine ⟨h', ?_, fun c hc => ?_, fun x => ?_⟩
      · rw [X10_shift_113, if_neg z, w1, w2, w3, w4, if_pos (by omega), if_pos (by omega), e1]
      · rw [e2 c hc, mUp_ne hc]
      · rw [e3 x, mUp_ne (c := 82) (c' := 81) (by decide), mUp_at]
        by_cases q : x = k
        · rw [if_neg (by omega), if_pos ⟨rfl, q⟩, if_pos (by omega), q]
        · rw [if_neg (c := 82 = 82 ∧ x = k) (fun w => q w.2)]
          by_cases q2 : k + 1 ≤ x ∧ x < n
          · rw [if_pos q2, if_pos (by omega)]
          · rw [if_neg q2, if_neg (by omega)]
theorem L_shift2 (s i o j n : Int) (ho : 0 ≤ o ∧ o < 6) (hj : 0 ≤ j ∧ j + n ≤ 60) : ∀ (m : Nat) (k : Int) (h : mm_M), 0 ≤ k → k ≤ n → n - k ≤ m → ∃ h', mm_ev mX10_shift 3 150 [some (vR 47), some (vI s), some (vI i), some (vI o), some (vI j), some (vI n), some (vI k)] [] h = some ([vI n], h') ∧ (∀ c, c ≠ 81 → h' c = h c) ∧ ∀ x, h' 81 x = if 60 * o + j + k ≤ x ∧ x < 60 * o + j + n then h 82 (x - (60 * o + j)) else h 81 x := by
  intro m
  induction m with
  | zero =>
    intro k h k0 kn hm
    refine ⟨h, ?_, fun _ _ => rfl, fun x => ?_⟩
    · rw [X10_shift_150, if_pos (by omega)]
    · rw [if_neg (by omega)]
  | succ m ih =>
    intro k h k0 kn hm
    by_cases z : n ≤ k
    · refine ⟨h, ?_, fun _ _ => rfl, fun x => ?_⟩
      · rw [X10_shift_150, if_pos z]
      · rw [if_neg (by omega)]
    · have w1 : w32 (60 * o) = 60 * o := w32_id (by unfold mm_r32; omega)
      have w2 : w32 (60 * o + j) = 60 * o + j := w32_id (by unfold mm_r32; omega)
      have w3 : w32 (60 * o + j + k) = 60 * o + j + k := w32_id (by unfold mm_r32; omega)
      have w4 : w32 (k + 1) = k + 1 := w32_id (by unfold mm_r32; omega)
      obtain ⟨h', e1, e2, e3⟩ := ih (k + 1) (mUp h 81 (60 * o + j + k) (h 82 k)) (by omega) (by omega) (by omega)
      refine ⟨h', ?_, fun c hc => ?_, fun x => ?_⟩
      · rw [X10_shift_150, if_neg z, w1, w2, w3, w4, if_pos (by omega), if_pos (by omega), e1]
      · rw [e2 c hc, mUp_ne hc]
      · rw [e3 x, mUp_ne (c := 81) (c' := 82) (by decide), mUp_at]
        by_cases q : x = 60 * o + j + k
        · rw [if_neg (by omega), if_pos ⟨rfl, q⟩, if_pos (by omega), q]
          congr 1
          omega
        · rw [if_neg (c := 81 = 81 ∧ x = 60 * o + j + k) (fun w => q w.2)]
          by_cases q2 : 60 * o + j + (k + 1) ≤ x ∧ x < 60 * o + j + n
          · rw [if_pos q2, if_pos (by omega)]
          · rw [if_neg q2, if_neg (by omega)]
/-- the class's shift -/
def sSh (h : mm_M) (s i o j n : Int) : Int := if 0 ≤ s ∧ s < 6 ∧ 0 ≤ o ∧ o < 6 then (if h 19 s = -1 ∨ h 19 o = -1 then -11 else if h 19 s = -2 ∨ ¬ h 19 o = h 19 s then -12 else if n < 0 ∨ i < 0 ∨ j < 0 ∨ h 20 s - n < i ∨ h 20 o - n < j then -13 else 0) else -1
theorem sSh_0 {h : mm_M} {s i o j n : Int} (z : sSh h s i o j n = 0) : 0 ≤ s ∧ s < 6 ∧ 0 ≤ o ∧ o < 6 ∧ ¬ h 19 s = -1 ∧ ¬ h 19 o = -1 ∧ ¬ h 19 s = -2 ∧ h 19 o = h 19 s ∧ 0 ≤ n ∧ 0 ≤ i ∧ 0 ≤ j ∧ i ≤ h 20 s - n ∧ j ≤ h 20 o - n := by
  unfold sSh at z
  repeat' split at z
  all_goals first | omega | (exfalso; omega)
theorem c_shift (h : mm_M) (s i o j n : Int) (hS : mm_RS h) (hn : mm_r32 n) : mm_call mX9_shift [vR 0, vI s, vI i, vI o, vI j, vI n] h = if sSh h s i o j n = 0 then some ([vI n], mCpy h 22 (s * 60 + i) 22 (o * 60 + j) n) else some ([vI (sSh h s i o j n)], h) := by
  unfold mm_r32 at hn
  by_cases a1 : 0 ≤ s ∧ s < 6
  · by_cases a2 : 0 ≤ o ∧ o < 6
    · obtain ⟨c1, c2, c3, c4, c5, c6, c7, c8⟩ := hS s a1.1 a1.2
      obtain ⟨d1, d2, d3, d4, d5, d6, d7, d8⟩ := hS o a2.1 a2.2
      have w0 : sSh h s i o j n = (if h 19 s = -1 ∨ h 19 o = -1 then -11 else if h 19 s = -2 ∨ ¬ h 19 o = h 19 s then -12 else if n < 0 ∨ i < 0 ∨ j < 0 ∨ h 20 s - n < i ∨ h 20 o - n < j then -13 else 0) := by unfold sSh; rw [if_pos ⟨a1.1, a1.2, a2.1, a2.2⟩]
      rw [w0]
      by_cases e1 : h 19 s = -1
      · simp [c_isShelf, mm_bs, X9_shift_c, X9_shift_8, X9_shift_19, X9_shift_38, X7_move_c, a1, a2, e1]
      · by_cases e2 : h 19 o = -1
        · simp [c_isShelf, mm_bs, X9_shift_c, X9_shift_8, X9_shift_19, X9_shift_38, X7_move_c, a1, a2, e1, e2]
        · by_cases e3 : h 19 s = -2
          · simp [c_isShelf, mm_bs, X9_shift_c, X9_shift_8, X9_shift_19, X9_shift_38, X7_move_c, a1, a2, e1, e2, e3]
          · by_cases e4 : h 19 o = h 19 s
            · by_cases g1 : n < 0
              · simp [c_isShelf, mm_bs, X9_shift_c, X9_shift_8, X9_shift_19, X9_shift_38, X7_move_c, a1, a2, e1, e3, e4, g1]
              · by_cases g2 : i < 0
                · simp [c_isShelf, mm_bs, X9_shift_c, X9_shift_8, X9_shift_19, X9_shift_38, X7_move_c, a1, a2, e1, e3, e4, g1, g2]
                · by_cases g3 : j < 0
                  · simp [c_isShelf, mm_bs, X9_shift_c, X9_shift_8, X9_shift_19, X9_shift_38, X7_move_c, a1, a2, e1, e3, e4, g1, g2, g3]
                  · have w1 : w32 (h 20 s - n) = h 20 s - n := w32_id (by unfold mm_r32; omega)
                    have w2 : w32 (h 20 o - n) = h 20 o - n := w32_id (by unfold mm_r32; omega)
                    by_cases g4 : h 20 s - n < i
                    · simp [c_isShelf, mm_bs, X9_shift_c, X9_shift_8, X9_shift_19, X9_shift_38, X7_move_c, a1, a2, e1, e3, e4, g1, g2, g3, w1, g4]
                    · by_cases g5 : h 20 o - n < j
                      · have g6 : ¬ j ≤ h 20 o - n := by omega
                        simp [c_isShelf, mm_bs, X9_shift_c, X9_shift_8, X9_shift_19, X9_shift_38, X7_move_c, a1, a2, e1, e3, e4, g1, g2, g3, w1, g4, w2, g5, g6]
                      · have g6 : j ≤ h 20 o - n := by omega
                        have w3 : w32 (s * 60) = s * 60 := w32_id (by unfold mm_r32; omega)
                        have w4 : w32 (o * 60) = o * 60 := w32_id (by unfold mm_r32; omega)
                        have w5 : w32 (s * 60 + i) = s * 60 + i := w32_id (by unfold mm_r32; omega)
                        have w6 : w32 (o * 60 + j) = o * 60 + j := w32_id (by unfold mm_r32; omega)
                        have b : 0 ≤ s * 60 + i ∧ 0 ≤ o * 60 + j ∧ 0 ≤ n ∧ s * 60 + i + n ≤ 360 ∧ o * 60 + j + n ≤ 360 := by omega
                        simp only [c_isShelf, mm_bs, mm_ap, mm_ap0, mm_b01, Classical.not_not, and_self, and_true, true_and, not_true_eq_false, not_false_eq_true, mm_10, ↓reduceIte, X9_shift_c, X9_shift_8, X9_shift_19, X9_shift_38, X7_move_c, a1, a2, e1, e3, e4, g1, g2, g3, w1, g4, w2, g5, g6, w3, w4, w5, w6, b]
                        simp
            · simp [c_isShelf, mm_bs, X9_shift_c, X9_shift_8, X9_shift_19, X9_shift_38, X7_move_c, a1, a2, e1, e2, e3, e4]
    · have w0 : sSh h s i o j n = -1 := by unfold sSh; rw [if_neg (fun q => a2 ⟨q.2.2.1, q.2.2.2⟩)]
      simp [c_isShelf, mm_bs, X9_shift_c, X9_shift_8, X9_shift_19, X9_shift_38, a1, a2, w0]
  · have w0 : sSh h s i o j n = -1 := by unfold sSh; rw [if_neg (fun q => a1 ⟨q.1, q.2.1⟩)]
    simp [c_isShelf, mm_bs, X9_shift_c, X9_shift_8, X9_shift_19, X9_shift_38, a1, w0]
theorem m_shiftN (h : mm_M) (s i o j n : Int) (hS : mm_RS h) (hn : mm_r32 n) (z0 : ¬ sSh h s i o j n = 0) : mm_call mX10_shift [vR 47, vI s, vI i, vI o, vI j, vI n] h = some ([vI (sSh h s i o j n)], h) := by
  unfold mm_r32 at hn
  by_cases a1 : 0 ≤ s ∧ s < 6
  · have b1 : 0 ≤ s ∧ s ≤ 5 := by omega
    by_cases a2 : 0 ≤ o ∧ o < 6
    · have b2 : 0 ≤ o ∧ o ≤ 5 := by omega
      obtain ⟨c1, c2, c3, c4, c5, c6, c7, c8⟩ := hS s a1.1 a1.2
      obtain ⟨d1, d2, d3, d4, d5, d6, d7, d8⟩ := hS o a2.1 a2.2
      have w0 : sSh h s i o j n = (if h 19 s = -1 ∨ h 19 o = -1 then -11 else if h 19 s = -2 ∨ ¬ h 19 o = h 19 s then -12 else if n < 0 ∨ i < 0 ∨ j < 0 ∨ h 20 s - n < i ∨ h 20 o - n < j then -13 else 0) := by unfold sSh; rw [if_pos ⟨a1.1, a1.2, a2.1, a2.2⟩]
      rw [w0] at z0 ⊢
      by_cases e1 : h 19 s = -1
      · rw [if_pos e1] at c3
        simp [s_isShelf, mm_bs, X10_shift_c, X10_shift_4, X10_shift_11, a1, b1, b2, e1, c3]
      · rw [if_neg e1] at c3
        have f1 : ¬ h 79 s = -1 := by
          rw [c3]
          by_cases q : h 19 s = -2
          · rw [if_pos q]; have := c4 q; omega
          · rw [if_neg q]; omega
        by_cases e2 : h 19 o = -1
        · rw [if_pos e2] at d3
          simp [s_isShelf, mm_bs, X10_shift_c, X10_shift_4, X10_shift_11, a1, a2, b1, b2, e1, e2, f1, d3]
        · rw [if_neg e2] at d3
          have f2 : ¬ h 79 o = -1 := by
            rw [d3]
            by_cases q : h 19 o = -2
            · rw [if_pos q]; have := d4 q; omega
            · rw [if_neg q]; omega
          by_cases e3 : h 19 s = -2
          · rw [if_pos e3] at c3
            have f3 : 0 ≤ h 79 s := by rw [c3]; exact (c4 e3).1
            simp [s_isShelf, mm_bs, X10_shift_c, X10_shift_4, X10_shift_11, a1, a2, b1, b2, e1, e2, e3, f1, f2, f3]
          · rw [if_neg e3] at c3
            have f3 : ¬ 0 ≤ h 79 s := by omega
            by_cases e4 : h 19 o = h 19 s
            · have f4 : h 79 s = h 79 o := by rw [c3, d3, if_neg (by omega), e4]
              obtain ⟨r1, r2⟩ := c8 (by omega)
              obtain ⟨t1, t2⟩ := d8 (by omega)
              rw [← f4] at f2
              by_cases g1 : n < 0
              · simp [s_isShelf, mm_bs, X10_shift_c, X10_shift_4, X10_shift_11, a1, a2, b1, b2, e1, e3, e4, f1, f3, ← f4, g1]
              · by_cases g2 : i < 0
                · simp [s_isShelf, mm_bs, X10_shift_c, X10_shift_4, X10_shift_11, a1, a2, b1, b2, e1, e3, e4, f1, f3, ← f4, g1, g2]
                · by_cases g3 : j < 0
                  · simp [s_isShelf, mm_bs, X10_shift_c, X10_shift_4, X10_shift_11, a1, a2, b1, b2, e1, e3, e4, f1, f3, ← f4, g1, g2, g3]
                  · have w1 : w32 (h 20 s - n) = h 20 s - n := w32_id (by unfold mm_r32; omega)
                    have w2 : w32 (h 20 o - n) = h 20 o - n := w32_id (by unfold mm_r32; omega)
                    by_cases g4 : h 20 s - n < i
                    · simp [s_isShelf, mm_bs, X10_shift_c, X10_shift_4, X10_shift_11, a1, a2, b1, b2, e1, e3, e4, f1, f3, ← f4, g1, g2, g3, r1, t1, w1, w2, g4]
                    · by_cases g5 : h 20 o - n < j
                      · have g6 : ¬ j ≤ h 20 o - n := by omega
                        simp [s_isShelf, mm_bs, X10_shift_c, X10_shift_4, X10_shift_11, a1, a2, b1, b2, e1, e3, e4, f1, f3, ← f4, g1, g2, g3, r1, t1, w1, w2, g4, g5, g6]
                      · exact absurd (by rw [if_neg (by omega), if_neg (by omega), if_neg (by omega)]) z0
            · have f4 : ¬ h 79 s = h 79 o := by
                rw [c3, d3]
                by_cases q : h 19 o = -2
                · rw [if_pos q]; have := d4 q; omega
                · rw [if_neg q]; omega
              simp [s_isShelf, mm_bs, X10_shift_c, X10_shift_4, X10_shift_11, a1, a2, b1, b2, e1, e2, e3, e4, f1, f2, f3, f4]
    · have b2 : ¬ (0 ≤ o ∧ o ≤ 5) := by omega
      have w0 : sSh h s i o j n = -1 := by unfold sSh; rw [if_neg (fun q => a2 ⟨q.2.2.1, q.2.2.2⟩)]
      simp [s_isShelf, mm_bs, X10_shift_c, X10_shift_4, X10_shift_11, b1, b2, w0]
  · have b1 : ¬ (0 ≤ s ∧ s ≤ 5) := by omega
    have w0 : sSh h s i o j n = -1 := by unfold sSh; rw [if_neg (fun q => a1 ⟨q.1, q.2.1⟩)]
    simp [s_isShelf, mm_bs, X10_shift_c, X10_shift_4, X10_shift_11, b1, w0]
theorem m_shift0 (g h : mm_M) (s i o j n : Int) (g9 : ∀ k, g 79 k = h 79 k) (g0 : ∀ k, g 80 k = h 80 k) (hS : mm_RS h) (hn : mm_r32 n) (z0 : sSh h s i o j n = 0) : ∃ f, mm_call mX10_shift [vR 47, vI s, vI i, vI o, vI j, vI n] g = some ([vI n], f) ∧ (∀ c, c ≠ 81 → c ≠ 82 → f c = g c) ∧ ∀ x, f 81 x = if 60 * o + j ≤ x ∧ x < 60 * o + j + n then g 81 (60 * s + i + (x - (60 * o + j))) else g 81 x := by
  unfold mm_r32 at hn
  obtain ⟨s0, s6, o0, o6, e1, e2, e3, e4, n0, i0, j0, q1, q2⟩ := sSh_0 z0
  have b1 : 0 ≤ s ∧ s ≤ 5 := by omega
  have b2 : 0 ≤ o ∧ o ≤ 5 := by omega
  obtain ⟨c1, c2, c3, c4, c5, c6, c7, c8⟩ := hS s s0 s6
  obtain ⟨d1, d2, d3, d4, d5, d6, d7, d8⟩ := hS o o0 o6
  rw [if_neg e1, if_neg e3] at c3
  rw [if_neg e2, if_neg (by omega)] at d3
  obtain ⟨r1, r2⟩ := c8 (by omega)
  obtain ⟨t1, t2⟩ := d8 (by omega)
  have w1 : w32 (h 20 s - n) = h 20 s - n := w32_id (by unfold mm_r32; omega)
  have w2 : w32 (h 20 o - n) = h 20 o - n := w32_id (by unfold mm_r32; omega)
  obtain ⟨f1, a1, a2, a3⟩ := L_shift1 s i o j n ⟨s0, s6⟩ ⟨i0, by omega⟩ 60 0 g (by omega) n0 (by omega)
  obtain ⟨f2, a4, a5, a6⟩ := L_shift2 s i o j n ⟨o0, o6⟩ ⟨j0, by omega⟩ 60 0 f1 (by omega) n0 (by omega)
  refine ⟨f2, ?_, fun c h1 h2 => by rw [a5 c h1, a2 c h2], fun x => ?_⟩
  · have m1 : 0 ≤ s ∧ s < 6 := ⟨s0, s6⟩
    have m2 : 0 ≤ o ∧ o < 6 := ⟨o0, o6⟩
    have x1 : ¬ -2 - h 19 s = -1 := by omega
    have x2 : ¬ 0 ≤ -2 - h 19 s := by omega
    have x3 : ¬ n < 0 := by omega
    have x4 : ¬ i < 0 := by omega
    have x5 : ¬ j < 0 := by omega
    have x6 : ¬ h 20 s - n < i := by omega
    simp only [s_isShelf, mm_bs, mm_ap, mm_ap0, mm_b01, Classical.not_not, and_self, and_true, true_and, not_true_eq_false, not_false_eq_true, mm_10, ↓reduceIte, X10_shift_c, X10_shift_4, X10_shift_11, m1, m2, b1, b2, g9, g0, c3, d3, e4, x1, x2, x3, x4, x5, r1, t1, w1, w2, x6, q2, a1, a4]
  · rw [a6 x, a2 81 (by decide), Int.add_zero]
    by_cases q : 60 * o + j ≤ x ∧ x < 60 * o + j + n
    · rw [if_pos q, if_pos q, a3, if_pos (by omega)]
    · rw [if_neg q, if_neg q]
theorem p_shift (h : mm_M) (s i o j n : Int) (hI : mm_Inv h) (hn : mm_r32 n) : mm_Pr mX9_shift mX10_shift [vI s, vI i, vI o, vI j, vI n] h mm_Inv := by
  obtain ⟨z1, z2, z3, z4, z5, hS, z7, z8⟩ := id hI
  have e1 := c_shift h s i o j n hS hn
  by_cases z0 : sSh h s i o j n = 0
  · rw [if_pos z0] at e1
    obtain ⟨s0, s6, o0, o6, y1, y2, y3, y4, n0, i0, j0, q1, q2⟩ := sSh_0 z0
    have gg : ∀ c, c ≠ 22 → mCpy h 22 (s * 60 + i) 22 (o * 60 + j) n c = h c := fun c hc => by funext k; unfold mCpy; rw [if_neg (fun w => hc w.1)]
    obtain ⟨f, f1, f2, f3⟩ := m_shift0 (mCpy h 22 (s * 60 + i) 22 (o * 60 + j) n) h s i o j n (fun k => by rw [gg 79 (by decide)]) (fun k => by rw [gg 80 (by decide)]) hS hn z0
    have ex : ∀ c, c ≠ 22 → c ≠ 81 → c ≠ 82 → f c = h c := fun c q q' q'' => by rw [f2 c q' q'', gg c q]
    have exd : ∀ {d : Nat → Int → Bool}, (∀ i, d 22 i = false) → (∀ i, d 81 i = false) → (∀ i, d 82 i = false) → ∀ c i, d c i = true → f c i = h c i := by
      intro d q1 q2 q3 c i w
      rw [ex c (fun e => by rw [e, q1] at w; cases w) (fun e => by rw [e, q2] at w; cases w) (fun e => by rw [e, q3] at w; cases w)]
    refine mm_Pr.of e1 f1 ⟨mm_RN_co (exd (fun _ => rfl) (fun _ => rfl) (fun _ => rfl)) z1, mm_RU_co (exd (fun _ => rfl) (fun _ => rfl) (fun _ => rfl)) z2, mm_RD_co (exd (fun _ => rfl) (fun _ => rfl) (fun _ => rfl)) z3, mm_RI_co (exd (fun _ => rfl) (fun _ => rfl) (fun _ => rfl)) z4, mm_RB_co (exd (fun _ => rfl) (fun _ => rfl) (fun _ => rfl)) z5, ?_, mm_RT_co (exd (fun _ => rfl) (fun _ => rfl) (fun _ => rfl)) z7, mm_RL_co (exd (fun _ => rfl) (fun _ => rfl) (fun _ => rfl)) z8⟩
    intro t t0 t1
    obtain ⟨d1, d2, d3, d4, d5, d6, d7, d8⟩ := hS t t0 t1
    rw [ex 19 (by decide) (by decide) (by decide), ex 20 (by decide) (by decide) (by decide), ex 21 (by decide) (by decide) (by decide), ex 79 (by decide) (by decide) (by decide), ex 80 (by decide) (by decide) (by decide), ex 10 (by decide) (by decide) (by decide)]
    refine ⟨d1, d2, d3, d4, d5, d6, d7, fun q => ⟨(d8 q).1, fun k k0 k1 => ?_⟩⟩
    have f22 : ∀ x, f 22 x = if o * 60 + j ≤ x ∧ x < o * 60 + j + n then h 22 (s * 60 + i + (x - (o * 60 + j))) else h 22 x := fun x => by
      rw [f2 22 (by decide) (by decide)]
      unfold mCpy
      by_cases w : o * 60 + j ≤ x ∧ x < o * 60 + j + n
      · rw [if_pos ⟨rfl, w⟩, if_pos w]
      · rw [if_neg (fun w' => w w'.2), if_neg w]
    rw [f3, f22, gg 81 (by decide)]
    by_cases w : o * 60 + j ≤ t * 60 + k ∧ t * 60 + k < o * 60 + j + n
    · have m60 := (hS o o0 o6).2.2.2.2.2.1
      have l60 := (hS s s0 s6).2.2.2.2.2.1
      have et : t = o := by omega
      subst et
      rw [if_pos (by omega), if_pos w]
      have hh := (hS s s0 s6).2.2.2.2.2.2.2 (by have := (hS s s0 s6).1; omega)
      have := hh.2 (i + (t * 60 + k - (t * 60 + j))) (by omega) (by omega)
      rw [show 60 * s + i + (60 * t + k - (60 * t + j)) = 60 * s + (i + (t * 60 + k - (t * 60 + j))) from by omega, show s * 60 + i + (t * 60 + k - (t * 60 + j)) = s * 60 + (i + (t * 60 + k - (t * 60 + j))) from by omega]
      exact ⟨this.1, this.2.1, fun q => this.2.2 (by omega)⟩
    · rw [if_neg (by omega), if_neg w]
      exact (d8 q).2 k k0 k1
  · rw [if_neg z0] at e1
    exact mm_Pr.of e1 (m_shiftN h s i o j n hS hn z0) hI
