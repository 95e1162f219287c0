/-! body, trace, count, feed, keep, element, put -/
theorem c_body (h : mm_M) (k : Int) (hb : 0 ≤ h 10 0 ∧ h 10 0 ≤ 50) : mm_call mX9_body [vR 0, vI k] h = if 0 ≤ k ∧ k ≤ 7 then (if h 10 0 < 50 then some ([vI (h 10 0)], mUp (mUp h 46 (h 10 0) k) 10 0 (h 10 0 + 1)) else some ([vI (-3)], h)) else some ([vI (-1)], h) := by
  have w1 : w32 (h 10 0 + 1) = h 10 0 + 1 := w32_id (by unfold mm_r32; omega)
  have w2 : w32 (h 10 0) = h 10 0 := w32_id (by unfold mm_r32; omega)
  by_cases z : 0 ≤ k ∧ k ≤ 7
  · have a1 : ¬ k < 0 := by omega
    have a2 : k < 8 := by omega
    by_cases q : h 10 0 < 50
    · simp [X9_body_c, X9_body_8, X0_add_c, mm_bs, mUp_at, z, a1, a2, q, hb.1, w1, w2]
    · simp [X9_body_c, X9_body_8, X0_add_c, mm_bs, mUp_at, z, a1, a2, q]
  · by_cases a1 : k < 0
    · simp [X9_body_c, X9_body_8, X0_add_c, mm_bs, z, a1]
    · have a2 : ¬ k < 8 := by omega
      simp [X9_body_c, X9_body_8, X0_add_c, mm_bs, z, a1, a2]
theorem m_body (h : mm_M) (k : Int) (hb : 0 ≤ h 47 49 ∧ h 47 49 ≤ 50) : mm_call mX10_body [vR 47, vI k] h = if 0 ≤ k ∧ k ≤ 7 then (if h 47 49 < 50 then some ([vI (h 47 49)], mUp (mUp h 77 (h 47 49) k) 47 49 (h 47 49 + 1)) else some ([vI (-3)], h)) else some ([vI (-1)], h) := by
  have w1 : w32 (h 47 49 + 1) = h 47 49 + 1 := w32_id (by unfold mm_r32; omega)
  have w2 : w32 (h 47 49) = h 47 49 := w32_id (by unfold mm_r32; omega)
  by_cases z : 0 ≤ k ∧ k ≤ 7
  · by_cases q : h 47 49 < 50
    · have q2 : ¬ h 47 49 = 50 := by omega
      simp [X10_body_c, X10_body_7, s_in, mm_bs, mUp_at, z, q, q2, hb.1, w1, w2]
    · have q2 : h 47 49 = 50 := by omega
      simp [X10_body_c, X10_body_7, s_in, mm_bs, mUp_at, z, q2]
  · simp [X10_body_c, X10_body_7, s_in, mm_bs, mUp_at, z]
theorem p_body (h : mm_M) (k : Int) (hI : mm_Inv h) : mm_Pr mX9_body mX10_body [vI k] h mm_Inv := by
  obtain ⟨z1, z2, z3, z4, ⟨b1, b2, b3, b4, b5, b6, b7, b8⟩, z6, z7, z8⟩ := id hI
  have e1 := c_body h k ⟨b2, b3⟩
  by_cases z : 0 ≤ k ∧ k ≤ 7
  · rw [if_pos z] at e1
    by_cases q : h 10 0 < 50
    · rw [if_pos q] at e1
      have e2 := m_body (mUp (mUp h 46 (h 10 0) k) 10 0 (h 10 0 + 1)) k (by show 0 ≤ h 47 49 ∧ h 47 49 ≤ 50; omega)
      change _ = (if 0 ≤ k ∧ k ≤ 7 then (if h 47 49 < 50 then some ([vI (h 47 49)], mUp (mUp (mUp (mUp h 46 (h 10 0) k) 10 0 (h 10 0 + 1)) 77 (h 47 49) k) 47 49 (h 47 49 + 1)) else _) else _) at e2
      rw [if_pos z, b1, if_pos q] at e2
      refine mm_Pr.of e1 e2 ⟨mm_RN_co (by repeat (first | exact fun _ _ _ => rfl | refine mm_co1 rfl ?_ | refine mm_co2 (fun _ => rfl) ?_)) z1, mm_RU_co (by repeat (first | exact fun _ _ _ => rfl | refine mm_co1 rfl ?_ | refine mm_co2 (fun _ => rfl) ?_)) z2, mm_RD_co (by repeat (first | exact fun _ _ _ => rfl | refine mm_co1 rfl ?_ | refine mm_co2 (fun _ => rfl) ?_)) z3, mm_RI_co (by repeat (first | exact fun _ _ _ => rfl | refine mm_co1 rfl ?_ | refine mm_co2 (fun _ => rfl) ?_)) z4, ?_, ?_, mm_RT_co (by repeat (first | exact fun _ _ _ => rfl | refine mm_co1 rfl ?_ | refine mm_co2 (fun _ => rfl) ?_)) z7, mm_RL_co (by repeat (first | exact fun _ _ _ => rfl | refine mm_co1 rfl ?_ | refine mm_co2 (fun _ => rfl) ?_)) z8⟩
      · unfold mm_RB
        simp [mUp_at]
        refine ⟨by omega, by omega, fun i i0 i1 => ?_, b5, b6, b7, b8⟩
        by_cases e : i = h 10 0
        · subst e; simp; omega
        · simp [e]; exact b4 i i0 (by omega)
      · unfold mm_RS
        intro s s0 s1
        obtain ⟨c1, c2, c3, c4, c5⟩ := z6 s s0 s1
        simp [mUp_at]
        exact ⟨c1, c2, c3, fun q => ⟨(c4 q).1, by have := (c4 q).2; omega⟩, c5⟩
    · rw [if_neg q] at e1
      have e2 := m_body h k (by omega)
      rw [if_pos z, b1, if_neg q] at e2
      exact mm_Pr.of e1 e2 hI
  · rw [if_neg z] at e1
    have e2 := m_body h k (by omega)
    rw [if_neg z] at e2
    exact mm_Pr.of e1 e2 hI
theorem p_trace (h : mm_M) (i : Int) (hI : mm_Inv h) : mm_Pr mX9_trace mX10_trace [vI i] h mm_Inv := by
  obtain ⟨b1, b2, b3, b4, b5, b6, b7, b8⟩ := hI.2.2.2.2.1
  by_cases z : 0 ≤ i ∧ i < h 10 1 ∧ i < 24
  · have a1 : ¬ i < 0 := by omega
    have a2 : ¬ h 10 1 ≤ i := by omega
    have a3 : ¬ 24 ≤ i := by omega
    refine mm_Pr.of (v := vI (h 45 i)) (h1 := h) (h2 := h) ?_ ?_ hI
    · simp [X9_trace_c, a1, a2, z]
    · rw [← b8 i z.1 z.2.1 z.2.2]
      simp [X10_trace_c, a1, a2, a3, z, b5]
  · refine mm_Pr.of (v := vI (-1)) (h1 := h) (h2 := h) ?_ ?_ hI
    · simp only [X9_trace_c]
      repeat' split
      all_goals first | rfl | (exfalso; omega)
    · simp only [X10_trace_c, b5]
      repeat' split
      all_goals first | rfl | (exfalso; omega)
theorem p_count (h : mm_M) (i : Int) (hI : mm_Inv h) : mm_Pr mX9_count mX10_count [vI i] h mm_Inv := by
  have n1 := hI.1.2.2.1
  have u1 := hI.2.1.1
  have t1 := hI.2.2.2.2.2.2.1.1
  have b1 := hI.2.2.2.2.1.1
  have b5 := hI.2.2.2.2.1.2.2.2.2.1
  have e2 : mm_call mX10_count [vR 47, vI i] h = mm_call mX9_count [vR 0, vI i] h := by simp only [X10_count_c, X9_count_c, n1, u1, t1, b1, b5]
  have e1 : ∃ v, mm_call mX9_count [vR 0, vI i] h = some ([v], h) := by
    simp only [X9_count_c]
    repeat' split
    all_goals exact ⟨_, rfl⟩
  obtain ⟨v, e1⟩ := e1
  exact mm_Pr.of e1 (e2.trans e1) hI
theorem w8_w8 (x : Int) : w8 (w8 x) = w8 x := by unfold w8; omega
theorem c_feed (h : mm_M) (k : Int) (hb : 0 ≤ h 2 0 ∧ h 2 0 ≤ 120) : mm_call mX9_feed [vR 0, vI k] h = if 0 ≤ k ∧ k ≤ 255 then (if h 2 0 < 120 then some ([vI (h 2 0 + 1)], mUp (mUp h 15 (h 2 0) k) 2 0 (h 2 0 + 1)) else some ([vI (-3)], h)) else some ([vI (-1)], h) := by
  have w1 : w32 (h 2 0 + 1) = h 2 0 + 1 := w32_id (by unfold mm_r32; omega)
  by_cases z : 0 ≤ k ∧ k ≤ 255
  · have a1 : ¬ k < 0 := by omega
    by_cases q : h 2 0 < 120
    · simp [X9_feed_c, X9_feed_8, X3_take_c, mm_bs, mUp_at, z, a1, q, hb.1, w1]
    · simp [X9_feed_c, X9_feed_8, X3_take_c, mm_bs, mUp_at, z, a1, q]
  · by_cases a1 : k < 0
    · simp [X9_feed_c, X9_feed_8, X3_take_c, mm_bs, z, a1]
    · have a2 : ¬ k ≤ 255 := by omega
      simp [X9_feed_c, X9_feed_8, X3_take_c, mm_bs, z, a1, a2]
theorem m_feed (h : mm_M) (k : Int) (hb : 0 ≤ h 47 21 ∧ h 47 21 ≤ 120) : mm_call mX10_feed [vR 47, vI k] h = if 0 ≤ k ∧ k ≤ 255 then (if h 47 21 < 120 then some ([vI (h 47 21 + 1)], mUp (mUp h 60 (h 47 21) (w8 k)) 47 21 (h 47 21 + 1)) else some ([vI (-3)], h)) else some ([vI (-1)], h) := by
  have w1 : w32 (h 47 21 + 1) = h 47 21 + 1 := w32_id (by unfold mm_r32; omega)
  by_cases z : 0 ≤ k ∧ k ≤ 255
  · by_cases q : h 47 21 < 120
    · have q2 : ¬ h 47 21 = 120 := by omega
      simp [X10_feed_c, X10_feed_8, s_in, mm_bs, mUp_at, z, q, q2, hb.1, w1, w8_w8]
    · have q2 : h 47 21 = 120 := by omega
      simp [X10_feed_c, X10_feed_8, s_in, mm_bs, mUp_at, z, q2]
  · simp [X10_feed_c, X10_feed_8, s_in, mm_bs, mUp_at, z]
theorem p_feed (h : mm_M) (k : Int) (hI : mm_Inv h) : mm_Pr mX9_feed mX10_feed [vI k] h mm_Inv := by
  obtain ⟨z1, z2, z3, z4, z5, z6, ⟨t1, t2, t3, t4⟩, z8⟩ := id hI
  have e1 := c_feed h k ⟨t2, t3⟩
  by_cases z : 0 ≤ k ∧ k ≤ 255
  · rw [if_pos z] at e1
    by_cases q : h 2 0 < 120
    · rw [if_pos q] at e1
      have e2 := m_feed (mUp (mUp h 15 (h 2 0) k) 2 0 (h 2 0 + 1)) k (by show 0 ≤ h 47 21 ∧ h 47 21 ≤ 120; omega)
      change _ = (if 0 ≤ k ∧ k ≤ 255 then (if h 47 21 < 120 then some ([vI (h 47 21 + 1)], mUp (mUp (mUp (mUp h 15 (h 2 0) k) 2 0 (h 2 0 + 1)) 60 (h 47 21) (w8 k)) 47 21 (h 47 21 + 1)) else _) else _) at e2
      rw [if_pos z, t1, if_pos q] at e2
      refine mm_Pr.of e1 e2 ⟨mm_RN_co (by repeat (first | exact fun _ _ _ => rfl | refine mm_co1 rfl ?_ | refine mm_co2 (fun _ => rfl) ?_)) z1, mm_RU_co (by repeat (first | exact fun _ _ _ => rfl | refine mm_co1 rfl ?_ | refine mm_co2 (fun _ => rfl) ?_)) z2, mm_RD_co (by repeat (first | exact fun _ _ _ => rfl | refine mm_co1 rfl ?_ | refine mm_co2 (fun _ => rfl) ?_)) z3, mm_RI_co (by repeat (first | exact fun _ _ _ => rfl | refine mm_co1 rfl ?_ | refine mm_co2 (fun _ => rfl) ?_)) z4, mm_RB_co (by repeat (first | exact fun _ _ _ => rfl | refine mm_co1 rfl ?_ | refine mm_co2 (fun _ => rfl) ?_)) z5, mm_RS_co (by repeat (first | exact fun _ _ _ => rfl | refine mm_co1 rfl ?_ | refine mm_co2 (fun _ => rfl) ?_)) z6, ?_, mm_RL_co (by repeat (first | exact fun _ _ _ => rfl | refine mm_co1 rfl ?_ | refine mm_co2 (fun _ => rfl) ?_)) z8⟩
      unfold mm_RT
      simp [mUp_at]
      refine ⟨by omega, by omega, fun i i0 i1 => ?_⟩
      by_cases e : i = h 2 0
      · subst e; simp; omega
      · simp [e]; exact t4 i i0 (by omega)
    · rw [if_neg q] at e1
      have e2 := m_feed h k (by omega)
      rw [if_pos z, t1, if_neg q] at e2
      exact mm_Pr.of e1 e2 hI
  · rw [if_neg z] at e1
    have e2 := m_feed h k (by omega)
    rw [if_neg z] at e2
    exact mm_Pr.of e1 e2 hI
