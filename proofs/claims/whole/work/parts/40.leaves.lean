/-! leaves of what goes over a route -/
theorem c_get (h : mm_M) (w k : Int) (z : mm_wk w k) : mm_call mX4_get [vR 1, vI w, vI k] h = some ([vI (h 11 (mm_ct 100 w + k))], h) := by
  obtain ⟨k1, k2, k3⟩ := mm_cell z
  obtain ⟨a, b, c, d⟩ := z
  have w1 : w32 (mm_ct 100 w + k) = mm_ct 100 w + k := w32_id (by unfold mm_r32; omega)
  rw [X4_get_c, if_neg (by omega), if_neg (by omega), if_neg (by omega), if_pos (by omega), if_pos d, if_pos (by omega), w1, if_pos (by omega)]
theorem c_get0 (h : mm_M) (w k : Int) (z : ¬ mm_wk w k) : mm_call mX4_get [vR 1, vI w, vI k] h = some ([vI 0], h) := by
  rw [X4_get_c]
  by_cases a : w < 0
  · rw [if_pos a]
  by_cases b : 11 < w
  · rw [if_neg a, if_pos b]
  by_cases c : k < 0
  · rw [if_neg a, if_neg b, if_pos c]
  have d : ¬ k < mm_ct 101 w := fun d => z ⟨by omega, by omega, by omega, d⟩
  rw [if_neg a, if_neg b, if_neg c, if_pos (by omega), if_neg d]
theorem c_alike (h : mm_M) : mm_call mX4_areAlike [vR 1] h = some ([vI (if h 11 53 = h 11 54 then 1 else 0)], h) := by
  rw [X4_areAlike_c, c_old, mm_bs]
  refine (X4_areAlike_6 _ _).trans ?_
  rw [c_new, mm_bs]
  refine (X4_areAlike_12 _ _ _).trans ?_
  by_cases e : h 11 53 = h 11 54
  · rw [if_neg (fun w => w e), if_pos e]
  · rw [if_pos e, if_neg e]
theorem c_isPart (h : mm_M) (a : Int) : mm_call mX9_isPart [vI a] h = some ([vI (if 0 ≤ a ∧ a ≤ 1 then 1 else 0)], h) := by
  rw [X9_isPart_c]
  by_cases e : a = 0
  · rw [if_pos e, if_pos (by omega)]
  · by_cases e1 : a = 1
    · rw [if_neg e, if_neg (fun w => w e1), if_pos (by omega)]
    · rw [if_neg e, if_pos e1, if_neg (by omega)]
theorem s_isPart (h : mm_M) (a : Int) : mm_call mX10_isPart [vI a] h = some ([vI (if 0 ≤ a ∧ a ≤ 1 then 1 else 0)], h) := by
  rw [X10_isPart_c, s_in, mm_bs]
  refine (X10_isPart_6 _ _ _).trans ?_
  by_cases e : 0 ≤ a ∧ a ≤ 1
  · rw [if_pos e, if_pos (Or.inr rfl)]
  · rw [if_neg e, if_pos (Or.inl rfl)]
/-- why a shelf is no row of a kind -/
def kWhy (h : mm_M) (s k : Int) : Int := if 0 ≤ s ∧ s < 6 then (if h 19 s = -1 then -11 else if h 19 s = k then 0 else -12) else -1
theorem c_refusal (h : mm_M) (s k : Int) : mm_call mX7_refusal [vR 3, vI s, vI k] h = some ([vI (kWhy h s k)], h) := by
  by_cases hs : 0 ≤ s ∧ s < 6
  · have e : kWhy h s k = (if h 19 s = -1 then -11 else if h 19 s = k then 0 else -12) := by unfold kWhy; rw [if_pos hs]
    rw [X7_refusal_c, c_isShelf, if_pos hs, mm_bs, e]
    refine (X7_refusal_5 _ _ _ _).trans ?_
    rw [if_pos (by decide), if_pos hs]
    show (if ¬ h 19 s = -1 then _ else _) = _
    by_cases q1 : h 19 s = -1
    · rw [if_neg (fun w => w q1), if_pos q1]
    · rw [if_pos q1, if_neg q1, if_pos hs]
      show (if ¬ h 19 s = k then _ else _) = _
      by_cases q2 : h 19 s = k
      · rw [if_neg (fun w => w q2), if_pos q2]
      · rw [if_pos q2, if_neg q2]
  · have e : kWhy h s k = -1 := by unfold kWhy; rw [if_neg hs]
    rw [X7_refusal_c, c_isShelf, if_neg hs, mm_bs, e]
    exact (X7_refusal_5 _ _ _ _).trans (if_neg (fun w => w rfl))
theorem s_rowFault (h : mm_M) (s k : Int) (hs : 0 ≤ s ∧ s < 6) (hk : 0 ≤ k ∧ k < 5) (hS : mm_RS h) : mm_call mX10_rowFault [vR 47, vI s, vI k] h = some ([vI (kWhy h s k)], h) := by
  unfold kWhy
  obtain ⟨t1, t2, t3, t4, t5⟩ := hS s hs.1 hs.2
  have w1 : w32 (-2 - k) = -2 - k := w32_id (by unfold mm_r32; omega)
  rw [X10_rowFault_c, if_pos hs, if_pos hs, if_pos hs, w1]
  by_cases q1 : h 19 s = -1
  · rw [if_pos q1] at t3 ⊢
    rw [if_neg (fun w => w t3)]
  · rw [if_neg q1] at t3 ⊢
    by_cases q2 : h 19 s = -2
    · rw [if_pos q2] at t3
      have := t4 q2
      rw [if_pos (by omega), if_pos (by omega), if_neg (by omega)]
    · rw [if_neg q2] at t3
      rw [if_pos (by omega)]
      by_cases q3 : h 19 s = k
      · rw [if_neg (by omega), if_pos q3]
      · rw [if_pos (by omega), if_neg q3]
theorem c_isPM (h : mm_M) (a : Int) (ha : mm_r32 a) : mm_call mX9_isPlaceAndMinute [vR 0, vI a] h = some ([vI (if 0 ≤ a ∧ a.tdiv 1000 < h 1 1 then 1 else 0)], h) := by
  rw [X9_isPlaceAndMinute_c]
  by_cases e : a < 0
  · rw [if_pos e, if_neg (by omega)]
  · have t0 : 0 ≤ a.tdiv 1000 := Int.tdiv_nonneg (by omega) (by decide)
    have t1 : a.tdiv 1000 ≤ a := Int.tdiv_le_self 1000 (by omega)
    unfold mm_r32 at ha
    have w1 : w32 (a.tdiv 1000) = a.tdiv 1000 := w32_id (by unfold mm_r32; omega)
    by_cases q : a.tdiv 1000 < h 1 1
    · rw [if_neg e, w1, c_isPost, if_pos (⟨t0, q⟩ : 0 ≤ a.tdiv 1000 ∧ a.tdiv 1000 < h 1 1), mm_bs]
      refine (X9_isPlaceAndMinute_16 _ _ _).trans ?_
      rw [if_neg (by decide), if_pos ⟨by omega, q⟩]
    · rw [if_neg e, w1, c_isPost, if_neg (fun w : 0 ≤ a.tdiv 1000 ∧ a.tdiv 1000 < h 1 1 => q w.2), mm_bs]
      refine (X9_isPlaceAndMinute_16 _ _ _).trans ?_
      rw [if_pos rfl, if_neg (fun w => q w.2)]
