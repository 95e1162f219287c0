/-! leaves of both, and a night in deed -/
theorem s_isPost (h : mm_M) (a : Int) : mm_call mX10_isPost [vR 47, vI a] h = some ([vI (if 0 ≤ a ∧ a ≤ w32 (h 47 1 - 1) then 1 else 0)], h) := by
  simp only [s_in, mm_bs, mm_ap, X10_isPost_c, X10_isPost_11]
  by_cases z : 0 ≤ a ∧ a ≤ w32 (h 47 1 - 1) <;> simp [z]
theorem s_isWord (h : mm_M) (a : Int) : mm_call mX10_isWord [vI a] h = some ([vI (if 0 ≤ a ∧ a ≤ 9 then 1 else 0)], h) := by
  simp only [s_in, mm_bs, mm_ap, X10_isWord_c, X10_isWord_7]
  by_cases z : 0 ≤ a ∧ a ≤ 9 <;> simp [z]
theorem s_isShelf (h : mm_M) (a : Int) : mm_call mX10_isShelf [vI a] h = some ([vI (if 0 ≤ a ∧ a ≤ 5 then 1 else 0)], h) := by
  simp only [s_in, mm_bs, mm_ap, X10_isShelf_c, X10_isShelf_6]
  by_cases z : 0 ≤ a ∧ a ≤ 5 <;> simp [z]
theorem s_isBody (h : mm_M) (a : Int) : mm_call mX10_isBody [vR 47, vI a] h = some ([vI (if 0 ≤ a ∧ a ≤ w32 (h 47 49 - 1) then 1 else 0)], h) := by
  simp only [s_in, mm_bs, mm_ap, X10_isBody_c, X10_isBody_11]
  by_cases z : 0 ≤ a ∧ a ≤ w32 (h 47 49 - 1) <;> simp [z]
theorem c_isPost (h : mm_M) (a : Int) : mm_call mX4_isPost [vR 1, vI a] h = some ([vI (if 0 ≤ a ∧ a < h 1 1 then 1 else 0)], h) := by
  simp only [X4_isPost_c]
  repeat' split
  all_goals first | rfl | (exfalso; omega)
theorem c_isShelf (h : mm_M) (a : Int) : mm_call mX7_isShelf [vR 3, vI a] h = some ([vI (if 0 ≤ a ∧ a < 6 then 1 else 0)], h) := by
  simp only [X7_isShelf_c]
  repeat' split
  all_goals first | rfl | (exfalso; omega)
theorem c_mayBe (h : mm_M) (w v : Int) : mm_call mX4_mayBe [vR 1, vI w, vI v] h = some ([vI (if 0 ≤ w ∧ w ≤ 11 ∧ mm_ct 102 w ≤ v ∧ v ≤ mm_ct 103 w then 1 else 0)], h) := by
  simp only [X4_mayBe_c]
  repeat' split
  all_goals first | rfl | (exfalso; omega)
theorem c_the (h : mm_M) (w : Int) (hw : 8 ≤ w ∧ w ≤ 11) : mm_call mX4_the [vR 1, vI w] h = some ([vI (h 11 (mm_ct 100 w))], h) := by
  have : w = 8 ∨ w = 9 ∨ w = 10 ∨ w = 11 := by omega
  rcases this with rfl | rfl | rfl | rfl <;> simp [X4_the_c, mm_ct]
theorem c_old (h : mm_M) : mm_call mX4_the [vR 1, vI 8] h = some ([vI (h 11 53)], h) := c_the h 8 (by decide)
theorem c_new (h : mm_M) : mm_call mX4_the [vR 1, vI 9] h = some ([vI (h 11 54)], h) := c_the h 9 (by decide)
theorem c_at (h : mm_M) : mm_call mX4_the [vR 1, vI 10] h = some ([vI (h 11 55)], h) := c_the h 10 (by decide)
theorem c_holds (h : mm_M) : mm_call mX4_the [vR 1, vI 11] h = some ([vI (h 11 56)], h) := c_the h 11 (by decide)
theorem c_word (h : mm_M) (v : Int) : mm_call mX4_mayBe [vR 1, vI 9, vI v] h = some ([vI (if 0 ≤ v ∧ v ≤ 9 then 1 else 0)], h) := by
  rw [c_mayBe]
  have e1 : mm_ct 102 9 = 0 := rfl
  have e2 : mm_ct 103 9 = 9 := rfl
  rw [e1, e2]
  by_cases z : 0 ≤ v ∧ v ≤ 9
  · rw [if_pos z, if_pos ⟨by decide, by decide, z.1, z.2⟩]
  · rw [if_neg z, if_neg (fun w => z ⟨w.2.2.1, w.2.2.2⟩)]
/-- an answer of both, and what holds behind it -/
def mm_Pr (K1 K2 : mm_K) (a : List mm_V) (h : mm_M) (I : mm_M → Prop) : Prop := ∃ v h1 h2, mm_call K1 (vR 0 :: a) h = some ([v], h1) ∧ mm_call K2 (vR 47 :: a) h1 = some ([v], h2) ∧ I h2
theorem mm_Pr.of {K1 K2 : mm_K} {a : List mm_V} {h : mm_M} {I : mm_M → Prop} {v : mm_V} {h1 h2 : mm_M} (e1 : mm_call K1 (vR 0 :: a) h = some ([v], h1)) (e2 : mm_call K2 (vR 47 :: a) h1 = some ([v], h2)) (hI : I h2) : mm_Pr K1 K2 a h I := ⟨v, h1, h2, e1, e2, hI⟩
theorem m_stay (h : mm_M) (n : Int) : mm_call mX10_stay [vR 47, vI n] h = if 1 ≤ n ∧ n ≤ 999 then if w32 (h 47 43 + n) ≤ 9999 then some ([vI (w32 (h 47 43 + n))], mUp h 47 43 (w32 (h 47 43 + n))) else some ([vI (-5)], h) else some ([vI (-1)], h) := by
  simp only [s_in, mm_bs, mm_ap, X10_stay_c, X10_stay_8, mm_b01, Classical.not_not, mUp_self]
theorem c_stay (h : mm_M) (n : Int) : mm_call mX9_stay [vR 0, vI n] h = if 1 ≤ n ∧ n ≤ 999 then if w32 (h 9 0 + n) ≤ 9999 then some ([vI (w32 (h 9 0 + n))], mUp h 9 0 (w32 (h 9 0 + n))) else some ([vI (-5)], h) else some ([vI (-1)], h) := by
  simp only [X9_stay_c, mUp_self]
  repeat' split
  all_goals first | rfl | (exfalso; omega)
theorem p_stay (h : mm_M) (n : Int) (hD : mm_RD h) (hn : mm_r32 n) : mm_Pr mX9_stay mX10_stay [vI n] h mm_RD := by
  obtain ⟨d1, d2, d3, d4, d5⟩ := hD
  unfold mm_r32 at hn
  have e1 := c_stay h n
  by_cases z : 1 ≤ n ∧ n ≤ 999
  · have w1 : w32 (h 9 0 + n) = h 9 0 + n := w32_id (by unfold mm_r32; omega)
    rw [if_pos z, w1] at e1
    by_cases z2 : h 9 0 + n ≤ 9999
    · rw [if_pos z2] at e1
      have e2 := m_stay (mUp h 9 0 (h 9 0 + n)) n
      rw [if_pos z, show mUp h 9 0 (h 9 0 + n) 47 43 = h 9 0 from by rw [mUp_at, if_neg (by decide), d1], w1, if_pos z2] at e2
      refine mm_Pr.of e1 e2 ?_
      unfold mm_RD
      simp [mUp_at]
      exact ⟨by omega, by omega, d4, d5⟩
    · rw [if_neg z2] at e1
      have e2 := m_stay h n
      rw [if_pos z, d1, w1, if_neg z2] at e2
      exact mm_Pr.of e1 e2 ⟨d1, d2, d3, d4, d5⟩
  · rw [if_neg z] at e1
    have e2 := m_stay h n
    rw [if_neg z] at e2
    exact mm_Pr.of e1 e2 ⟨d1, d2, d3, d4, d5⟩
theorem m_led (h : mm_M) (k : Int) : mm_call mX10_led [vR 47, vI k] h = if k = 4 then some ([vI (h 47 43)], h) else if 0 ≤ k ∧ k < 4 then some ([vI (h 74 k)], h) else some ([vI (-1)], h) := by
  simp only [s_in, mm_bs, mm_ap, X10_led_c, X10_led_16, mm_b01]
  repeat' split
  all_goals first | rfl | (exfalso; omega)
theorem c_led (h : mm_M) (k : Int) : mm_call mX9_led [vR 0, vI k] h = if k = 4 then some ([vI (h 9 0)], h) else if 0 ≤ k ∧ k < 4 then some ([vI (h 40 k)], h) else some ([vI (-1)], h) := by
  simp only [X9_led_c]
  repeat' split
  all_goals first | rfl | (exfalso; omega)
theorem p_led (h : mm_M) (k : Int) (hD : mm_RD h) : mm_Pr mX9_led mX10_led [vI k] h (fun h2 => h2 = h) := by
  obtain ⟨d1, d2, d3, d4, d5⟩ := hD
  have e1 := c_led h k
  have e2 := m_led h k
  by_cases z : k = 4
  · rw [if_pos z] at e1 e2
    rw [d1] at e2
    exact mm_Pr.of e1 e2 rfl
  · rw [if_neg z] at e1 e2
    by_cases z2 : 0 ≤ k ∧ k < 4
    · rw [if_pos z2] at e1 e2
      rw [d5 k z2.1 z2.2] at e2
      exact mm_Pr.of e1 e2 rfl
    · rw [if_neg z2] at e1 e2
      exact mm_Pr.of e1 e2 rfl
