/-! leaves of both, and a night in deed -/
theorem s_isPost (h : mm_M) (a : Int) : mm_call mX10_isPost [vR 47, vI a] h = some ([vI (if 0 ≤ a ∧ a ≤ w32 (h 47 1 - 1) then 1 else 0)], h) := by
  simp only [s_in, mm_bs, mm_ap, X10_isPost_c, X10_isPost_11]
  by_cases z : 0 ≤ a ∧ a ≤ w32 (h 47 1 - 1) <;> simp [z]
theorem s_isWord (h : mm_M) (a : Int) : mm_call mX10_isWord [vI a] h = some ([vI (if 0 ≤ a ∧ a ≤ 9 then 1 else 0)], h) := by
  simp only [s_in, mm_bs, mm_ap, X10_isWord_c, X10_isWord_7]
  by_cases z : 0 ≤ a ∧ a ≤ 9 <;> simp [z]
theorem s_isShelf (h : mm_M) (a : Int) : mm_call mX10_isShelf [vI a] h = some ([vI (if 0 ≤ a ∧ a ≤ 5 then 1 else 0)], h) := by
  simp only [s_in, mm_bs, mm_ap, X10_isShelf_c, X10_isShelf_6]
  by_cases z : 0 ≤ a ∧ a ≤ 5 <;> simp [z]
theorem s_isBody (h : mm_M) (a : Int) : mm_call mX10_isBody [vR 47, vI a] h = some ([vI (if 0 ≤ a ∧ a ≤ w32 (h 47 49 - 1) then 1 else 0)], h) := by
  simp only [s_in, mm_bs, mm_ap, X10_isBody_c, X10_isBody_11]
  by_cases z : 0 ≤ a ∧ a ≤ w32 (h 47 49 - 1) <;> simp [z]
theorem c_isPost (h : mm_M) (a : Int) : mm_call mX4_isPost [vR 1, vI a] h = some ([vI (if 0 ≤ a ∧ a < h 1 1 then 1 else 0)], h) := by
  simp only [X4_isPost_c]
  repeat' split
  all_goals first | rfl | (exfalso; omega)
theorem c_isShelf (h : mm_M) (a : Int) : mm_call mX7_isShelf [vR 3, vI a] h = some ([vI (if 0 ≤ a ∧ a < 6 then 1 else 0)], h) := by
  simp only [X7_isShelf_c]
  repeat' split
  all_goals first | rfl | (exfalso; omega)
theorem c_mayBe (h : mm_M) (w v : Int) : mm_call mX4_mayBe [vR 1, vI w, vI v] h = some ([vI (if 0 ≤ w ∧ w ≤ 11 ∧ mm_ct 102 w ≤ v ∧ v ≤ mm_ct 103 w then 1 else 0)], h) := by
  simp only [X4_mayBe_c]
  repeat' split
  all_goals first | rfl | (exfalso; omega)
theorem c_the (h : mm_M) (w : Int) (hw : 8 ≤ w ∧ w ≤ 11) : mm_call mX4_the [vR 1, vI w] h = some ([vI (h 11 (mm_ct 100 w))], h) := by
  have : w = 8 ∨ w = 9 ∨ w = 10 ∨ w = 11 := by omega
  rcases this with rfl | rfl | rfl | rfl <;> simp [X4_the_c, mm_ct]
theorem c_old (h : mm_M) : mm_call mX4_the [vR 1, vI 8] h = some ([vI (h 11 53)], h) := c_the h 8 (by decide)
theorem c_new (h : mm_M) : mm_call mX4_the [vR 1, vI 9] h = some ([vI (h 11 54)], h) := c_the h 9 (by decide)
theorem c_at (h : mm_M) : mm_call mX4_the [vR 1, vI 10] h = some ([vI (h 11 55)], h) := c_the h 10 (by decide)
theorem c_holds (h : mm_M) : mm_call mX4_the [vR 1, vI 11] h = some ([vI (h 11 56)], h) := c_the h 11 (by decide)
theorem c_word (h : mm_M) (v : Int) : mm_call mX4_mayBe [vR 1, vI 9, vI v] h = some ([vI (if 0 ≤ v ∧ v ≤ 9 then 1 else 0)], h) := by
  rw [c_mayBe]
  have e1 : mm_ct 102 9 = 0 := rfl
  have e2 : mm_ct 103 9 = 9 := rfl
  rw [e1, e2]
  by_cases z : 0 ≤ v ∧ v ≤ 9
  · rw [if_pos z, if_pos ⟨by decide, by decide, z.1, z.2⟩]
  · rw [if_neg z, if_neg (fun w => z ⟨w.2.2.1, w.2.2.2⟩)]
/-- an answer of both, and what holds behind it -/
def mm_Pr (K1 K2 : mm_K) (a : List mm_V) (h : mm_M) (I : mm_M → Prop) : Prop := ∃ v h1 h2, mm_call K1 (vR 0 :: a) h = some ([v], h1) ∧ mm_call K2 (vR 47 :: a) h1 = some ([v], h2) ∧ I h2
theorem mm_Pr.of {K1 K2 : mm_K} {a : List mm_V} {h : mm_M} {I : mm_M → Prop} {v : mm_V} {h1 h2 : mm_M} (e1 : mm_call K1 (vR 0 :: a) h = some ([v], h1)) (e2 : mm_call K2 (vR 47 :: a) h1 = some ([v], h2)) (hI : I h2) : mm_Pr K1 K2 a h I := ⟨v, h1, h2, e1, e2, hI⟩
theorem m_stay (h : mm_M) (n : Int) : mm_call mX10_stay [vR 47, vI n] h = if 1 ≤ n ∧ n ≤ 999 then if w32 (h 47 43 + n) ≤ 9999 then some ([vI (w32 (h 47 43 + n))], mUp h 47 43 (w32 (h 47 43 + n))) else some ([vI (-5)], h) else some ([vI (-1)], h) := by
  simp only [s_in, mm_bs, mm_ap, X10_stay_c, X10_stay_8, mm_b01, Classical.not_not, mUp_self]
theorem c_stay (h : mm_M) (n : Int) : mm_call mX9_stay [vR 0, vI n] h = if 1 ≤ n ∧ n ≤ 999 then if w32 (h 9 0 + n) ≤ 9999 then some ([vI (w32 (h 9 0 + n))], mUp h 9 0 (w32 (h 9 0 + n))) else some ([vI (-5)], h) else some ([vI (-1)], h) := by
  simp only [X9_stay_c, mUp_self]
  repeat' split
  all_goals first | rfl | (exfalso; omega)
theorem p_stay (h : mm_M) (n : Int) (hI : mm_Inv h) (hn : mm_r32 n) : mm_Pr mX9_stay mX10_stay [vI n] h mm_Inv := by
  obtain ⟨z1, z2, ⟨d1, d2, d3, d4, d5⟩, z4, z5, z6, z7, z8⟩ := id hI
  unfold mm_r32 at hn
  have e1 := c_stay h n
  by_cases z : 1 ≤ n ∧ n ≤ 999
  · have w1 : w32 (h 9 0 + n) = h 9 0 + n := w32_id (by unfold mm_r32; omega)
    rw [if_pos z, w1] at e1
    by_cases z2' : h 9 0 + n ≤ 9999
    · rw [if_pos z2'] at e1
      have e2 := m_stay (mUp h 9 0 (h 9 0 + n)) n
      rw [if_pos z, show mUp h 9 0 (h 9 0 + n) 47 43 = h 9 0 from by rw [mUp_at, if_neg (by decide), d1], w1, if_pos z2'] at e2
      refine mm_Pr.of e1 e2 ⟨mm_RN_co (by repeat (first | exact fun _ _ _ => rfl | refine mm_co1 rfl ?_ | refine mm_co2 (fun _ => rfl) ?_)) z1, mm_RU_co (by repeat (first | exact fun _ _ _ => rfl | refine mm_co1 rfl ?_ | refine mm_co2 (fun _ => rfl) ?_)) z2, ?_, mm_RI_co (by repeat (first | exact fun _ _ _ => rfl | refine mm_co1 rfl ?_ | refine mm_co2 (fun _ => rfl) ?_)) z4, mm_RB_co (by repeat (first | exact fun _ _ _ => rfl | refine mm_co1 rfl ?_ | refine mm_co2 (fun _ => rfl) ?_)) z5, mm_RS_co (by repeat (first | exact fun _ _ _ => rfl | refine mm_co1 rfl ?_ | refine mm_co2 (fun _ => rfl) ?_)) z6, mm_RT_co (by repeat (first | exact fun _ _ _ => rfl | refine mm_co1 rfl ?_ | refine mm_co2 (fun _ => rfl) ?_)) z7, mm_RL_co (by repeat (first | exact fun _ _ _ => rfl | refine mm_co1 rfl ?_ | refine mm_co2 (fun _ => rfl) ?_)) z8⟩
      unfold mm_RD
      simp [mUp_at]
      exact ⟨by omega, by omega, d4, d5⟩
    · rw [if_neg z2'] at e1
      have e2 := m_stay h n
      rw [if_pos z, d1, w1, if_neg z2'] at e2
      exact mm_Pr.of e1 e2 hI
  · rw [if_neg z] at e1
    have e2 := m_stay h n
    rw [if_neg z] at e2
    exact mm_Pr.of e1 e2 hI
theorem m_led (h : mm_M) (k : Int) : mm_call mX10_led [vR 47, vI k] h = if k = 4 then some ([vI (h 47 43)], h) else if 0 ≤ k ∧ k < 4 then some ([vI (h 74 k)], h) else some ([vI (-1)], h) := by
  simp only [s_in, mm_bs, mm_ap, X10_led_c, X10_led_16, mm_b01]
  repeat' split
  all_goals first | rfl | (exfalso; omega)
theorem c_led (h : mm_M) (k : Int) : mm_call mX9_led [vR 0, vI k] h = if k = 4 then some ([vI (h 9 0)], h) else if 0 ≤ k ∧ k < 4 then some ([vI (h 40 k)], h) else some ([vI (-1)], h) := by
  simp only [X9_led_c]
  repeat' split
  all_goals first | rfl | (exfalso; omega)
theorem p_led (h : mm_M) (k : Int) (hI : mm_Inv h) : mm_Pr mX9_led mX10_led [vI k] h mm_Inv := by
  obtain ⟨d1, d2, d3, d4, d5⟩ := hI.2.2.1
  have e1 := c_led h k
  have e2 := m_led h k
  by_cases z : k = 4
  · rw [if_pos z] at e1 e2
    rw [d1] at e2
    exact mm_Pr.of e1 e2 hI
  · rw [if_neg z] at e1 e2
    by_cases z2 : 0 ≤ k ∧ k < 4
    · rw [if_pos z2] at e1 e2
      rw [d5 k z2.1 z2.2] at e2
      exact mm_Pr.of e1 e2 hI
    · rw [if_neg z2] at e1 e2
      exact mm_Pr.of e1 e2 hI
def gC (h : mm_M) (k p w : Int) : mm_M := mUp (mUp (mUp (mUp h 40 k (w32 (h 40 k + 1))) 38 p (h 37 p)) 37 p w) 39 p (h 9 0)
def gM (h : mm_M) (k p w : Int) : mm_M := mUp (mUp (mUp (mUp h 74 k (w32 (h 74 k + 1))) 72 p (h 71 p)) 71 p w) 73 p (h 47 43)
theorem gI {h : mm_M} {k p w : Int} (hI : mm_Inv h) (hp : 0 ≤ p ∧ p < h 1 1) (hw : 0 ≤ w ∧ w ≤ 9) (hk : 0 ≤ k ∧ k < 4) : mm_Inv (gM (gC h k p w) k p w) := by
  obtain ⟨z1, z2, ⟨d1, d2, d3, d4, d5⟩, z4, z5, z6, z7, z8⟩ := hI
  refine ⟨mm_RN_co (by repeat (first | exact fun _ _ _ => rfl | refine mm_co1 rfl ?_ | refine mm_co2 (fun _ => rfl) ?_)) z1, mm_RU_co (by repeat (first | exact fun _ _ _ => rfl | refine mm_co1 rfl ?_ | refine mm_co2 (fun _ => rfl) ?_)) z2, ?_, mm_RI_co (by repeat (first | exact fun _ _ _ => rfl | refine mm_co1 rfl ?_ | refine mm_co2 (fun _ => rfl) ?_)) z4, mm_RB_co (by repeat (first | exact fun _ _ _ => rfl | refine mm_co1 rfl ?_ | refine mm_co2 (fun _ => rfl) ?_)) z5, mm_RS_co (by repeat (first | exact fun _ _ _ => rfl | refine mm_co1 rfl ?_ | refine mm_co2 (fun _ => rfl) ?_)) z6, mm_RT_co (by repeat (first | exact fun _ _ _ => rfl | refine mm_co1 rfl ?_ | refine mm_co2 (fun _ => rfl) ?_)) z7, mm_RL_co (by repeat (first | exact fun _ _ _ => rfl | refine mm_co1 rfl ?_ | refine mm_co2 (fun _ => rfl) ?_)) z8⟩
  unfold mm_RD gM gC
  simp [mUp_at]
  refine ⟨d1, d2, d3, fun q q0 q1 => ?_, fun j j0 j1 => ?_⟩
  · by_cases e : q = p
    · subst e
      simp
      obtain ⟨a1, a2, a3, a4⟩ := d4 q q0 q1
      refine ⟨hw.1, hw.2, Or.inr ⟨?_, ?_, ?_, ?_, ?_, ?_⟩⟩ <;> omega
    · simp [e]
      exact d4 q q0 q1
  · by_cases e : j = k
    · subst e
      simp
      rw [d5 j j0 j1]
    · simp [e]
      exact d5 j j0 j1
theorem c_change (h : mm_M) (w : Int) : mm_call mX9_change [vR 0, vI w] h = if 0 ≤ w ∧ w ≤ 9 then (if h 1 1 = 0 then some ([vI (-5)], h) else some ([vI (h 37 0)], gC h 0 0 w)) else some ([vI (-1)], h) := by
  simp only [c_word, mm_bs, mm_ap, mm_ap0, mm_b01, Classical.not_not, and_self, and_true, true_and, not_true_eq_false, not_false_eq_true, mm_10, ↓reduceIte, X9_change_c, X9_change_10, X9_change_50, X2_give_c]
  simp [mUp_at, gC, mm_bs, X9_change_c, X9_change_10, X9_change_50]
theorem m_change (h : mm_M) (w : Int) : mm_call mX10_change [vR 47, vI w] h = if 0 ≤ w ∧ w ≤ 9 then (if h 47 1 = 0 then some ([vI (-5)], h) else some ([vI (h 71 0)], gM h 0 0 w)) else some ([vI (-1)], h) := by
  simp only [s_isWord, mm_bs, mm_ap, mm_ap0, mm_b01, Classical.not_not, and_self, and_true, true_and, not_true_eq_false, not_false_eq_true, mm_10, ↓reduceIte, X10_change_c, X10_change_4, X10_change_35, X10_getsWord_c]
  simp [mUp_at, gM, mm_bs, X10_change_c, X10_change_4, X10_change_35]
theorem p_change (h : mm_M) (w : Int) (hI : mm_Inv h) : mm_Pr mX9_change mX10_change [vI w] h mm_Inv := by
  have e1 := c_change h w
  obtain ⟨n0, n7, n47, -⟩ := hI.1
  obtain ⟨d1, d2, d3, d4, d5⟩ := hI.2.2.1
  by_cases z : 0 ≤ w ∧ w ≤ 9
  · rw [if_pos z] at e1
    by_cases z2 : h 1 1 = 0
    · rw [if_pos z2] at e1
      have e2 := m_change h w
      rw [if_pos z, n47, if_pos z2] at e2
      exact mm_Pr.of e1 e2 hI
    · rw [if_neg z2] at e1
      have e2 := m_change (gC h 0 0 w) w
      rw [if_pos z, show gC h 0 0 w 47 1 = h 1 1 from n47, if_neg z2, show gC h 0 0 w 71 0 = h 37 0 from (d4 0 (by decide) (by omega)).1] at e2
      exact mm_Pr.of e1 e2 (gI hI ⟨by decide, by omega⟩ z ⟨by decide, by decide⟩)
  · rw [if_neg z] at e1
    have e2 := m_change h w
    rw [if_neg z] at e2
    exact mm_Pr.of e1 e2 hI
theorem c_tell (h : mm_M) (p : Int) (hn : h 1 1 ≤ 7) : mm_call mX9_tell [vR 0, vI p] h = if ¬ p = 0 ∧ 0 ≤ p ∧ p < h 1 1 then some ([vI (h 37 p)], gC h 1 p (h 37 0)) else some ([vI (-1)], h) := by
  simp only [c_isPost, mm_bs, mm_ap, mm_ap0, mm_b01, Classical.not_not, and_self, and_true, true_and, not_true_eq_false, not_false_eq_true, mm_10, ↓reduceIte, X9_tell_c, X9_tell_12, X9_tell_47, X2_give_c]
  by_cases z : ¬ p = 0 ∧ 0 ≤ p ∧ p < h 1 1
  · have z7 : p < 7 := by omega
    simp [mUp_at, gC, z, z7, mm_bs, X9_tell_c, X9_tell_12, X9_tell_47]
  · by_cases z0 : p = 0
    · simp [z0]
    · have z8 : ¬ (0 ≤ p ∧ p < h 1 1) := fun q => z ⟨z0, q⟩
      simp [z0, z8]
theorem m_tell (h : mm_M) (p : Int) (hn : 0 ≤ h 47 1 ∧ h 47 1 ≤ 7) : mm_call mX10_tell [vR 47, vI p] h = if ¬ p = 0 ∧ 0 ≤ p ∧ p < h 47 1 then some ([vI (h 71 p)], gM h 1 p (h 71 0)) else some ([vI (-1)], h) := by
  have w1 : w32 (h 47 1 - 1) = h 47 1 - 1 := w32_id (by unfold mm_r32; omega)
  have w2 : (0 ≤ p ∧ p ≤ h 47 1 - 1) = (0 ≤ p ∧ p < h 47 1) := by apply propext; omega
  simp only [s_isPost, mm_bs, mm_ap, mm_ap0, mm_b01, Classical.not_not, and_self, and_true, true_and, not_true_eq_false, not_false_eq_true, mm_10, ↓reduceIte, X10_tell_c, X10_tell_5, X10_tell_35, X10_getsWord_c, w1, w2]
  by_cases z : ¬ p = 0 ∧ 0 ≤ p ∧ p < h 47 1
  · have z7 : p < 7 := by omega
    simp [mUp_at, gM, z, z7, mm_bs, X10_tell_c, X10_tell_5, X10_tell_35]
  · by_cases z0 : p = 0
    · simp [z0]
    · have z8 : ¬ (0 ≤ p ∧ p < h 47 1) := fun q => z ⟨z0, q⟩
      simp [z0, z8]
theorem p_tell (h : mm_M) (p : Int) (hI : mm_Inv h) : mm_Pr mX9_tell mX10_tell [vI p] h mm_Inv := by
  obtain ⟨n0, n7, n47, -⟩ := hI.1
  obtain ⟨d1, d2, d3, d4, d5⟩ := hI.2.2.1
  have e1 := c_tell h p n7
  by_cases z : ¬ p = 0 ∧ 0 ≤ p ∧ p < h 1 1
  · rw [if_pos z] at e1
    have e2 := m_tell (gC h 1 p (h 37 0)) p (by rw [show gC h 1 p (h 37 0) 47 1 = h 1 1 from n47]; exact ⟨n0, n7⟩)
    obtain ⟨b1, b2, b3, -⟩ := d4 0 (by decide) (by omega)
    rw [show gC h 1 p (h 37 0) 47 1 = h 1 1 from n47, if_pos z, show gC h 1 p (h 37 0) 71 p = h 37 p from (d4 p z.2.1 z.2.2).1, show gC h 1 p (h 37 0) 71 0 = h 37 0 from b1] at e2
    exact mm_Pr.of e1 e2 (gI hI z.2 ⟨b2, b3⟩ ⟨by decide, by decide⟩)
  · rw [if_neg z] at e1
    have e2 := m_tell h p (by rw [n47]; exact ⟨n0, n7⟩)
    rw [n47, if_neg z] at e2
    exact mm_Pr.of e1 e2 hI
theorem m_ask (h : mm_M) (p w : Int) (hn : 0 ≤ h 47 1 ∧ h 47 1 ≤ 7) : mm_call mX10_ask [vR 47, vI p, vI w] h = if 0 ≤ p ∧ p < h 47 1 ∧ 0 ≤ w ∧ w ≤ 9 then (if w = h 71 p ∨ (w = h 72 p ∧ h 47 43 < w32 (h 73 p + h 47 13)) then some ([vI 1], mUp (mUp h 74 2 (w32 (h 74 2 + 1))) 74 3 (w32 (h 74 3 + 1))) else some ([vI 0], mUp h 74 2 (w32 (h 74 2 + 1)))) else some ([vI (-1)], h) := by
  have w1 : w32 (h 47 1 - 1) = h 47 1 - 1 := w32_id (by unfold mm_r32; omega)
  have w2 : (0 ≤ p ∧ p ≤ h 47 1 - 1) = (0 ≤ p ∧ p < h 47 1) := by apply propext; omega
  simp only [s_isPost, s_isWord, mm_bs, mm_ap, mm_ap0, mm_b01, Classical.not_not, and_self, and_true, true_and, not_true_eq_false, not_false_eq_true, mm_10, ↓reduceIte, X10_ask_c, X10_ask_5, X10_ask_12, X10_ask_70, X10_ask_85, w1, w2]
  by_cases z : 0 ≤ p ∧ p < h 47 1
  · have z7 : p < 7 := by omega
    by_cases zw : 0 ≤ w ∧ w ≤ 9
    · simp [mUp_at, z, z7, zw, mm_bs, X10_ask_c, X10_ask_5, X10_ask_12, X10_ask_70, X10_ask_85]
      by_cases q1 : w = h 71 p
      · simp [q1, X10_ask_c, X10_ask_5, X10_ask_12, X10_ask_70, X10_ask_85]
      · simp [q1]
        by_cases q2 : w = h 72 p
        · simp [q2]
          by_cases q3 : w32 (h 73 p + h 47 13) ≤ h 47 43
          · simp [q3, X10_ask_c, X10_ask_5, X10_ask_12, X10_ask_70, X10_ask_85]
          · simp [q3, X10_ask_c, X10_ask_5, X10_ask_12, X10_ask_70, X10_ask_85]
        · simp [q2, X10_ask_c, X10_ask_5, X10_ask_12, X10_ask_70, X10_ask_85]
    · simp [z, zw]
  · simp [z]
    intro a b
    exact absurd ⟨a, b⟩ z
theorem c_ask (h : mm_M) (p w : Int) (hn : h 1 1 ≤ 7) : mm_call mX9_ask [vR 0, vI p, vI w] h = if 0 ≤ p ∧ p < h 1 1 ∧ 0 ≤ w ∧ w ≤ 9 then (if w = h 37 p ∨ (w = h 38 p ∧ w32 (h 9 0 - h 39 p) < h 11 56) then some ([vI 1], mUp (mUp h 40 2 (w32 (h 40 2 + 1))) 40 3 (w32 (h 40 3 + 1))) else some ([vI 0], mUp h 40 2 (w32 (h 40 2 + 1)))) else some ([vI (-1)], h) := by
  simp only [c_isPost, c_word, c_holds, mm_bs, mm_ap, mm_ap0, mm_b01, Classical.not_not, and_self, and_true, true_and, not_true_eq_false, not_false_eq_true, mm_10, ↓reduceIte, X9_ask_c, X9_ask_8, X9_ask_21, X9_ask_41, X9_ask_44, X2_answer_c, X2_answer_40, X2_answer_67]
  by_cases z : 0 ≤ p ∧ p < h 1 1
  · have z7 : p < 7 := by omega
    by_cases zw : 0 ≤ w ∧ w ≤ 9
    · simp [mUp_at, z, z7, zw, mm_bs, X9_ask_c, X9_ask_8, X9_ask_21, X9_ask_41, X9_ask_44, X2_answer_c, X2_answer_40, X2_answer_67, c_holds]
      by_cases q1 : w = h 37 p
      · simp [q1, mm_bs, mUp_at, X9_ask_c, X9_ask_8, X9_ask_21, X9_ask_41, X9_ask_44, X2_answer_c, X2_answer_40, X2_answer_67]
      · simp [q1]
        by_cases q2 : w = h 38 p
        · simp [q2]
          by_cases q3 : h 11 56 ≤ w32 (h 9 0 - h 39 p)
          · simp [q3, mm_bs, mUp_at, X9_ask_c, X9_ask_8, X9_ask_21, X9_ask_41, X9_ask_44, X2_answer_c, X2_answer_40, X2_answer_67]
          · simp [q3, mm_bs, mUp_at, X9_ask_c, X9_ask_8, X9_ask_21, X9_ask_41, X9_ask_44, X2_answer_c, X2_answer_40, X2_answer_67]
        · simp [q2, mm_bs, mUp_at, X9_ask_c, X9_ask_8, X9_ask_21, X9_ask_41, X9_ask_44, X2_answer_c, X2_answer_40, X2_answer_67]
    · simp [z, zw]
  · simp [z]
    intro a b
    exact absurd ⟨a, b⟩ z
theorem p_ask (h : mm_M) (p w : Int) (hI : mm_Inv h) : mm_Pr mX9_ask mX10_ask [vI p, vI w] h mm_Inv := by
  obtain ⟨z1, z2, ⟨d1, d2, d3, d4, d5⟩, z4, z5, z6, z7, z8⟩ := id hI
  obtain ⟨n0, n7, n47, nv⟩ := z1
  have hh := nv 11 0 (by unfold mm_wk; exact ⟨by decide, by decide, by decide, by decide⟩)
  obtain ⟨h13, hr⟩ := hh
  have h13 : h 47 13 = h 11 56 := h13
  have hr : 0 ≤ h 11 56 ∧ h 11 56 ≤ 999 := hr
  have e1 := c_ask h p w n7
  have fin : ∀ b : Bool, mm_Inv (if b then mUp (mUp (mUp (mUp h 40 2 (w32 (h 40 2 + 1))) 40 3 (w32 (h 40 3 + 1))) 74 2 (w32 (h 74 2 + 1))) 74 3 (w32 (h 74 3 + 1)) else mUp (mUp h 40 2 (w32 (h 40 2 + 1))) 74 2 (w32 (h 74 2 + 1))) := by
    intro b
    cases b
    · refine ⟨mm_RN_co (by repeat (first | exact fun _ _ _ => rfl | refine mm_co1 rfl ?_ | refine mm_co2 (fun _ => rfl) ?_)) hI.1, mm_RU_co (by repeat (first | exact fun _ _ _ => rfl | refine mm_co1 rfl ?_ | refine mm_co2 (fun _ => rfl) ?_)) z2, ?_, mm_RI_co (by repeat (first | exact fun _ _ _ => rfl | refine mm_co1 rfl ?_ | refine mm_co2 (fun _ => rfl) ?_)) z4, mm_RB_co (by repeat (first | exact fun _ _ _ => rfl | refine mm_co1 rfl ?_ | refine mm_co2 (fun _ => rfl) ?_)) z5, mm_RS_co (by repeat (first | exact fun _ _ _ => rfl | refine mm_co1 rfl ?_ | refine mm_co2 (fun _ => rfl) ?_)) z6, mm_RT_co (by repeat (first | exact fun _ _ _ => rfl | refine mm_co1 rfl ?_ | refine mm_co2 (fun _ => rfl) ?_)) z7, mm_RL_co (by repeat (first | exact fun _ _ _ => rfl | refine mm_co1 rfl ?_ | refine mm_co2 (fun _ => rfl) ?_)) z8⟩
      unfold mm_RD
      simp [mUp_at]
      refine ⟨d1, d2, d3, d4, fun k k0 k1 => ?_⟩
      by_cases e : k = 2
      · subst e; simp; rw [d5 2 (by decide) (by decide)]
      · simp [e]; exact d5 k k0 k1
    · refine ⟨mm_RN_co (by repeat (first | exact fun _ _ _ => rfl | refine mm_co1 rfl ?_ | refine mm_co2 (fun _ => rfl) ?_)) hI.1, mm_RU_co (by repeat (first | exact fun _ _ _ => rfl | refine mm_co1 rfl ?_ | refine mm_co2 (fun _ => rfl) ?_)) z2, ?_, mm_RI_co (by repeat (first | exact fun _ _ _ => rfl | refine mm_co1 rfl ?_ | refine mm_co2 (fun _ => rfl) ?_)) z4, mm_RB_co (by repeat (first | exact fun _ _ _ => rfl | refine mm_co1 rfl ?_ | refine mm_co2 (fun _ => rfl) ?_)) z5, mm_RS_co (by repeat (first | exact fun _ _ _ => rfl | refine mm_co1 rfl ?_ | refine mm_co2 (fun _ => rfl) ?_)) z6, mm_RT_co (by repeat (first | exact fun _ _ _ => rfl | refine mm_co1 rfl ?_ | refine mm_co2 (fun _ => rfl) ?_)) z7, mm_RL_co (by repeat (first | exact fun _ _ _ => rfl | refine mm_co1 rfl ?_ | refine mm_co2 (fun _ => rfl) ?_)) z8⟩
      unfold mm_RD
      simp [mUp_at]
      refine ⟨d1, d2, d3, d4, fun k k0 k1 => ?_⟩
      by_cases e3 : k = 3
      · subst e3; simp; rw [d5 3 (by decide) (by decide)]
      · by_cases e : k = 2
        · subst e; simp; rw [d5 2 (by decide) (by decide)]
        · simp [e, e3]; exact d5 k k0 k1
  by_cases z : 0 ≤ p ∧ p < h 1 1 ∧ 0 ≤ w ∧ w ≤ 9
  · rw [if_pos z] at e1
    obtain ⟨a1, a2, a3, a4⟩ := d4 p z.1 z.2.1
    have key : (w = h 37 p ∨ (w = h 38 p ∧ w32 (h 9 0 - h 39 p) < h 11 56)) ↔ (w = h 71 p ∨ (w = h 72 p ∧ h 47 43 < w32 (h 73 p + h 47 13))) := by
      rw [a1, h13, d1]
      refine or_congr Iff.rfl ?_
      rcases a4 with ⟨b1, b2⟩ | ⟨b1, b2, b3, b4, b5, b6⟩
      · rw [b1, b2]
        constructor
        · intro q; omega
        · intro q; omega
      · rw [← b1, ← b4, w32_id (x := h 9 0 - h 39 p) (by unfold mm_r32; omega), w32_id (x := h 39 p + h 11 56) (by unfold mm_r32; omega)]
        constructor
        · intro q; exact ⟨q.1, by omega⟩
        · intro q; exact ⟨q.1, by omega⟩
    by_cases c : w = h 37 p ∨ (w = h 38 p ∧ w32 (h 9 0 - h 39 p) < h 11 56)
    · rw [if_pos c] at e1
      have e2 := m_ask (mUp (mUp h 40 2 (w32 (h 40 2 + 1))) 40 3 (w32 (h 40 3 + 1))) p w (by show 0 ≤ h 47 1 ∧ h 47 1 ≤ 7; omega)
      change _ = (if 0 ≤ p ∧ p < h 47 1 ∧ 0 ≤ w ∧ w ≤ 9 then (if w = h 71 p ∨ (w = h 72 p ∧ h 47 43 < w32 (h 73 p + h 47 13)) then _ else _) else _) at e2
      rw [n47, if_pos z, if_pos (key.mp c)] at e2
      exact mm_Pr.of e1 e2 (fin true)
    · rw [if_neg c] at e1
      have e2 := m_ask (mUp h 40 2 (w32 (h 40 2 + 1))) p w (by show 0 ≤ h 47 1 ∧ h 47 1 ≤ 7; omega)
      change _ = (if 0 ≤ p ∧ p < h 47 1 ∧ 0 ≤ w ∧ w ≤ 9 then (if w = h 71 p ∨ (w = h 72 p ∧ h 47 43 < w32 (h 73 p + h 47 13)) then _ else _) else _) at e2
      rw [n47, if_pos z, if_neg (fun q => c (key.mpr q))] at e2
      exact mm_Pr.of e1 e2 (fin false)
  · rw [if_neg z] at e1
    have e2 := m_ask h p w (by omega)
    rw [n47, if_neg z] at e2
    exact mm_Pr.of e1 e2 hI
