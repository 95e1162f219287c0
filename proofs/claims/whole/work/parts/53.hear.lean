/-! who hears when, who is let in: the class -/
abbrev cT (b a : Int) : Int := if b = 1000000 then 1000000 else a + b
abbrev cLet (T old e hd m w : Int) : Prop := (w = old ∧ m < T + hd) ∨ (w = e ∧ T ≤ m)
theorem cT1 {b a : Int} (q : b = 1000000) : cT b a = 1000000 := if_pos q
theorem cT2 {b a : Int} (q : ¬ b = 1000000) : cT b a = a + b := if_neg q
abbrev mm_bok (b : Int) : Prop := b = 1000000 ∨ (0 ≤ b ∧ b ≤ 1392)
theorem cT_b {b a : Int} (hb : mm_bok b) (ha : 0 ≤ a ∧ a ≤ 999) : 0 ≤ cT b a ∧ cT b a ≤ 1000000 := by
  by_cases q : b = 1000000
  · rw [cT1 q]
    omega
  · rw [cT2 q]
    omega
def kn (h : mm_M) (k : Int) : Int := if h 11 (41 + k) < h 11 55 then h 11 53 else h 11 54
theorem g_cold (h : mm_M) (k : Int) (z : 0 ≤ k ∧ k < 7) : mm_call mX4_get [vR 1, vI 2, vI k] h = some ([vI (h 11 (14 + k))], h) := c_get h 2 k ⟨by decide, by decide, z.1, z.2⟩
theorem g_long (h : mm_M) (k : Int) (z : 0 ≤ k ∧ k < 10) : mm_call mX4_get [vR 1, vI 3, vI k] h = some ([vI (h 11 (21 + k))], h) := c_get h 3 k ⟨by decide, by decide, z.1, z.2⟩
theorem g_like (h : mm_M) (k : Int) (z : 0 ≤ k ∧ k < 10) : mm_call mX4_get [vR 1, vI 4, vI k] h = some ([vI (h 11 (31 + k))], h) := c_get h 4 k ⟨by decide, by decide, z.1, z.2⟩
theorem g_out (h : mm_M) (k : Int) (z : 0 ≤ k ∧ k < 4) : mm_call mX4_get [vR 1, vI 5, vI k] h = some ([vI (h 11 (41 + k))], h) := c_get h 5 k ⟨by decide, by decide, z.1, z.2⟩
theorem g_home (h : mm_M) (k : Int) (z : 0 ≤ k ∧ k < 4) : mm_call mX4_get [vR 1, vI 6, vI k] h = some ([vI (h 11 (45 + k))], h) := c_get h 6 k ⟨by decide, by decide, z.1, z.2⟩
theorem g_by (h : mm_M) (k : Int) (z : 0 ≤ k ∧ k < 4) : mm_call mX4_get [vR 1, vI 7, vI k] h = some ([vI (h 11 (49 + k))], h) := c_get h 7 k ⟨by decide, by decide, z.1, z.2⟩
theorem c_known (h : mm_M) (k : Int) (z : 0 ≤ k ∧ k < 4) : mm_call mX8_known [vR 1, vI k] h = some ([vI (kn h k)], h) := by
  rw [X8_known_c, g_out h k z, mm_bs]
  refine (X8_known_7 _ _ _).trans ?_
  rw [c_at, mm_bs]
  refine (X8_known_13 _ _ _ _).trans ?_
  unfold kn
  by_cases q : h 11 (41 + k) < h 11 55
  · rw [if_pos q, if_pos q, c_old, mm_bs]
    exact X8_known_26 _ _ _
  · rw [if_neg q, if_neg q, c_new, mm_bs]
    exact X8_known_26 _ _ _
/-- what is asked of the numbers -/
def mm_nok (g : mm_M) : Prop := (0 ≤ g 11 55 ∧ g 11 55 ≤ 999) ∧ (0 ≤ g 11 56 ∧ g 11 56 ≤ 999) ∧ g 1 1 ≤ 7 ∧ (0 ≤ g 11 54 ∧ g 11 54 ≤ 9) ∧ ∀ k : Int, 0 ≤ k → k < 4 → 0 ≤ g 11 (45 + k) ∧ g 11 (45 + k) ≤ 999 ∧ 0 ≤ g 11 (49 + k) ∧ g 11 (49 + k) ≤ 6
theorem mm_nok.of {h : mm_M} (z : mm_RN h) : mm_nok h := ⟨(N10 z).2, (N11 z).2, z.2.1, (N9 z).2, fun k a b => ⟨(N6 z k a b).2.1, (N6 z k a b).2.2, (N7 z k a b).2.1, (N7 z k a b).2.2⟩⟩
