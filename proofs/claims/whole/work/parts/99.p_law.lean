/-! the law: the pair -/
def mm_cpA (y0 : mm_M) (i : Int) (y : mm_M) : Prop := (∀ c j, ¬ ((c = 61 ∨ c = 62) ∧ 0 ≤ j ∧ j < i) → y c j = y0 c j) ∧ ∀ j : Int, 0 ≤ j → j < i → y 61 j = w8 (y0 61 (130 + j)) ∧ y 62 j = y0 62 (130 + j)
theorem cp_A (y0 : mm_M) (L : Int) (hL : y0 47 25 = L) (L0 : 0 ≤ L ∧ L ≤ 120) : ∀ (c : Nat) (i : Int) (y : mm_M), L - i ≤ c → 0 ≤ i → i ≤ L → mm_cpA y0 i y → ∃ y', mm_ev mX10_readText 82 105 [some (vR 47), some (vI 0), some (vI i)] [] y = mm_ev mX10_readText 82 177 [some (vR 47), some (vI 0), some (vI 0)] [] (mUp y' 63 0 (y' 63 1)) ∧ mm_cpA y0 L y' := by
  intro c
  have fin : ∀ (i : Int) (y : mm_M), i = L → mm_cpA y0 i y → ∃ y', mm_ev mX10_readText 82 105 [some (vR 47), some (vI 0), some (vI i)] [] y = mm_ev mX10_readText 82 177 [some (vR 47), some (vI 0), some (vI 0)] [] (mUp y' 63 0 (y' 63 1)) ∧ mm_cpA y0 L y' := by
    intro i y ei h
    subst ei
    have e : y 47 25 = i := by rw [h.1 47 25 (by omega)]; exact hL
    refine ⟨y, ?_, h⟩
    rw [X10_readText_105, e, if_pos (Int.le_refl i), if_pos (by decide), if_pos (by decide)]
  induction c with
  | zero =>
    intro i y ic i0 i1 h
    exact fin i y (by omega) h
  | succ c ih =>
    intro i y ic i0 i1 h
    by_cases q : i = L
    · exact fin i y q h
    · have e : y 47 25 = L := by rw [h.1 47 25 (by omega)]; exact hL
      have wz : w32 (130 * 0) = 0 := by decide
      have w1 : w32 (0 + i) = i := by rw [Int.zero_add]; exact w32_id (by unfold mm_r32; omega)
      have w2 : w32 (130 + i) = 130 + i := w32_id (by unfold mm_r32; omega)
      have w3 : w32 (i + 1) = i + 1 := w32_id (by unfold mm_r32; omega)
      have hA : 0 ≤ 130 + i ∧ 130 + i < 260 := by omega
      have hB : 0 ≤ i ∧ i < 260 := by omega
      rw [X10_readText_105, e, if_neg (by omega), wz, w1, w2, w3, if_pos hA, if_pos hB, if_pos hA, if_pos hB]
      refine ih (i + 1) _ (by omega) (by omega) (by omega) ⟨fun c j hj => ?_, fun j j0 j1 => ?_⟩
      · have n1 : ¬ (c = 62 ∧ j = i) := fun w => hj ⟨Or.inr w.1, by omega⟩
        have n2 : ¬ (c = 61 ∧ j = i) := fun w => hj ⟨Or.inl w.1, by omega⟩
        rw [mUp_at, if_neg n1, mUp_at, if_neg n2]
        exact h.1 c j (fun w => hj ⟨w.1, by omega⟩)
      · have r1 : y 61 (130 + i) = y0 61 (130 + i) := h.1 61 _ (by omega)
        have r2 : y 62 (130 + i) = y0 62 (130 + i) := h.1 62 _ (by omega)
        by_cases z : j = i
        · subst z
          refine ⟨?_, ?_⟩
          · rw [mUp_ne (by decide), mUp_self, r1]
          · rw [mUp_self, mUp_ne (by decide), r2]
        · rw [mUp_ne (show (61 : Nat) ≠ 62 by decide), mUp_nei z, mUp_nei z, mUp_ne (show (62 : Nat) ≠ 61 by decide)]
          exact h.2 j j0 (by omega)
def mm_cpB (y0 : mm_M) (i : Int) (y : mm_M) : Prop := (∀ c j, ¬ ((c = 64 ∨ c = 65) ∧ 0 ≤ j ∧ j < i) → y c j = y0 c j) ∧ ∀ j : Int, 0 ≤ j → j < i → y 64 j = w16 (y0 64 (61 + j)) ∧ y 65 j = w16 (y0 65 (61 + j))
theorem cp_B (y0 : mm_M) (L : Int) (hL : y0 63 0 = L) (L0 : 0 ≤ L ∧ L ≤ 61) : ∀ (c : Nat) (i : Int) (y : mm_M), L - i ≤ c → 0 ≤ i → i ≤ L → mm_cpB y0 i y → ∃ y', mm_ev mX10_readText 82 177 [some (vR 47), some (vI 0), some (vI i)] [] y = some ([vI (-1)], y') ∧ mm_cpB y0 L y' := by
  intro c
  have fin : ∀ (i : Int) (y : mm_M), i = L → mm_cpB y0 i y → ∃ y', mm_ev mX10_readText 82 177 [some (vR 47), some (vI 0), some (vI i)] [] y = some ([vI (-1)], y') ∧ mm_cpB y0 L y' := by
    intro i y ei h
    subst ei
    have e : y 63 0 = i := by rw [h.1 63 0 (by omega)]; exact hL
    refine ⟨y, ?_, h⟩
    rw [X10_readText_177, if_pos (by decide), e, if_pos (Int.le_refl i)]
  induction c with
  | zero =>
    intro i y ic i0 i1 h
    exact fin i y (by omega) h
  | succ c ih =>
    intro i y ic i0 i1 h
    by_cases q : i = L
    · exact fin i y q h
    · have e : y 63 0 = L := by rw [h.1 63 0 (by omega)]; exact hL
      have wz : w32 (61 * 0) = 0 := by decide
      have w1 : w32 (0 + i) = i := by rw [Int.zero_add]; exact w32_id (by unfold mm_r32; omega)
      have w2 : w32 (61 + i) = 61 + i := w32_id (by unfold mm_r32; omega)
      have w3 : w32 (i + 1) = i + 1 := w32_id (by unfold mm_r32; omega)
      have hA : 0 ≤ 61 + i ∧ 61 + i < 122 := by omega
      have hB : 0 ≤ i ∧ i < 122 := by omega
      rw [X10_readText_177, if_pos (by decide), e, if_neg (by omega), wz, w1, w2, w3, if_pos hA, if_pos hB, if_pos hA, if_pos hB]
      refine ih (i + 1) _ (by omega) (by omega) (by omega) ⟨fun c j hj => ?_, fun j j0 j1 => ?_⟩
      · have n1 : ¬ (c = 65 ∧ j = i) := fun w => hj ⟨Or.inr w.1, by omega⟩
        have n2 : ¬ (c = 64 ∧ j = i) := fun w => hj ⟨Or.inl w.1, by omega⟩
        rw [mUp_at, if_neg n1, mUp_at, if_neg n2]
        exact h.1 c j (fun w => hj ⟨w.1, by omega⟩)
      · have r1 : y 64 (61 + i) = y0 64 (61 + i) := h.1 64 _ (by omega)
        have r2 : y 65 (61 + i) = y0 65 (61 + i) := h.1 65 _ (by omega)
        by_cases z : j = i
        · subst z
          refine ⟨?_, ?_⟩
          · rw [mUp_ne (by decide), mUp_self, r1]
          · rw [mUp_self, mUp_ne (by decide), r2]
        · rw [mUp_ne (show (64 : Nat) ≠ 65 by decide), mUp_nei z, mUp_nei z, mUp_ne (show (65 : Nat) ≠ 64 by decide)]
          exact h.2 j j0 (by omega)
abbrev mm_x0 (h : mm_M) : mm_M := mUp (mUp (mUp h 2 2 0) 2 5 0) 2 3 0
abbrev mm_f0 (h : mm_M) : mm_M := mUp (mUp (mUp (mUp (mUp h 47 22 0) 47 23 (-1)) 47 24 0) 47 25 0) 63 1 0
/-- both read the text -/
theorem tx_all (h g : mm_M) (hI : mm_Inv h) (hg : ∀ c i, c ≠ 2 → c ≠ 16 → c ≠ 17 → g c i = h c i) : ∃ f1 x' f', mm_ev mX3_readText 81 17 [some (vR 2), some (vI 0)] [] (mm_x0 h) = some ([], x') ∧ mm_call mX10_line [vR 47] (mm_f0 g) = some ([], f1) ∧ mm_ev mX10_readText 82 31 [some (vR 47), some (vI 0), none] [] f1 = mm_ev mX10_readText 82 86 [some (vR 47), some (vI 0), none] [] f' ∧ mm_xc 0 (mm_x0 h) x' ∧ mm_lfr 0 0 (mm_f0 g) f' ∧ (mm_TG x' f' ∨ mm_TB x' f') := by
  have RT := hI.2.2.2.2.2.2.1
  have RL := hI.2.2.2.2.2.2.2
  obtain ⟨t1, t2, t3, t4⟩ := RT
  have g60 : ∀ i, mm_f0 g 60 i = h 60 i := fun i => by
    show mUp (mUp (mUp (mUp (mUp g 47 22 0) 47 23 (-1)) 47 24 0) 47 25 0) 63 1 0 60 i = _
    rw [mUp_ne (by decide), mUp_ne (by decide), mUp_ne (by decide), mUp_ne (by decide), mUp_ne (by decide)]
    exact hg 60 i (by decide) (by decide) (by decide)
  have tp : mm_tape (mm_x0 h) (mm_f0 g) (h 2 0) := by
    refine ⟨?_, ?_, t2, t3, fun i i0 i1 => ?_, ?_⟩
    · show mUp (mUp (mUp h 2 2 0) 2 5 0) 2 3 0 2 0 = _
      rw [mUp_nei (by decide), mUp_nei (by decide), mUp_nei (by decide)]
    · show mUp (mUp (mUp (mUp (mUp g 47 22 0) 47 23 (-1)) 47 24 0) 47 25 0) 63 1 0 47 21 = _
      rw [mUp_ne (by decide), mUp_nei (by decide), mUp_nei (by decide), mUp_nei (by decide), mUp_nei (by decide), hg 47 21 (by decide) (by decide) (by decide)]
      exact t1
    · rw [g60]
      show 0 ≤ mUp (mUp (mUp h 2 2 0) 2 5 0) 2 3 0 15 i ∧ mUp (mUp (mUp h 2 2 0) 2 5 0) 2 3 0 15 i ≤ 255 ∧ h 60 i = w8 (mUp (mUp (mUp h 2 2 0) 2 5 0) 2 3 0 15 i)
      rw [mUp_ne (by decide), mUp_ne (by decide), mUp_ne (by decide)]
      exact t4 i i0 i1
    · show mUp (mUp (mUp h 2 2 0) 2 5 0) 2 3 0 2 4 = 16 ∨ mUp (mUp (mUp h 2 2 0) 2 5 0) 2 3 0 2 4 = 17
      rw [mUp_nei (by decide), mUp_nei (by decide), mUp_nei (by decide)]
      have := RL.1
      omega
  have gs : mm_gs (mm_x0 h) (mm_f0 g) (h 2 0) 0 0 0 0 := ⟨tp, ⟨rfl, rfl, rfl⟩, ⟨rfl, rfl, rfl, rfl⟩, ⟨Int.le_refl _, t2⟩, by decide, by decide⟩
  exact tx_loop (h 2 0) 121 (mm_x0 h) (mm_f0 g) 0 0 0 0 (fun _ => 0) (fun _ => 0) (by omega) gs rfl (by decide) (by decide) ⟨rfl, rfl, fun l l0 l1 => by omega⟩ rfl rfl (fun i i0 i1 => by omega)
theorem law_Inv {h z : mm_M} (hI : mm_Inv h) (sm : ∀ c i, c ≠ 2 → c ≠ 16 → c ≠ 17 → c ≠ 61 → c ≠ 62 → c ≠ 63 → c ≠ 64 → c ≠ 65 → ¬ (c = 47 ∧ (21 ≤ i ∧ i ≤ 25 ∨ i = 33)) → z c i = h c i) (f1 : z 2 0 = 0) (f2 : z 47 21 = 0) (RL : mm_RL z) : mm_Inv z := by
  obtain ⟨z1, z2, z3, z4, z5, z6, z7, z8⟩ := hI
  refine ⟨mm_RN_co (fun c i w => ?_) z1, mm_RU_co (fun c i w => ?_) z2, mm_RD_co (fun c i w => ?_) z3, mm_RI_co (fun c i w => ?_) z4, mm_RB_co (fun c i w => ?_) z5, mm_RS_co (fun c i w => ?_) z6, ⟨by rw [f1, f2], by rw [f1]; decide, by rw [f1]; decide, fun i i0 i1 => by omega⟩, RL⟩
  · simp only [mm_dN, Bool.or_eq_true, Bool.and_eq_true, beq_iff_eq] at w
    exact sm c i (by omega) (by omega) (by omega) (by omega) (by omega) (by omega) (by omega) (by omega) (by omega)
  · simp only [mm_dU, Bool.or_eq_true, Bool.and_eq_true, beq_iff_eq] at w
    exact sm c i (by omega) (by omega) (by omega) (by omega) (by omega) (by omega) (by omega) (by omega) (by omega)
  · simp only [mm_dD, Bool.or_eq_true, Bool.and_eq_true, beq_iff_eq] at w
    exact sm c i (by omega) (by omega) (by omega) (by omega) (by omega) (by omega) (by omega) (by omega) (by omega)
  · simp only [mm_dI, Bool.or_eq_true, Bool.and_eq_true, beq_iff_eq] at w
    exact sm c i (by omega) (by omega) (by omega) (by omega) (by omega) (by omega) (by omega) (by omega) (by omega)
  · simp only [mm_dB, Bool.or_eq_true, Bool.and_eq_true, beq_iff_eq] at w
    exact sm c i (by omega) (by omega) (by omega) (by omega) (by omega) (by omega) (by omega) (by omega) (by omega)
  · simp only [mm_dS, Bool.or_eq_true, Bool.and_eq_true, beq_iff_eq] at w
    exact sm c i (by omega) (by omega) (by omega) (by omega) (by omega) (by omega) (by omega) (by omega) (by omega)
