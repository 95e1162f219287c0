/-! redo -/
theorem p_redo (h : mm_M) (hI : mm_Inv h) : mm_Pr mX9_redo mX10_redo [] h mm_Inv := by
  obtain ⟨z1, z2, z3, z4, z5, z6, z7, z8⟩ := id hI
  obtain ⟨u1, u2, u3, u4, u5, u6, u7, u8⟩ := id z2
  by_cases z : h 1 3 = 0
  · refine mm_Pr.of (v := vI (-5)) (h1 := h) (h2 := h) ?_ ?_ hI
    · rw [X9_redo_c, X4_doAgain_c, if_neg (fun w => w z), mm_bs]
      exact X9_redo_7 _ _
    · rw [X10_redo_c, if_neg (fun w => w (u2.trans z))]
  · have w1 : w32 (h 1 2 + 1) = h 1 2 + 1 := w32_id (by unfold mm_r32; omega)
    have w2 : w32 (h 1 3 - 1) = h 1 3 - 1 := w32_id (by unfold mm_r32; omega)
    have w3 : w32 (h 1 4 + h 1 2) = h 1 4 + h 1 2 := w32_id (by unfold mm_r32; omega)
    obtain ⟨y1, y2, y3, y4, y5, y6⟩ := u8 (h 1 2) (by omega) (by omega)
    have m1 : (h 1 4 + h 1 2).tmod 40 = (h 1 4 + h 1 2) % 40 := mm_tm (by omega)
    have m2 : 0 ≤ (h 1 4 + h 1 2) % 40 ∧ (h 1 4 + h 1 2) % 40 < 40 := by omega
    obtain ⟨k1, k2, k3⟩ := mm_cell y1
    let g0 : mm_M := mUp h 11 (mm_ct 100 (h 56 (h 1 2)) + h 57 (h 1 2)) (h 59 (h 1 2))
    let g : mm_M := mUp (mUp g0 1 2 (h 1 2 + 1)) 1 3 (h 1 3 - 1)
    let l : mm_M := mm_ly g (h 56 (h 1 2)) (h 57 (h 1 2)) (h 59 (h 1 2))
    let f : mm_M := mUp (mUp l 47 14 (h 1 2 + 1)) 47 15 (h 1 3 - 1)
    have ln : ∀ c i, (c < 48 ∨ 55 < c) → (c = 47 → i < 10 ∨ 13 < i) → l c i = g c i := fun c i a b => mm_ly_ne a b
    have e1 : mm_call mX9_redo [vR 0] h = some ([vI (h 1 3 - 1)], g) := by
      rw [X9_redo_c, X4_doAgain_c, if_pos z, w3, m1, y2, y4, if_pos m2, if_pos m2, if_pos ⟨k1, k2⟩, mm_bs]
      rw [show mUp h 11 (mm_ct 100 (h 56 (h 1 2)) + h 57 (h 1 2)) (h 59 (h 1 2)) = g0 from rfl]
      have t1 : g0 1 2 = h 1 2 := rfl
      rw [t1, w1]
      have t2 : (mUp g0 1 2 (h 1 2 + 1)) 1 3 = h 1 3 := rfl
      rw [t2, w2]
      exact X9_redo_7 _ _
    have e2 : mm_call mX10_redo [vR 47] g = some ([vI (h 1 3 - 1)], f) := by
      have t1 : g 47 14 = h 1 2 := u1
      have t2 : g 47 15 = h 1 3 := u2
      rw [X10_redo_c, t1, t2, if_pos z, if_pos (by omega), if_pos (by omega), if_pos (by omega), show g 56 = h 56 from rfl, show g 57 = h 57 from rfl, show g 59 = h 59 from rfl, s_lays g _ _ _ y1, mm_bs]
      refine (X10_redo_41 _).trans ?_
      have t3 : l 47 14 = h 1 2 := (ln 47 14 (by omega) (by omega)).trans t1
      have t4 : l 47 15 = h 1 3 := (ln 47 15 (by omega) (by omega)).trans t2
      show some ([vI ((mUp (mUp l 47 14 (w32 ((l 47 14) + 1))) 47 15 (w32 (((mUp l 47 14 (w32 ((l 47 14) + 1))) 47 15) - 1))) 47 15)], mUp (mUp l 47 14 (w32 ((l 47 14) + 1))) 47 15 (w32 (((mUp l 47 14 (w32 ((l 47 14) + 1))) 47 15) - 1))) = _
      rw [t3, w1]
      have t5 : (mUp l 47 14 (h 1 2 + 1)) 47 15 = h 1 3 := t4
      rw [t5, w2]
      rfl
    have q0 : ∀ {d : Nat → Int → Bool}, (∀ i, d 48 i = false) → (∀ i, d 49 i = false) → (∀ i, d 50 i = false) → (∀ i, d 51 i = false) → (∀ i, d 52 i = false) → (∀ i, d 53 i = false) → (∀ i, d 54 i = false) → (∀ i, d 55 i = false) → d 47 10 = false → d 47 11 = false → d 47 12 = false → d 47 13 = false → d 47 14 = false → d 47 15 = false → (∀ c i, d c i = true → g c i = h c i) → ∀ c i, d c i = true → f c i = h c i := fun q1 q2 q3 q4 q5 q6 q7 q8 r1 r2 r3 r4 r5 r6 q => mm_co1 r6 (mm_co1 r5 (mm_ly_co q1 q2 q3 q4 q5 q6 q7 q8 r1 r2 r3 r4 q))
    refine mm_Pr.of e1 e2 ⟨?_, ?_, mm_RD_co (q0 (fun _ => rfl) (fun _ => rfl) (fun _ => rfl) (fun _ => rfl) (fun _ => rfl) (fun _ => rfl) (fun _ => rfl) (fun _ => rfl) rfl rfl rfl rfl rfl rfl (by repeat (first | exact fun _ _ _ => rfl | refine mm_co1 rfl ?_ | refine mm_co2 (fun _ => rfl) ?_))) z3, mm_RI_co (q0 (fun _ => rfl) (fun _ => rfl) (fun _ => rfl) (fun _ => rfl) (fun _ => rfl) (fun _ => rfl) (fun _ => rfl) (fun _ => rfl) rfl rfl rfl rfl rfl rfl (by repeat (first | exact fun _ _ _ => rfl | refine mm_co1 rfl ?_ | refine mm_co2 (fun _ => rfl) ?_))) z4, mm_RB_co (q0 (fun _ => rfl) (fun _ => rfl) (fun _ => rfl) (fun _ => rfl) (fun _ => rfl) (fun _ => rfl) (fun _ => rfl) (fun _ => rfl) rfl rfl rfl rfl rfl rfl (by repeat (first | exact fun _ _ _ => rfl | refine mm_co1 rfl ?_ | refine mm_co2 (fun _ => rfl) ?_))) z5, mm_RS_co (q0 (fun _ => rfl) (fun _ => rfl) (fun _ => rfl) (fun _ => rfl) (fun _ => rfl) (fun _ => rfl) (fun _ => rfl) (fun _ => rfl) rfl rfl rfl rfl rfl rfl (by repeat (first | exact fun _ _ _ => rfl | refine mm_co1 rfl ?_ | refine mm_co2 (fun _ => rfl) ?_))) z6, mm_RT_co (q0 (fun _ => rfl) (fun _ => rfl) (fun _ => rfl) (fun _ => rfl) (fun _ => rfl) (fun _ => rfl) (fun _ => rfl) (fun _ => rfl) rfl rfl rfl rfl rfl rfl (by repeat (first | exact fun _ _ _ => rfl | refine mm_co1 rfl ?_ | refine mm_co2 (fun _ => rfl) ?_))) z7, mm_RL_co (q0 (fun _ => rfl) (fun _ => rfl) (fun _ => rfl) (fun _ => rfl) (fun _ => rfl) (fun _ => rfl) (fun _ => rfl) (fun _ => rfl) rfl rfl rfl rfl rfl rfl (by repeat (first | exact fun _ _ _ => rfl | refine mm_co1 rfl ?_ | refine mm_co2 (fun _ => rfl) ?_))) z8⟩
    · refine mm_RN_ly (h := h) y1 y6 (fun i => ?_) (fun w' k' z' => ?_) ?_ ?_ z1
      · show l 11 i = _
        rw [ln 11 i (by omega) (by omega)]
        show (if 11 = 11 ∧ i = _ then _ else h 11 i) = _
        by_cases q : i = mm_ct 100 (h 56 (h 1 2)) + h 57 (h 1 2)
        · rw [if_pos ⟨rfl, q⟩, if_pos q]
        · rw [if_neg (fun w => q w.2), if_neg q]
      · exact (mm_ly_vAt (h := g) y1 z')
      · show l 1 1 = _
        rw [ln 1 1 (by omega) (by omega)]
        rfl
      · show l 47 1 = _
        rw [ln 47 1 (by omega) (by omega)]
        rfl
    · have l12 : l 1 2 = h 1 2 + 1 := ln 1 2 (by omega) (by omega)
      have l13 : l 1 3 = h 1 3 - 1 := ln 1 3 (by omega) (by omega)
      refine mm_RU_mv (h := h) (fun c hc => ?_) (ln 1 4 (by omega) (by omega)) ?_ ?_ ?_ ?_ ?_ z2
      · funext i
        have : f c i = l c i := by
          rcases hc with rfl | rfl | rfl | rfl | rfl | rfl | rfl <;> rfl
        rw [this, ln c i (by omega) (by omega)]
        rcases hc with rfl | rfl | rfl | rfl | rfl | rfl | rfl <;> rfl
      · show h 1 2 + 1 = l 1 2
        omega
      · show h 1 3 - 1 = l 1 3
        omega
      · show 0 ≤ l 1 2
        omega
      · show 0 ≤ l 1 3
        omega
      · show l 1 2 + l 1 3 = _
        omega
