/-! undo, redo -/
theorem mm_inj {w k w' k' : Int} (z : mm_wk w k) (z' : mm_wk w' k') (e : mm_ct 100 w + k = mm_ct 100 w' + k') : w = w' ∧ k = k' := by
  obtain ⟨a, b, c, d⟩ := z
  obtain ⟨a', b', c', d'⟩ := z'
  have f : ∀ {w k : Int}, 0 ≤ w → w < 12 → 0 ≤ k → k < mm_ct 101 w → (w = 0 ∧ k < 7 ∧ mm_ct 100 w = 0) ∨ (w = 1 ∧ k < 7 ∧ mm_ct 100 w = 7) ∨ (w = 2 ∧ k < 7 ∧ mm_ct 100 w = 14) ∨ (w = 3 ∧ k < 10 ∧ mm_ct 100 w = 21) ∨ (w = 4 ∧ k < 10 ∧ mm_ct 100 w = 31) ∨ (w = 5 ∧ k < 4 ∧ mm_ct 100 w = 41) ∨ (w = 6 ∧ k < 4 ∧ mm_ct 100 w = 45) ∨ (w = 7 ∧ k < 4 ∧ mm_ct 100 w = 49) ∨ (w = 8 ∧ k < 1 ∧ mm_ct 100 w = 53) ∨ (w = 9 ∧ k < 1 ∧ mm_ct 100 w = 54) ∨ (w = 10 ∧ k < 1 ∧ mm_ct 100 w = 55) ∨ (w = 11 ∧ k < 1 ∧ mm_ct 100 w = 56) := by
    intro w k a b c d
    rcases mm_w12 a (by omega) with rfl | rfl | rfl | rfl | rfl | rfl | rfl | rfl | rfl | rfl | rfl | rfl <;> simp [mm_ct] at d ⊢ <;> omega
  have g := f a b c d
  have g' := f a' b' c' d'
  omega
/-- numbers laid -/
def mm_ly (h : mm_M) (w k v : Int) : mm_M := if w = 0 then mUp h 48 k v else if w = 1 then mUp h 49 k v else if w = 2 then mUp h 50 k v else if w = 3 then mUp h 51 k v else if w = 4 then mUp h 52 k v else if w = 5 then mUp h 53 k v else if w = 6 then mUp h 54 k v else if w = 7 then mUp h 55 k v else if w = 8 then mUp h 47 10 v else if w = 9 then mUp h 47 11 v else if w = 10 then mUp h 47 12 v else mUp h 47 13 v
theorem s_lays (h : mm_M) (w k v : Int) (z : mm_wk w k) : mm_call mX10_lays [vR 47, vI w, vI k, vI v] h = some ([], mm_ly h w k v) := by
  obtain ⟨a, b, c, d⟩ := z
  rcases mm_w12 a (by omega) with rfl | rfl | rfl | rfl | rfl | rfl | rfl | rfl | rfl | rfl | rfl | rfl <;> simp [mm_ct] at d <;> simp [mm_ly, X10_lays_c, c, d]
theorem mm_ly_vAt {h : mm_M} {w k v w' k' : Int} (z : mm_wk w k) (z' : mm_wk w' k') : mm_vAt (mm_ly h w k v) w' k' = if w' = w ∧ k' = k then v else mm_vAt h w' k' := by
  obtain ⟨a, b, c, d⟩ := z
  obtain ⟨a', b', c', d'⟩ := z'
  rcases mm_w12 a (by omega) with rfl | rfl | rfl | rfl | rfl | rfl | rfl | rfl | rfl | rfl | rfl | rfl <;> rcases mm_w12 a' (by omega) with rfl | rfl | rfl | rfl | rfl | rfl | rfl | rfl | rfl | rfl | rfl | rfl <;> simp [mm_ct] at d d' <;> simp [mm_ly, mm_vAt, mUp_at] <;> omega
theorem mm_ly_ne {h : mm_M} {w k v : Int} {c : Nat} {i : Int} (a : c < 48 ∨ 55 < c) (b : c = 47 → i < 10 ∨ 13 < i) : mm_ly h w k v c i = h c i := by
  unfold mm_ly
  repeat' split
  all_goals (rw [mUp_at, if_neg]; omega)
theorem mm_RN_ly {h h2 : mm_M} {w k v : Int} (z : mm_wk w k) (y : mm_inr w v) (e11 : ∀ i, h2 11 i = if i = mm_ct 100 w + k then v else h 11 i) (ev : ∀ w' k', mm_wk w' k' → mm_vAt h2 w' k' = if w' = w ∧ k' = k then v else mm_vAt h w' k') (e1 : h2 1 1 = h 1 1) (e2 : h2 47 1 = h 47 1) (hN : mm_RN h) : mm_RN h2 := by
  obtain ⟨n0, n7, n1, nv⟩ := hN
  unfold mm_RN
  rw [e1, e2]
  refine ⟨n0, n7, n1, fun w' k' z' => ?_⟩
  rw [ev w' k' z', e11]
  by_cases q : w' = w ∧ k' = k
  · rw [if_pos q, if_pos (by rw [q.1, q.2]), q.1]
    exact ⟨rfl, y⟩
  · rw [if_neg q, if_neg (fun e => q (mm_inj z' z e))]
    exact nv w' k' z'
theorem mm_RU_mv {h h2 : mm_M} (e : ∀ c, c = 12 ∨ c = 13 ∨ c = 14 ∨ c = 56 ∨ c = 57 ∨ c = 58 ∨ c = 59 → h2 c = h c) (e4 : h2 1 4 = h 1 4) (a : h2 47 14 = h2 1 2) (b : h2 47 15 = h2 1 3) (c : 0 ≤ h2 1 2) (d : 0 ≤ h2 1 3) (s : h2 1 2 + h2 1 3 = h 1 2 + h 1 3) (hU : mm_RU h) : mm_RU h2 := by
  obtain ⟨u1, u2, u3, u4, u5, u6, u7, u8⟩ := hU
  unfold mm_RU
  rw [e 12 (by decide), e 13 (by decide), e 14 (by decide), e 56 (by decide), e 57 (by decide), e 58 (by decide), e 59 (by decide), e4, s]
  exact ⟨a, b, c, d, u5, u6, u7, u8⟩
theorem mm_tm {a : Int} (h : 0 ≤ a) : a.tmod 40 = a % 40 := Int.tmod_eq_emod_of_nonneg h
theorem mm_ly_co {d : Nat → Int → Bool} {h g : mm_M} {a k v : Int} (q1 : ∀ i, d 48 i = false) (q2 : ∀ i, d 49 i = false) (q3 : ∀ i, d 50 i = false) (q4 : ∀ i, d 51 i = false) (q5 : ∀ i, d 52 i = false) (q6 : ∀ i, d 53 i = false) (q7 : ∀ i, d 54 i = false) (q8 : ∀ i, d 55 i = false) (r1 : d 47 10 = false) (r2 : d 47 11 = false) (r3 : d 47 12 = false) (r4 : d 47 13 = false) (q : ∀ c i, d c i = true → g c i = h c i) : ∀ c i, d c i = true → mm_ly g a k v c i = h c i := by
  intro c i w
  rw [mm_ly_ne ?_ ?_]
  · exact q c i w
  · apply Classical.byContradiction
    intro n
    have : c = 48 ∨ c = 49 ∨ c = 50 ∨ c = 51 ∨ c = 52 ∨ c = 53 ∨ c = 54 ∨ c = 55 := by omega
    rcases this with rfl | rfl | rfl | rfl | rfl | rfl | rfl | rfl
    · rw [q1] at w; cases w
    · rw [q2] at w; cases w
    · rw [q3] at w; cases w
    · rw [q4] at w; cases w
    · rw [q5] at w; cases w
    · rw [q6] at w; cases w
    · rw [q7] at w; cases w
    · rw [q8] at w; cases w
  · intro e
    subst e
    apply Classical.byContradiction
    intro n
    have : i = 10 ∨ i = 11 ∨ i = 12 ∨ i = 13 := by omega
    rcases this with rfl | rfl | rfl | rfl
    · rw [r1] at w; cases w
    · rw [r2] at w; cases w
    · rw [r3] at w; cases w
    · rw [r4] at w; cases w
theorem p_undo (h : mm_M) (hI : mm_Inv h) : mm_Pr mX9_undo mX10_undo [] h mm_Inv := by
  obtain ⟨z1, z2, z3, z4, z5, z6, z7, z8⟩ := id hI
  obtain ⟨u1, u2, u3, u4, u5, u6, u7, u8⟩ := id z2
  by_cases z : h 1 2 = 0
  · refine mm_Pr.of (v := vI (-5)) (h1 := h) (h2 := h) ?_ ?_ hI
    · rw [X9_undo_c, X4_takeBack_c, if_neg (fun w => w z), mm_bs]
      exact X9_undo_7 _ _
    · rw [X10_undo_c, if_neg (fun w => w (u1.trans z))]
  · have w1 : w32 (h 1 2 - 1) = h 1 2 - 1 := w32_id (by unfold mm_r32; omega)
    have w2 : w32 (h 1 3 + 1) = h 1 3 + 1 := w32_id (by unfold mm_r32; omega)
    have w3 : w32 (h 1 4 + (h 1 2 - 1)) = h 1 4 + (h 1 2 - 1) := w32_id (by unfold mm_r32; omega)
    obtain ⟨y1, y2, y3, y4, y5, y6⟩ := u8 (h 1 2 - 1) (by omega) (by omega)
    have m1 : (h 1 4 + (h 1 2 - 1)).tmod 40 = (h 1 4 + (h 1 2 - 1)) % 40 := mm_tm (by omega)
    have m2 : 0 ≤ (h 1 4 + (h 1 2 - 1)) % 40 ∧ (h 1 4 + (h 1 2 - 1)) % 40 < 40 := by omega
    obtain ⟨k1, k2, k3⟩ := mm_cell y1
    let g : mm_M := mUp (mUp (mUp h 1 2 (h 1 2 - 1)) 1 3 (h 1 3 + 1)) 11 (mm_ct 100 (h 56 (h 1 2 - 1)) + h 57 (h 1 2 - 1)) (h 58 (h 1 2 - 1))
    let g2 : mm_M := mUp (mUp g 47 14 (h 1 2 - 1)) 47 15 (h 1 3 + 1)
    let f : mm_M := mm_ly g2 (h 56 (h 1 2 - 1)) (h 57 (h 1 2 - 1)) (h 58 (h 1 2 - 1))
    have fn : ∀ c i, (c < 48 ∨ 55 < c) → (c = 47 → i < 10 ∨ 13 < i) → f c i = g2 c i := fun c i a b => mm_ly_ne a b
    have e1 : mm_call mX9_undo [vR 0] h = some ([vI (h 1 2 - 1)], g) := by
      rw [X9_undo_c, X4_takeBack_c, if_pos z]
      have t1 : (mUp h 1 2 (h 1 2 - 1)) 1 3 = h 1 3 := rfl
      rw [w1, t1, w2]
      have t2 : (mUp (mUp h 1 2 (h 1 2 - 1)) 1 3 (h 1 3 + 1)) 1 4 = h 1 4 := rfl
      have t3 : (mUp (mUp h 1 2 (h 1 2 - 1)) 1 3 (h 1 3 + 1)) 1 2 = h 1 2 - 1 := rfl
      have t4 : (mUp (mUp h 1 2 (h 1 2 - 1)) 1 3 (h 1 3 + 1)) 12 = h 12 := rfl
      have t5 : (mUp (mUp h 1 2 (h 1 2 - 1)) 1 3 (h 1 3 + 1)) 13 = h 13 := rfl
      rw [t2, t3, w3, m1, t4, t5, y2, y3, if_pos m2, if_pos m2, if_pos ⟨k1, k2⟩, mm_bs]
      exact X9_undo_7 _ _
    have e2 : mm_call mX10_undo [vR 47] g = some ([vI (h 1 2 - 1)], f) := by
      rw [X10_undo_c, if_pos (by show ¬ h 47 14 = 0; omega)]
      have t1 : g 47 14 = h 1 2 := u1
      rw [t1, w1]
      have t2 : (mUp g 47 14 (h 1 2 - 1)) 47 15 = h 1 3 := u2
      rw [t2, w2]
      rw [show mUp (mUp g 47 14 (h 1 2 - 1)) 47 15 (h 1 3 + 1) = g2 from rfl]
      have t3 : g2 47 14 = h 1 2 - 1 := rfl
      rw [t3, if_pos (by omega), if_pos (by omega), if_pos (by omega), show g2 56 = h 56 from rfl, show g2 57 = h 57 from rfl, show g2 58 = h 58 from rfl, s_lays g2 _ _ _ y1, mm_bs]
      refine (X10_undo_61 _).trans ?_
      show some ([vI (f 47 14)], f) = _
      rw [fn 47 14 (by omega) (by omega)]
      rfl
    refine mm_Pr.of e1 e2 ⟨?_, ?_, mm_RD_co (mm_ly_co (fun _ => rfl) (fun _ => rfl) (fun _ => rfl) (fun _ => rfl) (fun _ => rfl) (fun _ => rfl) (fun _ => rfl) (fun _ => rfl) rfl rfl rfl rfl (by repeat (first | exact fun _ _ _ => rfl | refine mm_co1 rfl ?_ | refine mm_co2 (fun _ => rfl) ?_))) z3, mm_RI_co (mm_ly_co (fun _ => rfl) (fun _ => rfl) (fun _ => rfl) (fun _ => rfl) (fun _ => rfl) (fun _ => rfl) (fun _ => rfl) (fun _ => rfl) rfl rfl rfl rfl (by repeat (first | exact fun _ _ _ => rfl | refine mm_co1 rfl ?_ | refine mm_co2 (fun _ => rfl) ?_))) z4, mm_RB_co (mm_ly_co (fun _ => rfl) (fun _ => rfl) (fun _ => rfl) (fun _ => rfl) (fun _ => rfl) (fun _ => rfl) (fun _ => rfl) (fun _ => rfl) rfl rfl rfl rfl (by repeat (first | exact fun _ _ _ => rfl | refine mm_co1 rfl ?_ | refine mm_co2 (fun _ => rfl) ?_))) z5, mm_RS_co (mm_ly_co (fun _ => rfl) (fun _ => rfl) (fun _ => rfl) (fun _ => rfl) (fun _ => rfl) (fun _ => rfl) (fun _ => rfl) (fun _ => rfl) rfl rfl rfl rfl (by repeat (first | exact fun _ _ _ => rfl | refine mm_co1 rfl ?_ | refine mm_co2 (fun _ => rfl) ?_))) z6, mm_RT_co (mm_ly_co (fun _ => rfl) (fun _ => rfl) (fun _ => rfl) (fun _ => rfl) (fun _ => rfl) (fun _ => rfl) (fun _ => rfl) (fun _ => rfl) rfl rfl rfl rfl (by repeat (first | exact fun _ _ _ => rfl | refine mm_co1 rfl ?_ | refine mm_co2 (fun _ => rfl) ?_))) z7, mm_RL_co (mm_ly_co (fun _ => rfl) (fun _ => rfl) (fun _ => rfl) (fun _ => rfl) (fun _ => rfl) (fun _ => rfl) (fun _ => rfl) (fun _ => rfl) rfl rfl rfl rfl (by repeat (first | exact fun _ _ _ => rfl | refine mm_co1 rfl ?_ | refine mm_co2 (fun _ => rfl) ?_))) z8⟩
    · refine mm_RN_ly (h := h) y1 y5 (fun i => ?_) (fun w' k' z' => ?_) ?_ ?_ z1
      · rw [fn 11 i (by omega) (by omega)]
        show (if 11 = 11 ∧ i = _ then _ else h 11 i) = _
        by_cases q : i = mm_ct 100 (h 56 (h 1 2 - 1)) + h 57 (h 1 2 - 1)
        · rw [if_pos ⟨rfl, q⟩, if_pos q]
        · rw [if_neg (fun w => q w.2), if_neg q]
      · exact mm_ly_vAt y1 z'
      · rw [fn 1 1 (by omega) (by omega)]
        rfl
      · rw [fn 47 1 (by omega) (by omega)]
        rfl
    · refine mm_RU_mv (h := h) (fun c hc => ?_) ?_ ?_ ?_ ?_ ?_ ?_ z2
      · funext i
        rw [fn c i (by omega) (by omega)]
        rcases hc with rfl | rfl | rfl | rfl | rfl | rfl | rfl <;> rfl
      · rw [fn 1 4 (by omega) (by omega)]
        rfl
      · rw [fn 47 14 (by omega) (by omega), fn 1 2 (by omega) (by omega)]
        rfl
      · rw [fn 47 15 (by omega) (by omega), fn 1 3 (by omega) (by omega)]
        rfl
      · rw [fn 1 2 (by omega) (by omega)]
        show 0 ≤ h 1 2 - 1
        omega
      · rw [fn 1 3 (by omega) (by omega)]
        show 0 ≤ h 1 3 + 1
        omega
      · rw [fn 1 2 (by omega) (by omega), fn 1 3 (by omega) (by omega)]
        show (h 1 2 - 1) + (h 1 3 + 1) = _
        omega
