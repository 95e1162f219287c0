/-! shelves -/
/-- why there is no place: the class's words -/
def sWhy (h : mm_M) (s i : Int) : Int := if 0 ≤ s ∧ s < 6 then (if 0 ≤ h 19 s then (if 0 ≤ i ∧ i < h 20 s then 0 else -13) else if h 19 s = -1 then -11 else -12) else -1
theorem c_why (h : mm_M) (s i : Int) : mm_call mX7_refusalOfPlace [vR 3, vI s, vI i] h = some ([vI (sWhy h s i)], h) := by
  unfold sWhy
  by_cases z : 0 ≤ s ∧ s < 6
  · simp only [c_isShelf, mm_bs, mm_ap, mm_ap0, mm_b01, Classical.not_not, and_self, and_true, true_and, not_true_eq_false, not_false_eq_true, mm_10, ↓reduceIte, X7_refusalOfPlace_c, X7_refusalOfPlace_5, z]
    try simp
    repeat' split
    all_goals first | rfl | (exfalso; omega)
  · simp only [c_isShelf, mm_bs, mm_ap, mm_ap0, mm_b01, Classical.not_not, and_self, and_true, true_and, not_true_eq_false, not_false_eq_true, mm_10, ↓reduceIte, X7_refusalOfPlace_c, X7_refusalOfPlace_5, z]
    try simp
theorem m_whyG (g h : mm_M) (s i : Int) (g9 : ∀ k, g 79 k = h 79 k) (g0 : ∀ k, g 80 k = h 80 k) (hS : mm_RS h) : mm_call mX10_whyNoPlace [vR 47, vI s, vI i] g = some ([vI (sWhy h s i)], g) := by
  unfold sWhy
  by_cases z : 0 ≤ s ∧ s < 6
  · obtain ⟨c1, c2, c3, c4, c5, c6, c7, c8⟩ := hS s z.1 z.2
    have e : (0 ≤ s ∧ s ≤ 5) := by omega
    by_cases z1 : 0 ≤ h 19 s
    · obtain ⟨r1, -⟩ := c8 z1
      have h79 : h 79 s = -2 - h 19 s := by rw [c3, if_neg (by omega), if_neg (by omega)]
      have a1 : ¬ h 79 s = -1 := by omega
      have a2 : h 79 s < 0 := by omega
      have w1 : w32 (h 80 s - 1) = h 20 s - 1 := by rw [r1]; exact w32_id (by unfold mm_r32; omega)
      have b : (0 ≤ i ∧ i ≤ h 20 s - 1) = (0 ≤ i ∧ i < h 20 s) := by apply propext; omega
      simp only [g9, g0, s_isShelf, s_in, mm_bs, mm_ap, mm_ap0, mm_b01, Classical.not_not, and_self, and_true, true_and, not_true_eq_false, not_false_eq_true, mm_10, ↓reduceIte, X10_whyNoPlace_c, X10_whyNoPlace_4, X10_whyNoPlace_47, z, e, z1, a1, a2, w1, b]
      by_cases q : 0 ≤ i ∧ i < h 20 s <;> simp [q, X10_whyNoPlace_c, X10_whyNoPlace_4, X10_whyNoPlace_47]
    · by_cases z2 : h 19 s = -1
      · have h79 : h 79 s = -1 := by rw [c3, if_pos z2]
        simp only [g9, g0, s_isShelf, s_in, mm_bs, mm_ap, mm_ap0, mm_b01, Classical.not_not, and_self, and_true, true_and, not_true_eq_false, not_false_eq_true, mm_10, ↓reduceIte, X10_whyNoPlace_c, X10_whyNoPlace_4, X10_whyNoPlace_47, z, e, z1, z2, h79]
        try simp
      · have h19 : h 19 s = -2 := by omega
        have h79 : h 79 s = h 21 s := by rw [c3, if_neg z2, if_pos h19]
        have := c4 h19
        have a1 : ¬ h 21 s = -1 := by omega
        have a2 : ¬ h 21 s < 0 := by omega
        simp only [g9, g0, s_isShelf, s_in, mm_bs, mm_ap, mm_ap0, mm_b01, Classical.not_not, and_self, and_true, true_and, not_true_eq_false, not_false_eq_true, mm_10, ↓reduceIte, X10_whyNoPlace_c, X10_whyNoPlace_4, X10_whyNoPlace_47, z, e, z1, z2, h79, a1, a2]
        try simp
  · have e : ¬ (0 ≤ s ∧ s ≤ 5) := by omega
    simp only [g9, g0, s_isShelf, s_in, mm_bs, mm_ap, mm_ap0, mm_b01, Classical.not_not, and_self, and_true, true_and, not_true_eq_false, not_false_eq_true, mm_10, ↓reduceIte, X10_whyNoPlace_c, X10_whyNoPlace_4, X10_whyNoPlace_47, z, e]
    try simp
theorem m_why (h : mm_M) (s i : Int) (hS : mm_RS h) : mm_call mX10_whyNoPlace [vR 47, vI s, vI i] h = some ([vI (sWhy h s i)], h) := m_whyG h h s i (fun _ => rfl) (fun _ => rfl) hS
theorem sWhy_0 {h : mm_M} {s i : Int} (z : sWhy h s i = 0) : 0 ≤ s ∧ s < 6 ∧ 0 ≤ h 19 s ∧ 0 ≤ i ∧ i < h 20 s := by
  unfold sWhy at z
  repeat' split at z
  all_goals first | omega | (exfalso; omega)
theorem sWhy_n {h : mm_M} {s i : Int} (z : ¬ sWhy h s i = 0) : sWhy h s i < 0 := by
  unfold sWhy at z ⊢
  repeat' split at z
  all_goals first | omega | simp_all
theorem c_read (h : mm_M) (s i : Int) (hS : mm_RS h) : mm_call mX7_read [vR 3, vI s, vI i] h = some ([vL (if sWhy h s i = 0 then h 22 (s * 60 + i) else 0)], h) := by
  by_cases z : sWhy h s i = 0
  · obtain ⟨a1, a2, a3, a4, a5⟩ := sWhy_0 z
    obtain ⟨c1, c2, c3, c4, c5, c6, c7, c8⟩ := hS s a1 a2
    have w1 : w32 (s * 60) = s * 60 := w32_id (by unfold mm_r32; omega)
    have w2 : w32 (s * 60 + i) = s * 60 + i := w32_id (by unfold mm_r32; omega)
    have b : 0 ≤ s * 60 + i ∧ s * 60 + i < 360 := by omega
    simp only [c_why, mm_bs, mm_ap, mm_ap0, mm_b01, Classical.not_not, and_self, and_true, true_and, not_true_eq_false, not_false_eq_true, mm_10, ↓reduceIte, X7_read_c, X7_read_6, z, w1, w2, b]
    try simp
  · simp only [c_why, mm_bs, mm_ap, mm_ap0, mm_b01, Classical.not_not, and_self, and_true, true_and, not_true_eq_false, not_false_eq_true, mm_10, ↓reduceIte, X7_read_c, X7_read_6, z]
    try simp
theorem p_element (h : mm_M) (s i : Int) (hI : mm_Inv h) : mm_Pr mX9_element mX10_element [vI s, vI i] h mm_Inv := by
  have hS := hI.2.2.2.2.2.1
  by_cases z : sWhy h s i = 0
  · obtain ⟨a1, a2, a3, a4, a5⟩ := sWhy_0 z
    obtain ⟨c1, c2, c3, c4, c5, c6, c7, c8⟩ := hS s a1 a2
    obtain ⟨r1, r2⟩ := c8 a3
    have w1 : w32 (60 * s) = 60 * s := w32_id (by unfold mm_r32; omega)
    have w2 : w32 (60 * s + i) = 60 * s + i := w32_id (by unfold mm_r32; omega)
    have b : 0 ≤ 60 * s + i ∧ 60 * s + i < 360 := by omega
    refine mm_Pr.of (v := vL (h 22 (s * 60 + i))) (h1 := h) (h2 := h) ?_ ?_ hI
    · simp only [c_why, c_read h s i hS, mm_bs, mm_ap, mm_ap0, mm_b01, Classical.not_not, and_self, and_true, true_and, not_true_eq_false, not_false_eq_true, mm_10, ↓reduceIte, X9_element_c, X9_element_9, X9_element_27, z]
    · simp only [m_why h s i hS, mm_bs, mm_ap, mm_ap0, mm_b01, Classical.not_not, and_self, and_true, true_and, not_true_eq_false, not_false_eq_true, mm_10, ↓reduceIte, X10_element_c, X10_element_6, z, w1, w2, b, (r2 i a4 a5).1]
      try simp
  · have z2 : ¬ 0 ≤ sWhy h s i := by have := sWhy_n z; omega
    refine mm_Pr.of (v := vL (-9223372036854775808)) (h1 := h) (h2 := h) ?_ ?_ hI
    · simp only [c_why, mm_bs, mm_ap, mm_ap0, mm_b01, Classical.not_not, and_self, and_true, true_and, not_true_eq_false, not_false_eq_true, mm_10, ↓reduceIte, X9_element_c, X9_element_9, X9_element_27, z]
    · simp only [m_why h s i hS, mm_bs, mm_ap, mm_ap0, mm_b01, Classical.not_not, and_self, and_true, true_and, not_true_eq_false, not_false_eq_true, mm_10, ↓reduceIte, X10_element_c, X10_element_6, z2]
def sNar (k v : Int) : Int := if k = 0 then w8 (w32 v) else if k = 1 then w16 (w32 v) else if k = 2 then w32 v else if k = 3 then v else if v = 0 then 0 else 1
theorem lCmp0 (v : Int) : (lCmp v 0 = 0) = (v = 0) := by
  unfold lCmp
  apply propext
  repeat' split
  all_goals omega
theorem c_nar (h : mm_M) (k v : Int) : mm_call mX7_narrowed [vI k, vL v] h = some ([vL (sNar k v)], h) := by
  unfold sNar
  simp only [X7_narrowed_c, lCmp0]
  repeat' split
  all_goals rfl
theorem sNar_r {k v : Int} (hv : mm_r64 v) : mm_r64 (sNar k v) := by
  unfold sNar
  have h1 := w8_r (w32 v)
  have h2 := w16_r (w32 v)
  have h3 := w32_r v
  unfold mm_r32 at h3
  unfold mm_r64 at hv ⊢
  repeat' split
  all_goals omega
theorem sNar_el {k v : Int} (hv : mm_r64 v) : mm_el k (sNar k v) := ⟨sNar_r hv, fun q => by
  have := w16_r (w32 v)
  unfold sNar
  rw [if_neg (by omega), if_pos q]
  omega⟩
theorem p_put (h : mm_M) (s i v : Int) (hI : mm_Inv h) (hv : mm_r64 v) : mm_Pr mX9_put mX10_put [vI s, vI i, vL v] h mm_Inv := by
  obtain ⟨z1, z2, z3, z4, z5, hS, z7, z8⟩ := id hI
  by_cases z : sWhy h s i = 0
  · obtain ⟨a1, a2, a3, a4, a5⟩ := sWhy_0 z
    obtain ⟨c1, c2, c3, c4, c5, c6, c7, c8⟩ := hS s a1 a2
    obtain ⟨r1, r2⟩ := c8 a3
    have w1 : w32 (60 * s) = 60 * s := w32_id (by unfold mm_r32; omega)
    have w2 : w32 (60 * s + i) = 60 * s + i := w32_id (by unfold mm_r32; omega)
    have w3 : w32 (s * 60) = s * 60 := w32_id (by unfold mm_r32; omega)
    have w4 : w32 (s * 60 + i) = s * 60 + i := w32_id (by unfold mm_r32; omega)
    have b : 0 ≤ 60 * s + i ∧ 60 * s + i < 360 := by omega
    have b2 : 0 ≤ s * 60 + i ∧ s * 60 + i < 360 := by omega
    have h79 : h 79 s = -2 - h 19 s := by rw [c3, if_neg (by omega), if_neg (by omega)]
    have w5 : w32 (-2 - (-2 - h 19 s)) = h 19 s := by rw [w32_id (by unfold mm_r32; omega)]; omega
    have e1 : mm_call mX9_put [vR 0, vI s, vI i, vL v] h = some ([vI 1], mUp h 22 (s * 60 + i) (sNar (h 19 s) v)) := by
      simp only [c_why, c_nar, mm_bs, mm_ap, mm_ap0, mm_b01, Classical.not_not, and_self, and_true, true_and, not_true_eq_false, not_false_eq_true, mm_10, ↓reduceIte, X9_put_c, X9_put_9, X9_put_29, X7_write_c, X7_write_6, X7_write_29, z, w3, w4, b2, a1, a2]
    have e2 : ∀ g : mm_M, (∀ c k, mm_dS c k = true → c ≠ 22 → g c k = h c k) → mm_call mX10_whyNoPlace [vR 47, vI s, vI i] g = some ([vI 0], g) → mm_call mX10_put [vR 47, vI s, vI i, vL v] g = some ([vI 1], mUp g 81 (60 * s + i) (sNar (h 19 s) v)) := by
      intro g hg hw
      have g79 : g 79 s = -2 - h 19 s := by rw [hg 79 s rfl (by decide), h79]
      unfold sNar
      simp only [hw, mm_bs, mm_ap, mm_ap0, mm_b01, Classical.not_not, and_self, and_true, true_and, not_true_eq_false, not_false_eq_true, mm_10, ↓reduceIte, X10_put_c, X10_put_6, w1, w2, b, a1, a2, g79, w5, lCmp0]
      try simp
      repeat' split
      all_goals first | rfl | (exfalso; omega)
    have hg := e2 (mUp h 22 (s * 60 + i) (sNar (h 19 s) v)) (fun c k w hc => congrFun (mUp_ne hc) k) (by rw [m_whyG (mUp h 22 (s * 60 + i) (sNar (h 19 s) v)) h s i (fun _ => rfl) (fun _ => rfl) hS, z])
    refine mm_Pr.of e1 hg ⟨mm_RN_co (by repeat (first | exact fun _ _ _ => rfl | refine mm_co1 rfl ?_ | refine mm_co2 (fun _ => rfl) ?_)) z1, mm_RU_co (by repeat (first | exact fun _ _ _ => rfl | refine mm_co1 rfl ?_ | refine mm_co2 (fun _ => rfl) ?_)) z2, mm_RD_co (by repeat (first | exact fun _ _ _ => rfl | refine mm_co1 rfl ?_ | refine mm_co2 (fun _ => rfl) ?_)) z3, mm_RI_co (by repeat (first | exact fun _ _ _ => rfl | refine mm_co1 rfl ?_ | refine mm_co2 (fun _ => rfl) ?_)) z4, mm_RB_co (by repeat (first | exact fun _ _ _ => rfl | refine mm_co1 rfl ?_ | refine mm_co2 (fun _ => rfl) ?_)) z5, ?_, mm_RT_co (by repeat (first | exact fun _ _ _ => rfl | refine mm_co1 rfl ?_ | refine mm_co2 (fun _ => rfl) ?_)) z7, mm_RL_co (by repeat (first | exact fun _ _ _ => rfl | refine mm_co1 rfl ?_ | refine mm_co2 (fun _ => rfl) ?_)) z8⟩
    have hx := sNar_el (k := h 19 s) hv
    intro t t0 t1
    obtain ⟨d1, d2, d3, d4, d5, d6, d7, d8⟩ := hS t t0 t1
    refine ⟨d1, d2, d3, d4, d5, d6, d7, fun q => ⟨(d8 q).1, fun j j0 j1 => ?_⟩⟩
    have d8' := (d8 q).2 j j0 j1
    have j1 : j < h 20 t := j1
    simp only [mUp_at]
    by_cases e : t = s ∧ j = i
    · obtain ⟨rfl, rfl⟩ := e
      have e' : 60 * t + j = t * 60 + j := by omega
      simp [e', hx]
    · have n1 : ¬ t * 60 + j = s * 60 + i := by omega
      have n2 : ¬ 60 * t + j = 60 * s + i := by omega
      simp [n1, n2]
      exact d8'
  · have z2 : ¬ 0 ≤ sWhy h s i := by have := sWhy_n z; omega
    refine mm_Pr.of (v := vI (sWhy h s i)) (h1 := h) (h2 := h) ?_ ?_ hI
    · simp only [c_why, mm_bs, mm_ap, mm_ap0, mm_b01, Classical.not_not, and_self, and_true, true_and, not_true_eq_false, not_false_eq_true, mm_10, ↓reduceIte, X9_put_c, X9_put_9, X9_put_29, z]
    · simp only [m_why h s i hS, mm_bs, mm_ap, mm_ap0, mm_b01, Classical.not_not, and_self, and_true, true_and, not_true_eq_false, not_false_eq_true, mm_10, ↓reduceIte, X10_put_c, X10_put_6, z2]
theorem c_hold (h : mm_M) (s b : Int) (z : 0 ≤ s ∧ s < 6) : mm_call mX7_hold [vR 3, vI s, vI b] h = some ([], mUp (mUp (mUp h 19 s (if 0 ≤ b then -2 else -1)) 20 s 0) 21 s b) := by
  by_cases q : 0 ≤ b
  · simp [X7_hold_c, X7_hold_15, q, z]
  · simp [X7_hold_c, X7_hold_15, q, z]
theorem p_keep (h : mm_M) (s b : Int) (hI : mm_Inv h) : mm_Pr mX9_keep mX10_keep [vI s, vI b] h mm_Inv := by
  obtain ⟨z1, z2, z3, z4, ⟨b1, b2, b3, b4⟩, hS, z7, z8⟩ := id hI
  have w1 : w32 (h 47 49 - 1) = h 10 0 - 1 := by rw [b1]; exact w32_id (by unfold mm_r32; omega)
  by_cases z : 0 ≤ s ∧ s < 6
  · have e : 0 ≤ s ∧ s ≤ 5 := by omega
    by_cases q : -1 ≤ b ∧ b < h 10 0
    · have q1 : ¬ b < -1 := by omega
      have e1 : mm_call mX9_keep [vR 0, vI s, vI b] h = some ([vI 1], mUp (mUp (mUp h 19 s (if 0 ≤ b then -2 else -1)) 20 s 0) 21 s b) := by
        simp only [c_isShelf, c_hold h s b z, mm_bs, mm_ap, mm_ap0, mm_b01, Classical.not_not, and_self, and_true, true_and, not_true_eq_false, not_false_eq_true, mm_10, ↓reduceIte, X9_keep_c, X9_keep_8, X9_keep_38, z, q1, q]
      have e2 : ∀ g : mm_M, g 47 49 = h 47 49 → mm_call mX10_keep [vR 47, vI s, vI b] g = some ([vI 1], mUp g 79 s b) := by
        intro g hg
        by_cases q2 : b = -1
        · simp only [s_isShelf, mm_bs, mm_ap, mm_ap0, mm_b01, Classical.not_not, and_self, and_true, true_and, not_true_eq_false, not_false_eq_true, mm_10, ↓reduceIte, X10_keep_c, X10_keep_4, X10_keep_17, X10_keep_22, e, q2, z]
        · have q3 : 0 ≤ b ∧ b ≤ h 10 0 - 1 := by omega
          simp only [s_isShelf, s_isBody, hg, w1, mm_bs, mm_ap, mm_ap0, mm_b01, Classical.not_not, and_self, and_true, true_and, not_true_eq_false, not_false_eq_true, mm_10, ↓reduceIte, X10_keep_c, X10_keep_4, X10_keep_17, X10_keep_22, e, q2, q3, z]
          try simp
      refine mm_Pr.of e1 (e2 _ rfl) ⟨mm_RN_co (by repeat (first | exact fun _ _ _ => rfl | refine mm_co1 rfl ?_ | refine mm_co2 (fun _ => rfl) ?_)) z1, mm_RU_co (by repeat (first | exact fun _ _ _ => rfl | refine mm_co1 rfl ?_ | refine mm_co2 (fun _ => rfl) ?_)) z2, mm_RD_co (by repeat (first | exact fun _ _ _ => rfl | refine mm_co1 rfl ?_ | refine mm_co2 (fun _ => rfl) ?_)) z3, mm_RI_co (by repeat (first | exact fun _ _ _ => rfl | refine mm_co1 rfl ?_ | refine mm_co2 (fun _ => rfl) ?_)) z4, mm_RB_co (by repeat (first | exact fun _ _ _ => rfl | refine mm_co1 rfl ?_ | refine mm_co2 (fun _ => rfl) ?_)) ⟨b1, b2, b3, b4⟩, ?_, mm_RT_co (by repeat (first | exact fun _ _ _ => rfl | refine mm_co1 rfl ?_ | refine mm_co2 (fun _ => rfl) ?_)) z7, mm_RL_co (by repeat (first | exact fun _ _ _ => rfl | refine mm_co1 rfl ?_ | refine mm_co2 (fun _ => rfl) ?_)) z8⟩
      intro t t0 t1
      obtain ⟨d1, d2, d3, d4, d5, d6, d7, d8⟩ := hS t t0 t1
      simp only [mUp_at]
      by_cases et : t = s
      · subst et
        by_cases q4 : 0 ≤ b
        · simp [q4]; omega
        · simp [q4]; omega
      · simp [et]
        exact ⟨d1, d2, d3, d4, d5, d6, d7, d8⟩
    · refine mm_Pr.of (v := vI (-1)) (h1 := h) (h2 := h) ?_ ?_ hI
      · by_cases q1 : b < -1
        · simp only [c_isShelf, mm_bs, mm_ap, mm_ap0, mm_b01, Classical.not_not, and_self, and_true, true_and, not_true_eq_false, not_false_eq_true, mm_10, ↓reduceIte, X9_keep_c, X9_keep_8, X9_keep_38, z, q1]
          try simp
        · have q2 : ¬ b < h 10 0 := by omega
          simp only [c_isShelf, mm_bs, mm_ap, mm_ap0, mm_b01, Classical.not_not, and_self, and_true, true_and, not_true_eq_false, not_false_eq_true, mm_10, ↓reduceIte, X9_keep_c, X9_keep_8, X9_keep_38, z, q1, q2]
          try simp
      · have q2 : ¬ b = -1 := by omega
        have q3 : ¬ (0 ≤ b ∧ b ≤ h 10 0 - 1) := by omega
        simp only [s_isShelf, s_isBody, w1, mm_bs, mm_ap, mm_ap0, mm_b01, Classical.not_not, and_self, and_true, true_and, not_true_eq_false, not_false_eq_true, mm_10, ↓reduceIte, X10_keep_c, X10_keep_4, X10_keep_17, X10_keep_22, e, q2, q3]
        try simp
  · have e : ¬ (0 ≤ s ∧ s ≤ 5) := by omega
    refine mm_Pr.of (v := vI (-1)) (h1 := h) (h2 := h) ?_ ?_ hI
    · simp only [c_isShelf, mm_bs, mm_ap, mm_ap0, mm_b01, Classical.not_not, and_self, and_true, true_and, not_true_eq_false, not_false_eq_true, mm_10, ↓reduceIte, X9_keep_c, X9_keep_8, X9_keep_38, z]
      try simp
    · simp only [s_isShelf, mm_bs, mm_ap, mm_ap0, mm_b01, Classical.not_not, and_self, and_true, true_and, not_true_eq_false, not_false_eq_true, mm_10, ↓reduceIte, X10_keep_c, X10_keep_4, X10_keep_17, X10_keep_22, e]
      try simp
