/-! back -/
theorem L_lay (a : Int) : ∀ (m : Nat) (k : Int) (h : mm_M), 0 ≤ k → 7 - k ≤ m → ∃ h', mm_ev mX2_layBack 2 76 [some (vR 9), some (vI a), some (vI k)] [] h = some ([], h') ∧ (∀ c, c ≠ 37 → c ≠ 38 → c ≠ 39 → h' c = h c) ∧ (∀ p, k ≤ p → p < 7 → h' 37 p = a ∧ h' 38 p = -2000000000) ∧ ∀ p, p < k → h' 37 p = h 37 p ∧ h' 38 p = h 38 p ∧ h' 39 p = h 39 p := by
  intro m
  induction m with
  | zero =>
    intro k h k0 hm
    refine ⟨h, ?_, fun _ _ _ _ => rfl, fun p a b => ?_, fun _ _ => ⟨rfl, rfl, rfl⟩⟩
    · rw [X2_layBack_76, if_pos (by omega)]
    · omega
  | succ m ih =>
    intro k h k0 hm
    by_cases z : 7 ≤ k
    · refine ⟨h, ?_, fun _ _ _ _ => rfl, fun p a b => ?_, fun _ _ => ⟨rfl, rfl, rfl⟩⟩
      · rw [X2_layBack_76, if_pos z]
      · omega
    · have w4 : w32 (k + 1) = k + 1 := w32_id (by unfold mm_r32; omega)
      obtain ⟨h', e1, e2, e3, e4⟩ := ih (k + 1) (mUp (mUp (mUp h 37 k a) 38 k (-2000000000)) 39 k (h 9 0)) (by omega) (by omega)
      refine ⟨h', ?_, fun c h1 h2 h3 => ?_, fun p a b => ?_, fun x hx => ?_⟩
      · rw [X2_layBack_76, if_neg z, X2_forget_c, if_pos (by omega), if_pos (by omega), if_pos (by omega), mm_bs]
        refine (X2_layBack_88 _ _ _).trans ?_
        rw [w4]
        exact e1
      · rw [e2 c h1 h2 h3, mUp_ne h3, mUp_ne h2, mUp_ne h1]
      · by_cases q : p = k
        · rw [q]
          obtain ⟨y1, y2, y3⟩ := e4 k (by omega)
          simp only [mUp_at] at y1 y2 y3
          rw [if_neg (by omega), if_neg (by omega), if_pos (by simp)] at y1
          rw [if_neg (by omega), if_pos (by simp)] at y2
          exact ⟨y1, y2⟩
        · exact e3 p (by omega) b
      · obtain ⟨y1, y2, y3⟩ := e4 x (by omega)
        simp only [mUp_at] at y1 y2 y3
        rw [if_neg (by omega), if_neg (by omega), if_neg (by omega)] at y1 y2 y3
        exact ⟨y1, y2, y3⟩
theorem L_back1 : ∀ (m : Nat) (k : Int) (o : Option mm_V) (h : mm_M), 0 ≤ k → 0 ≤ h 47 1 → h 47 1 ≤ 7 → h 47 1 - k ≤ m → ∃ h' o', mm_ev mX10_back 1 20 [some (vR 47), some (vI k), o] [] h = mm_ev mX10_back 1 123 [some (vR 47), some (vI 0), o'] [] h' ∧ (∀ c, c ≠ 71 → c ≠ 72 → c ≠ 73 → h' c = h c) ∧ (∀ p, k ≤ p → p < h 47 1 → (h 47 45 ≤ p → h' 71 p = h 47 10 ∧ h' 72 p = -1) ∧ (¬ h 47 45 ≤ p → h' 71 p = h 75 (3 * p) ∧ h' 72 p = h 75 (3 * p + 1) ∧ h' 73 p = h 75 (3 * p + 2))) ∧ ∀ p, p < k → h' 71 p = h 71 p ∧ h' 72 p = h 72 p ∧ h' 73 p = h 73 p := by
  intro m
  induction m with
  | zero =>
    intro k o h k0 n0 n7 hm
    refine ⟨h, o, ?_, fun _ _ _ _ => rfl, fun p a b => ?_, fun _ _ => ⟨rfl, rfl, rfl⟩⟩
    · rw [X10_back_20, if_pos (by omega)]
    · omega
  | succ m ih =>
    intro k o h k0 n0 n7 hm
    by_cases z : h 47 1 ≤ k
    · refine ⟨h, o, ?_, fun _ _ _ _ => rfl, fun p a b => ?_, fun _ _ => ⟨rfl, rfl, rfl⟩⟩
      · rw [X10_back_20, if_pos z]
      · omega
    · have w1 : w32 (3 * k) = 3 * k := w32_id (by unfold mm_r32; omega)
      have w2 : w32 (3 * k + 1) = 3 * k + 1 := w32_id (by unfold mm_r32; omega)
      have w3 : w32 (3 * k + 2) = 3 * k + 2 := w32_id (by unfold mm_r32; omega)
      have w4 : w32 (k + 1) = k + 1 := w32_id (by unfold mm_r32; omega)
      have b1 : 0 ≤ k ∧ k < 7 := by omega
      by_cases y : h 47 45 ≤ k
      · obtain ⟨h', o', e1, e2, e3, e4⟩ := ih (k + 1) (some (vI 0)) (mUp (mUp (mUp h 71 k (h 47 10)) 72 k (-1)) 73 k 0) (by omega) n0 n7 (by show h 47 1 - (k + 1) ≤ m; omega)
        refine ⟨h', o', ?_, fun c h1 h2 h3 => ?_, fun p a b => ?_, fun x hx => ?_⟩
        · rw [X10_back_20, if_neg z, if_pos y, X10_back_41, if_pos rfl, X10_back_66, if_pos b1, if_pos rfl, X10_back_90, if_pos b1, if_pos rfl, if_pos b1, w4]
          exact e1
        · rw [e2 c h1 h2 h3, mUp_ne h3, mUp_ne h2, mUp_ne h1]
        · by_cases q : p = k
          · rw [q]
            obtain ⟨y1, y2, y3⟩ := e4 k (by omega)
            simp only [mUp_at] at y1 y2 y3
            rw [if_neg (by omega), if_neg (by omega), if_pos (by simp)] at y1
            rw [if_neg (by omega), if_pos (by simp)] at y2
            exact ⟨fun _ => ⟨y1, y2⟩, fun w => absurd y w⟩
          · exact e3 p (by omega) b
        · obtain ⟨y1, y2, y3⟩ := e4 x (by omega)
          simp only [mUp_at] at y1 y2 y3
          rw [if_neg (by omega), if_neg (by omega), if_neg (by omega)] at y1 y2 y3
          exact ⟨y1, y2, y3⟩
      · obtain ⟨h', o', e1, e2, e3, e4⟩ := ih (k + 1) (some (vI 1)) (mUp (mUp (mUp h 71 k (h 75 (3 * k))) 72 k (h 75 (3 * k + 1))) 73 k (h 75 (3 * k + 2))) (by omega) n0 n7 (by show h 47 1 - (k + 1) ≤ m; omega)
        refine ⟨h', o', ?_, fun c h1 h2 h3 => ?_, fun p a b => ?_, fun x hx => ?_⟩
        · rw [X10_back_20, if_neg z, if_neg y, X10_back_41, if_neg (by decide), w1, if_pos (by omega), X10_back_66, if_pos b1, if_neg (by decide), w1, w2, if_pos (by omega), X10_back_90, if_pos b1, if_neg (by decide), w1, w3, if_pos (by omega), if_pos b1, w4]
          exact e1
        · rw [e2 c h1 h2 h3, mUp_ne h3, mUp_ne h2, mUp_ne h1]
        · by_cases q : p = k
          · rw [q]
            obtain ⟨y1, y2, y3⟩ := e4 k (by omega)
            simp only [mUp_at] at y1 y2 y3
            rw [if_neg (by omega), if_neg (by omega), if_pos (by simp)] at y1
            rw [if_neg (by omega), if_pos (by simp)] at y2
            rw [if_pos (by simp)] at y3
            exact ⟨fun w => absurd w y, fun _ => ⟨y1, y2, y3⟩⟩
          · exact e3 p (by omega) b
        · obtain ⟨y1, y2, y3⟩ := e4 x (by omega)
          simp only [mUp_at] at y1 y2 y3
          rw [if_neg (by omega), if_neg (by omega), if_neg (by omega)] at y1 y2 y3
          exact ⟨y1, y2, y3⟩
theorem L_back2 (o : Option mm_V) : ∀ (m : Nat) (k : Int) (h : mm_M), 0 ≤ k → 4 - k ≤ m → ∃ h', mm_ev mX10_back 1 123 [some (vR 47), some (vI k), o] [] h = some ([vI (h 47 43)], h') ∧ (∀ c, c ≠ 74 → h' c = h c) ∧ (∀ p, k ≤ p → p < 4 → h' 74 p = h 76 p) ∧ ∀ x, x < k → h' 74 x = h 74 x := by
  intro m
  induction m with
  | zero =>
    intro k h k0 hm
    refine ⟨h, ?_, fun _ _ => rfl, fun p a b => ?_, fun _ _ => rfl⟩
    · rw [X10_back_123, if_pos (by omega)]
    · omega
  | succ m ih =>
    intro k h k0 hm
    by_cases z : 4 ≤ k
    · refine ⟨h, ?_, fun _ _ => rfl, fun p a b => ?_, fun _ _ => rfl⟩
      · rw [X10_back_123, if_pos z]
      · omega
    · have w4 : w32 (k + 1) = k + 1 := w32_id (by unfold mm_r32; omega)
      obtain ⟨h', e1, e2, e3, e4⟩ := ih (k + 1) (mUp h 74 k (h 76 k)) (by omega) (by omega)
      refine ⟨h', ?_, fun c hc => ?_, fun p a b => ?_, fun x hx => ?_⟩
      · rw [X10_back_123, if_neg z, w4, if_pos (by omega), if_pos (by omega)]
        exact e1
      · rw [e2 c hc, mUp_ne hc]
      · by_cases q : p = k
        · rw [q, e4 k (by omega), mUp_self]
        · exact e3 p (by omega) b
      · rw [e4 x (by omega), mUp_nei (by omega)]
theorem p_back (h : mm_M) (hI : mm_Inv h) : mm_Pr mX9_back mX10_back [] h mm_Inv := by
  obtain ⟨z1, z2, z3, ⟨i1, i2, i3, i4⟩, z5, z6, z7, z8⟩ := id hI
  obtain ⟨n0, n7, n1, nv⟩ := id z1
  by_cases z : 0 ≤ h 9 5
  · obtain ⟨j1, j2, j3, j4, j5⟩ := i4 z
    obtain ⟨v1, v2, v3⟩ : h 47 10 = h 11 (mm_ct 100 8 + 0) ∧ mm_ct 102 8 ≤ h 11 (mm_ct 100 8 + 0) ∧ h 11 (mm_ct 100 8 + 0) ≤ mm_ct 103 8 := nv 8 0 ⟨by decide, by decide, by decide, by decide⟩
    have v4 : 0 ≤ h 47 10 ∧ h 47 10 ≤ 9 := by
      rw [v1]
      exact ⟨v2, v3⟩
    let g0 : mm_M := mCpy (mCpy (mCpy (mCpy (mUp h 9 0 (h 9 6)) 41 0 37 0 7) 42 0 38 0 7) 43 0 39 0 7) 44 0 40 0 4
    have c37 : ∀ p, 0 ≤ p → p < 7 → g0 37 p = h 41 p := fun p a b => by simp [g0, mCpy, mUp_at, a, b]
    have c38 : ∀ p, 0 ≤ p → p < 7 → g0 38 p = h 42 p := fun p a b => by simp [g0, mCpy, mUp_at, a, b]
    have c39 : ∀ p, 0 ≤ p → p < 7 → g0 39 p = h 43 p := fun p a b => by simp [g0, mCpy, mUp_at, a, b]
    have c40 : ∀ p, 0 ≤ p → p < 4 → g0 40 p = h 44 p := fun p a b => by simp [g0, mCpy, mUp_at, a, b]
    obtain ⟨g, l1, l2, l3, l4⟩ := L_lay (h 47 10) 7 (h 9 5) g0 z (by omega)
    have e1 : mm_call mX9_back [vR 0] h = some ([vI (h 9 6)], g) := by
      rw [X9_back_c, if_pos z, c_the h 8 (by decide), mm_bs]
      refine (X9_back_26 _ _).trans ?_
      rw [X2_layBack_c, if_pos (by decide), if_pos (by decide), if_pos (by decide), if_pos (by decide)]
      rw [show h 11 (mm_ct 100 8) = h 47 10 from v1.symm]
      have l1' : mm_ev mX2_layBack 2 76 [some (vR 9), some (vI (h 47 10)), some (vI (g0 9 5))] [] g0 = some ([], g) := l1
      rw [show (mCpy (mCpy (mCpy (mCpy (mUp h 9 0 (h 9 6)) 41 0 37 0 7) 42 0 38 0 7) 43 0 39 0 7) 44 0 40 0 4) = g0 from rfl, l1', mm_bs]
      refine (X9_back_29 _).trans ?_
      show some ([vI (g 9 0)], g) = _
      rw [l2 9 (by decide) (by decide) (by decide)]
      rfl
    have gg : ∀ c, 44 < c → g c = h c := fun c hc => by
      rw [l2 c (by omega) (by omega) (by omega)]
      funext x
      simp only [g0, mCpy, mUp_at]
      rw [if_neg (by omega), if_neg (by omega), if_neg (by omega), if_neg (by omega), if_neg (by omega)]
    obtain ⟨f1, o1, a1, a2, a3, a4⟩ := L_back1 7 0 none (mUp g 47 43 (h 47 46)) (by omega) (by show 0 ≤ g 47 1; rw [gg 47 (by decide)]; omega) (by show g 47 1 ≤ 7; rw [gg 47 (by decide)]; omega) (by show g 47 1 - 0 ≤ ((7 : Nat) : Int); rw [gg 47 (by decide)]; omega)
    obtain ⟨f, b1, b2, b3, b4⟩ := L_back2 o1 4 0 f1 (by omega) (by omega)
    have e2 : mm_call mX10_back [vR 47] g = some ([vI (h 9 6)], f) := by
      rw [X10_back_c, gg 47 (by decide), if_pos (by omega)]
      refine a1.trans (b1.trans ?_)
      rw [a2 47 (by decide) (by decide) (by decide)]
      exact congrArg (fun v => some ([vI v], f)) j1
    have ex : ∀ c, c ≠ 71 → c ≠ 72 → c ≠ 73 → c ≠ 74 → f c = (mUp g 47 43 (h 47 46)) c := fun c q1 q2 q3 q4 => by rw [b2 c q4, a2 c q1 q2 q3]
    have exd : ∀ {d : Nat → Int → Bool}, (∀ i, d 37 i = false) → (∀ i, d 38 i = false) → (∀ i, d 39 i = false) → (∀ i, d 71 i = false) → (∀ i, d 72 i = false) → (∀ i, d 73 i = false) → (∀ i, d 74 i = false) → (∀ c i, d c i = true → (mUp g0 47 43 (h 47 46)) c i = h c i) → ∀ c i, d c i = true → f c i = h c i := by
      intro d r1 r2 r3 q1 q2 q3 q4 q5 c i w
      rw [ex c (fun e => by rw [e, q1] at w; cases w) (fun e => by rw [e, q2] at w; cases w) (fun e => by rw [e, q3] at w; cases w) (fun e => by rw [e, q4] at w; cases w)]
      have := q5 c i w
      rw [← this, mUp_at, mUp_at, l2 c (fun e => by rw [e, r1] at w; cases w) (fun e => by rw [e, r2] at w; cases w) (fun e => by rw [e, r3] at w; cases w)]
    refine mm_Pr.of e1 e2 ⟨mm_RN_co (exd (fun _ => rfl) (fun _ => rfl) (fun _ => rfl) (fun _ => rfl) (fun _ => rfl) (fun _ => rfl) (fun _ => rfl) (by repeat (first | exact fun _ _ _ => rfl | refine mm_co1 rfl ?_ | refine mm_co2 (fun _ => rfl) ?_))) z1, mm_RU_co (exd (fun _ => rfl) (fun _ => rfl) (fun _ => rfl) (fun _ => rfl) (fun _ => rfl) (fun _ => rfl) (fun _ => rfl) (by repeat (first | exact fun _ _ _ => rfl | refine mm_co1 rfl ?_ | refine mm_co2 (fun _ => rfl) ?_))) z2, ?_, mm_RI_co (exd (fun _ => rfl) (fun _ => rfl) (fun _ => rfl) (fun _ => rfl) (fun _ => rfl) (fun _ => rfl) (fun _ => rfl) (by repeat (first | exact fun _ _ _ => rfl | refine mm_co1 rfl ?_ | refine mm_co2 (fun _ => rfl) ?_))) ⟨i1, i2, i3, i4⟩, mm_RB_co (exd (fun _ => rfl) (fun _ => rfl) (fun _ => rfl) (fun _ => rfl) (fun _ => rfl) (fun _ => rfl) (fun _ => rfl) (by repeat (first | exact fun _ _ _ => rfl | refine mm_co1 rfl ?_ | refine mm_co2 (fun _ => rfl) ?_))) z5, mm_RS_co (exd (fun _ => rfl) (fun _ => rfl) (fun _ => rfl) (fun _ => rfl) (fun _ => rfl) (fun _ => rfl) (fun _ => rfl) (by repeat (first | exact fun _ _ _ => rfl | refine mm_co1 rfl ?_ | refine mm_co2 (fun _ => rfl) ?_))) z6, mm_RT_co (exd (fun _ => rfl) (fun _ => rfl) (fun _ => rfl) (fun _ => rfl) (fun _ => rfl) (fun _ => rfl) (fun _ => rfl) (by repeat (first | exact fun _ _ _ => rfl | refine mm_co1 rfl ?_ | refine mm_co2 (fun _ => rfl) ?_))) z7, mm_RL_co (exd (fun _ => rfl) (fun _ => rfl) (fun _ => rfl) (fun _ => rfl) (fun _ => rfl) (fun _ => rfl) (fun _ => rfl) (by repeat (first | exact fun _ _ _ => rfl | refine mm_co1 rfl ?_ | refine mm_co2 (fun _ => rfl) ?_))) z8⟩
    unfold mm_RD
    rw [ex 47 (by decide) (by decide) (by decide) (by decide), ex 9 (by decide) (by decide) (by decide) (by decide), ex 1 (by decide) (by decide) (by decide) (by decide), ex 37 (by decide) (by decide) (by decide) (by decide), ex 38 (by decide) (by decide) (by decide) (by decide), ex 39 (by decide) (by decide) (by decide) (by decide), ex 40 (by decide) (by decide) (by decide) (by decide)]
    show h 47 46 = g 9 0 ∧ 0 ≤ g 9 0 ∧ g 9 0 ≤ 9999 ∧ (∀ p : Int, 0 ≤ p → p < g 1 1 → f 71 p = g 37 p ∧ 0 ≤ g 37 p ∧ g 37 p ≤ 9 ∧ mm_RH (g 38 p) (g 39 p) (f 72 p) (f 73 p)) ∧ ∀ k : Int, 0 ≤ k → k < 4 → f 74 k = g 40 k
    have g9 : g 9 0 = h 9 6 := by
      rw [l2 9 (by decide) (by decide) (by decide)]
      rfl
    have g1 : g 1 1 = h 1 1 := by
      rw [l2 1 (by decide) (by decide) (by decide)]
      rfl
    rw [g9, g1]
    refine ⟨j1, j2, j3, fun p p0 p1 => ?_, fun k k0 k4 => ?_⟩
    · obtain ⟨y1, y2⟩ := a3 p p0 (by show p < g 47 1; rw [gg 47 (by decide)]; omega)
      rw [b2 71 (by decide), b2 72 (by decide), b2 73 (by decide)]
      have y0 : (mUp g 47 43 (h 47 46)) 47 45 = h 9 5 := by
        show g 47 45 = h 9 5
        rw [gg 47 (by decide)]
        exact i1
      rw [y0] at y1 y2
      by_cases q : h 9 5 ≤ p
      · obtain ⟨t1, t2⟩ := y1 q
        obtain ⟨t3, t4⟩ := l3 p q (by omega)
        rw [t1, t2, t3, t4]
        have t5 : (mUp g 47 43 (h 47 46)) 47 10 = h 47 10 := by
          show g 47 10 = h 47 10
          rw [gg 47 (by decide)]
        rw [t5]
        exact ⟨rfl, v4.1, v4.2, Or.inl ⟨rfl, rfl⟩⟩
      · obtain ⟨t1, t2, t3⟩ := y2 q
        obtain ⟨t4, t5, t6⟩ := l4 p (by omega)
        have t7 : ∀ x, (mUp g 47 43 (h 47 46)) 75 x = h 75 x := fun x => by
          show g 75 x = h 75 x
          rw [gg 75 (by decide)]
        rw [t1, t2, t3, t4, t5, t6, t7, t7, t7, c37 p p0 (by omega), c38 p p0 (by omega), c39 p p0 (by omega)]
        exact j4 p p0 (by omega)
    · rw [b3 k k0 k4, a2 76 (by decide) (by decide) (by decide), l2 40 (by decide) (by decide) (by decide), c40 k k0 k4]
      show g 76 k = h 44 k
      rw [gg 76 (by decide)]
      exact j5 k k0 k4
  · refine mm_Pr.of (v := vI (-5)) (h1 := h) (h2 := h) ?_ ?_ hI
    · rw [X9_back_c, if_neg z]
    · rw [X10_back_c, if_neg (by omega)]
