/-! image, back -/
theorem L_image1 : ∀ (m : Nat) (k : Int) (h : mm_M), 0 ≤ k → 0 ≤ h 47 1 → h 47 1 ≤ 7 → h 47 1 - k ≤ m → ∃ h', mm_ev mX10_image 1 18 [some (vR 47), some (vI k)] [] h = mm_ev mX10_image 1 80 [some (vR 47), some (vI 0)] [] h' ∧ (∀ c, c ≠ 75 → h' c = h c) ∧ (∀ p, k ≤ p → p < h 47 1 → h' 75 (3 * p) = h 71 p ∧ h' 75 (3 * p + 1) = h 72 p ∧ h' 75 (3 * p + 2) = h 73 p) ∧ ∀ x, x < 3 * k → h' 75 x = h 75 x := by
  intro m
  induction m with
  | zero =>
    intro k h k0 n0 n7 hm
    refine ⟨h, ?_, fun _ _ => rfl, fun p a b => ?_, fun _ _ => rfl⟩
    · rw [X10_image_18, if_pos (by omega)]
    · omega
  | succ m ih =>
    intro k h k0 n0 n7 hm
    by_cases z : h 47 1 ≤ k
    · refine ⟨h, ?_, fun _ _ => rfl, fun p a b => ?_, fun _ _ => rfl⟩
      · rw [X10_image_18, if_pos z]
      · omega
    · have w1 : w32 (3 * k) = 3 * k := w32_id (by unfold mm_r32; omega)
      have w2 : w32 (3 * k + 1) = 3 * k + 1 := w32_id (by unfold mm_r32; omega)
      have w3 : w32 (3 * k + 2) = 3 * k + 2 := w32_id (by unfold mm_r32; omega)
      have w4 : w32 (k + 1) = k + 1 := w32_id (by unfold mm_r32; omega)
      obtain ⟨h', e1, e2, e3, e4⟩ := ih (k + 1) (mUp (mUp (mUp h 75 (3 * k) (h 71 k)) 75 (3 * k + 1) (h 72 k)) 75 (3 * k + 2) (h 73 k)) (by omega) n0 n7 (by show h 47 1 - (k + 1) ≤ m; omega)
      refine ⟨h', ?_, fun c hc => ?_, fun p a b => ?_, fun x hx => ?_⟩
      · rw [X10_image_18, if_neg z, w1, w2, w3, w4, if_pos (by omega), if_pos (by omega), if_pos (by omega), if_pos (by omega), if_pos (by omega), if_pos (by omega)]
        exact e1
      · rw [e2 c hc, mUp_ne hc, mUp_ne hc, mUp_ne hc]
      · by_cases q : p = k
        · rw [q]
          have e5 := e4 (3 * k) (by omega)
          have e6 := e4 (3 * k + 1) (by omega)
          have e7 := e4 (3 * k + 2) (by omega)
          simp only [mUp_at] at e5 e6 e7
          rw [if_neg (by omega), if_neg (by omega), if_pos (by simp)] at e5
          rw [if_neg (by omega), if_pos (by simp)] at e6
          rw [if_pos (by simp)] at e7
          exact ⟨e5, e6, e7⟩
        · exact e3 p (by omega) b
      · rw [e4 x (by omega)]
        simp only [mUp_at]
        rw [if_neg (by omega), if_neg (by omega), if_neg (by omega)]
theorem L_image2 : ∀ (m : Nat) (k : Int) (h : mm_M), 0 ≤ k → 4 - k ≤ m → ∃ h', mm_ev mX10_image 1 80 [some (vR 47), some (vI k)] [] h = some ([vI (h 47 43)], h') ∧ (∀ c, c ≠ 76 → h' c = h c) ∧ (∀ p, k ≤ p → p < 4 → h' 76 p = h 74 p) ∧ ∀ x, x < k → h' 76 x = h 76 x := by
  intro m
  induction m with
  | zero =>
    intro k h k0 hm
    refine ⟨h, ?_, fun _ _ => rfl, fun p a b => ?_, fun _ _ => rfl⟩
    · rw [X10_image_80, if_pos (by omega)]
    · omega
  | succ m ih =>
    intro k h k0 hm
    by_cases z : 4 ≤ k
    · refine ⟨h, ?_, fun _ _ => rfl, fun p a b => ?_, fun _ _ => rfl⟩
      · rw [X10_image_80, if_pos z]
      · omega
    · have w4 : w32 (k + 1) = k + 1 := w32_id (by unfold mm_r32; omega)
      obtain ⟨h', e1, e2, e3, e4⟩ := ih (k + 1) (mUp h 76 k (h 74 k)) (by omega) (by omega)
      refine ⟨h', ?_, fun c hc => ?_, fun p a b => ?_, fun x hx => ?_⟩
      · rw [X10_image_80, if_neg z, w4, if_pos (by omega), if_pos (by omega)]
        exact e1
      · rw [e2 c hc, mUp_ne hc]
      · by_cases q : p = k
        · rw [q, e4 k (by omega), mUp_self]
        · exact e3 p (by omega) b
      · rw [e4 x (by omega), mUp_nei (by omega)]
theorem p_image (h : mm_M) (hI : mm_Inv h) : mm_Pr mX9_image mX10_image [] h mm_Inv := by
  obtain ⟨z1, z2, ⟨d1, d2, d3, d4, d5⟩, z4, z5, z6, z7, z8⟩ := id hI
  obtain ⟨n0, n7, n1, _⟩ := id z1
  let g : mm_M := mCpy (mCpy (mCpy (mCpy (mUp (mUp h 9 5 (h 1 1)) 9 6 (h 9 0)) 37 0 41 0 7) 38 0 42 0 7) 39 0 43 0 7) 40 0 44 0 4
  have e1 : mm_call mX9_image [vR 0] h = some ([vI (h 9 0)], g) := by
    rw [X9_image_c, X2_depict_c, if_pos (by decide), if_pos (by decide), if_pos (by decide), if_pos (by decide)]
    exact X9_image_14 _
  have c41 : ∀ p, 0 ≤ p → p < 7 → g 41 p = h 37 p := fun p a b => by simp [g, mCpy, mUp_at, a, b]
  have c42 : ∀ p, 0 ≤ p → p < 7 → g 42 p = h 38 p := fun p a b => by simp [g, mCpy, mUp_at, a, b]
  have c43 : ∀ p, 0 ≤ p → p < 7 → g 43 p = h 39 p := fun p a b => by simp [g, mCpy, mUp_at, a, b]
  have c44 : ∀ p, 0 ≤ p → p < 4 → g 44 p = h 40 p := fun p a b => by simp [g, mCpy, mUp_at, a, b]
  obtain ⟨f1, a1, a2, a3, a4⟩ := L_image1 7 0 (mUp (mUp g 47 45 (h 47 1)) 47 46 (h 47 43)) (by omega) (by show 0 ≤ h 47 1; omega) (by show h 47 1 ≤ 7; omega) (by show h 47 1 - 0 ≤ ((7 : Nat) : Int); omega)
  obtain ⟨f, b1, b2, b3, b4⟩ := L_image2 4 0 f1 (by omega) (by omega)
  have e2 : mm_call mX10_image [vR 47] g = some ([vI (h 9 0)], f) := by
    rw [X10_image_c]
    refine a1.trans (b1.trans ?_)
    rw [a2 47 (by decide)]
    exact congrArg (fun v => some ([vI v], f)) d1
  have ex : ∀ c, c ≠ 75 → c ≠ 76 → f c = (mUp (mUp g 47 45 (h 47 1)) 47 46 (h 47 43)) c := fun c q q' => by rw [b2 c q', a2 c q]
  have exd : ∀ {d : Nat → Int → Bool}, (∀ i, d 75 i = false) → (∀ i, d 76 i = false) → (∀ c i, d c i = true → (mUp (mUp g 47 45 (h 47 1)) 47 46 (h 47 43)) c i = h c i) → ∀ c i, d c i = true → f c i = h c i := by
    intro d q1 q2 q3 c i w
    rw [ex c (fun e => by rw [e, q1] at w; cases w) (fun e => by rw [e, q2] at w; cases w)]
    exact q3 c i w
  refine mm_Pr.of e1 e2 ⟨mm_RN_co (exd (fun _ => rfl) (fun _ => rfl) (by repeat (first | exact fun _ _ _ => rfl | refine mm_co1 rfl ?_ | refine mm_co2 (fun _ => rfl) ?_))) z1, mm_RU_co (exd (fun _ => rfl) (fun _ => rfl) (by repeat (first | exact fun _ _ _ => rfl | refine mm_co1 rfl ?_ | refine mm_co2 (fun _ => rfl) ?_))) z2, mm_RD_co (exd (fun _ => rfl) (fun _ => rfl) (by repeat (first | exact fun _ _ _ => rfl | refine mm_co1 rfl ?_ | refine mm_co2 (fun _ => rfl) ?_))) ⟨d1, d2, d3, d4, d5⟩, ?_, mm_RB_co (exd (fun _ => rfl) (fun _ => rfl) (by repeat (first | exact fun _ _ _ => rfl | refine mm_co1 rfl ?_ | refine mm_co2 (fun _ => rfl) ?_))) z5, mm_RS_co (exd (fun _ => rfl) (fun _ => rfl) (by repeat (first | exact fun _ _ _ => rfl | refine mm_co1 rfl ?_ | refine mm_co2 (fun _ => rfl) ?_))) z6, mm_RT_co (exd (fun _ => rfl) (fun _ => rfl) (by repeat (first | exact fun _ _ _ => rfl | refine mm_co1 rfl ?_ | refine mm_co2 (fun _ => rfl) ?_))) z7, mm_RL_co (exd (fun _ => rfl) (fun _ => rfl) (by repeat (first | exact fun _ _ _ => rfl | refine mm_co1 rfl ?_ | refine mm_co2 (fun _ => rfl) ?_))) z8⟩
  unfold mm_RI
  rw [ex 47 (by decide) (by decide), ex 9 (by decide) (by decide), ex 41 (by decide) (by decide), ex 42 (by decide) (by decide), ex 43 (by decide) (by decide), ex 44 (by decide) (by decide)]
  show h 47 1 = h 1 1 ∧ -1 ≤ h 1 1 ∧ h 1 1 ≤ 7 ∧ (0 ≤ h 1 1 → h 47 43 = h 9 0 ∧ 0 ≤ h 9 0 ∧ h 9 0 ≤ 9999 ∧ _ ∧ _)
  refine ⟨n1, by omega, n7, fun _ => ⟨d1, d2, d3, fun p p0 p1 => ?_, fun k k0 k4 => ?_⟩⟩
  · change p < h 1 1 at p1
    obtain ⟨c1, c2, c3⟩ : f1 75 (3 * p) = h 71 p ∧ f1 75 (3 * p + 1) = h 72 p ∧ f1 75 (3 * p + 2) = h 73 p := a3 p p0 (by show p < h 47 1; omega)
    obtain ⟨u1, u2, u3, u4⟩ := d4 p p0 p1
    rw [b2 75 (by decide), c1, c2, c3]
    show h 71 p = g 41 p ∧ 0 ≤ g 41 p ∧ g 41 p ≤ 9 ∧ mm_RH (g 42 p) (g 43 p) (h 72 p) (h 73 p)
    rw [c41 p p0 (by omega), c42 p p0 (by omega), c43 p p0 (by omega)]
    exact ⟨u1, u2, u3, u4⟩
  · rw [b3 k k0 k4, a2 74 (by decide)]
    show h 74 k = g 44 k
    rw [c44 k k0 k4]
    exact d5 k k0 k4
