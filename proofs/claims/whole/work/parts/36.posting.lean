/-! post, both alike -/
theorem mm_post (h : mm_M) (x y q : Int) (hI : mm_Inv h) (n : h 1 1 < 7) (hx : 0 ≤ x ∧ x ≤ 99) (hy : 0 ≤ y ∧ y ≤ 99) (hq : 0 ≤ q ∧ q ≤ 12) : mm_Inv (mm_ad (mm_en h x y q) x y q) := by
  obtain ⟨z1, z2, z3, z4, z5, z6, z7, z8⟩ := id hI
  obtain ⟨n0, n7, n1, nv⟩ := id z1
  obtain ⟨d1, d2, d3, d4, d5⟩ := id z3
  let F : mm_M := mUp (mUp (mUp (mUp (mUp (mUp (mUp (mm_en h x y q) 48 (h 1 1) x) 49 (h 1 1) y) 50 (h 1 1) q) 71 (h 1 1) (h 47 10)) 72 (h 1 1) (-1)) 73 (h 1 1) 0) 47 1 (h 1 1 + 1)
  have eF : mm_ad (mm_en h x y q) x y q = F := by
    have e1 : mm_en h x y q 47 1 = h 1 1 := n1
    unfold mm_ad
    rw [e1]
    rfl
  rw [eF]
  have fr : ∀ {d : Nat → Int → Bool}, (∀ i, d 11 i = false) → d 1 1 = false → (∀ i, d 37 i = false) → (∀ i, d 38 i = false) → (∀ i, d 39 i = false) → (∀ i, d 48 i = false) → (∀ i, d 49 i = false) → (∀ i, d 50 i = false) → (∀ i, d 71 i = false) → (∀ i, d 72 i = false) → (∀ i, d 73 i = false) → d 47 1 = false → ∀ c i, d c i = true → F c i = h c i := fun a1 a2 a3 a4 a5 a6 a7 a8 a9 b1 b2 b3 => mm_co1 b3 (mm_co1 (b2 _) (mm_co1 (b1 _) (mm_co1 (a9 _) (mm_co1 (a8 _) (mm_co1 (a7 _) (mm_co1 (a6 _) (mm_co1 (a5 _) (mm_co1 (a4 _) (mm_co1 (a3 _) (mm_co1 a2 (mm_co1 (a1 _) (mm_co1 (a1 _) (mm_co1 (a1 _) (fun _ _ _ => rfl))))))))))))))
  obtain ⟨v1, v2, v3⟩ : h 47 10 = h 11 (mm_ct 100 8 + 0) ∧ mm_ct 102 8 ≤ h 11 (mm_ct 100 8 + 0) ∧ h 11 (mm_ct 100 8 + 0) ≤ mm_ct 103 8 := nv 8 0 ⟨by decide, by decide, by decide, by decide⟩
  refine ⟨?_, mm_RU_co (fr (fun _ => rfl) rfl (fun _ => rfl) (fun _ => rfl) (fun _ => rfl) (fun _ => rfl) (fun _ => rfl) (fun _ => rfl) (fun _ => rfl) (fun _ => rfl) (fun _ => rfl) rfl) z2, ?_, mm_RI_co (fr (fun _ => rfl) rfl (fun _ => rfl) (fun _ => rfl) (fun _ => rfl) (fun _ => rfl) (fun _ => rfl) (fun _ => rfl) (fun _ => rfl) (fun _ => rfl) (fun _ => rfl) rfl) z4, mm_RB_co (fr (fun _ => rfl) rfl (fun _ => rfl) (fun _ => rfl) (fun _ => rfl) (fun _ => rfl) (fun _ => rfl) (fun _ => rfl) (fun _ => rfl) (fun _ => rfl) (fun _ => rfl) rfl) z5, mm_RS_co (fr (fun _ => rfl) rfl (fun _ => rfl) (fun _ => rfl) (fun _ => rfl) (fun _ => rfl) (fun _ => rfl) (fun _ => rfl) (fun _ => rfl) (fun _ => rfl) (fun _ => rfl) rfl) z6, mm_RT_co (fr (fun _ => rfl) rfl (fun _ => rfl) (fun _ => rfl) (fun _ => rfl) (fun _ => rfl) (fun _ => rfl) (fun _ => rfl) (fun _ => rfl) (fun _ => rfl) (fun _ => rfl) rfl) z7, mm_RL_co (fr (fun _ => rfl) rfl (fun _ => rfl) (fun _ => rfl) (fun _ => rfl) (fun _ => rfl) (fun _ => rfl) (fun _ => rfl) (fun _ => rfl) (fun _ => rfl) (fun _ => rfl) rfl) z8⟩
  · have F11 : ∀ i, F 11 i = if 11 = 11 ∧ i = 14 + h 1 1 then q else if 11 = 11 ∧ i = 7 + h 1 1 then y else if 11 = 11 ∧ i = h 1 1 then x else h 11 i := fun i => rfl
    show 0 ≤ h 1 1 + 1 ∧ h 1 1 + 1 ≤ 7 ∧ h 1 1 + 1 = h 1 1 + 1 ∧ ∀ w k : Int, mm_wk w k → mm_vAt F w k = F 11 (mm_ct 100 w + k) ∧ mm_inr w (F 11 (mm_ct 100 w + k))
    refine ⟨by omega, by omega, rfl, fun w k z => ?_⟩
    obtain ⟨t1, t2⟩ := nv w k z
    obtain ⟨a, b, c, d⟩ := id z
    by_cases w3 : 3 ≤ w
    · have e : mm_vAt F w k = mm_vAt h w k := by
        unfold mm_vAt
        rw [if_neg (by omega), if_neg (by omega), if_neg (by omega), if_neg (c := w = 0) (by omega), if_neg (c := w = 1) (by omega), if_neg (c := w = 2) (by omega)]
        rfl
      have e21 : 21 ≤ mm_ct 100 w := by
        rcases mm_w12 a (by omega) with rfl | rfl | rfl | rfl | rfl | rfl | rfl | rfl | rfl | rfl | rfl | rfl <;> first | (exfalso; omega) | decide
      rw [e, F11, if_neg (by omega), if_neg (by omega), if_neg (by omega)]
      exact ⟨t1, t2⟩
    · have : w = 0 ∨ w = 1 ∨ w = 2 := by omega
      rcases this with rfl | rfl | rfl
      · have d7 : k < 7 := d
        rw [show mm_ct 100 0 + k = k from by show 0 + k = k; omega] at t1 t2 ⊢
        rw [F11, if_neg (by omega), if_neg (by omega)]
        show (if 48 = 48 ∧ k = h 1 1 then x else h 48 k) = _ ∧ _
        by_cases e : k = h 1 1
        · rw [if_pos ⟨rfl, e⟩, if_pos ⟨rfl, e⟩]
          exact ⟨rfl, hx⟩
        · rw [if_neg (fun w => e w.2), if_neg (fun w => e w.2)]
          exact ⟨t1, t2⟩
      · have d7 : k < 7 := d
        rw [show mm_ct 100 1 + k = 7 + k from rfl] at t1 t2 ⊢
        rw [F11, if_neg (by omega)]
        show (if 49 = 49 ∧ k = h 1 1 then y else h 49 k) = _ ∧ _
        by_cases e : k = h 1 1
        · rw [if_pos ⟨rfl, e⟩, if_pos ⟨rfl, by omega⟩]
          exact ⟨rfl, hy⟩
        · rw [if_neg (fun w => e w.2), if_neg (by omega), if_neg (by omega)]
          exact ⟨t1, t2⟩
      · have d7 : k < 7 := d
        rw [show mm_ct 100 2 + k = 14 + k from rfl] at t1 t2 ⊢
        rw [F11]
        show (if 50 = 50 ∧ k = h 1 1 then q else h 50 k) = _ ∧ _
        by_cases e : k = h 1 1
        · rw [if_pos ⟨rfl, e⟩, if_pos ⟨rfl, by omega⟩]
          exact ⟨rfl, hq⟩
        · rw [if_neg (fun w => e w.2), if_neg (by omega), if_neg (by omega), if_neg (by omega)]
          exact ⟨t1, t2⟩
  · show h 47 43 = h 9 0 ∧ 0 ≤ h 9 0 ∧ h 9 0 ≤ 9999 ∧ (∀ p : Int, 0 ≤ p → p < h 1 1 + 1 → (if 71 = 71 ∧ p = h 1 1 then h 47 10 else h 71 p) = (if 37 = 37 ∧ p = h 1 1 then h 11 53 else h 37 p) ∧ 0 ≤ (if 37 = 37 ∧ p = h 1 1 then h 11 53 else h 37 p) ∧ (if 37 = 37 ∧ p = h 1 1 then h 11 53 else h 37 p) ≤ 9 ∧ mm_RH (if 38 = 38 ∧ p = h 1 1 then -2000000000 else h 38 p) (if 39 = 39 ∧ p = h 1 1 then h 9 0 else h 39 p) (if 72 = 72 ∧ p = h 1 1 then -1 else h 72 p) (if 73 = 73 ∧ p = h 1 1 then 0 else h 73 p)) ∧ ∀ k : Int, 0 ≤ k → k < 4 → h 74 k = h 40 k
    refine ⟨d1, d2, d3, fun p p0 p1 => ?_, d5⟩
    by_cases e : p = h 1 1
    · rw [if_pos ⟨rfl, e⟩, if_pos ⟨rfl, e⟩, if_pos ⟨rfl, e⟩, if_pos ⟨rfl, e⟩, if_pos ⟨rfl, e⟩, if_pos ⟨rfl, e⟩]
      exact ⟨v1, v2, v3, Or.inl ⟨rfl, rfl⟩⟩
    · rw [if_neg (fun w => e w.2), if_neg (fun w => e w.2), if_neg (fun w => e w.2), if_neg (fun w => e w.2), if_neg (fun w => e w.2), if_neg (fun w => e w.2)]
      exact d4 p p0 (by omega)
theorem p_post (h : mm_M) (x y : Int) (hI : mm_Inv h) : mm_Pr mX9_post mX10_post [vI x, vI y] h mm_Inv := by
  obtain ⟨n0, n7, n1, nv⟩ := id hI.1
  have m0 : ∀ v, (if 0 ≤ (0 : Int) ∧ (0 : Int) ≤ 11 ∧ mm_ct 102 0 ≤ v ∧ v ≤ mm_ct 103 0 then (1 : Int) else 0) = if 0 ≤ v ∧ v ≤ 99 then 1 else 0 := fun v => by
    by_cases e : 0 ≤ v ∧ v ≤ 99
    · rw [if_pos e, if_pos ⟨by decide, by decide, e.1, e.2⟩]
    · rw [if_neg e, if_neg (fun w => e ⟨w.2.2.1, w.2.2.2⟩)]
  have m1 : ∀ v, (if 0 ≤ (1 : Int) ∧ (1 : Int) ≤ 11 ∧ mm_ct 102 1 ≤ v ∧ v ≤ mm_ct 103 1 then (1 : Int) else 0) = if 0 ≤ v ∧ v ≤ 99 then 1 else 0 := fun v => by
    by_cases e : 0 ≤ v ∧ v ≤ 99
    · rw [if_pos e, if_pos ⟨by decide, by decide, e.1, e.2⟩]
    · rw [if_neg e, if_neg (fun w => e ⟨w.2.2.1, w.2.2.2⟩)]
  by_cases ex : 0 ≤ x ∧ x ≤ 99
  · by_cases ey : 0 ≤ y ∧ y ≤ 99
    · have e1 : mm_call mX9_post [vR 0, vI x, vI y] h = if h 1 1 < 7 then some ([vI (h 1 1)], mm_en h x y 0) else some ([vI (-3)], h) := by
        rw [X9_post_c, c_mayBe, m0, if_pos ex, mm_bs]
        refine (X9_post_9 _ _ _ _).trans ?_
        rw [if_neg (by decide), c_mayBe, m1, if_pos ey, mm_bs]
        refine (X9_post_21 _ _ _ _).trans ?_
        rw [if_pos (by decide)]
        show (if h 1 1 < 7 then _ else _) = _
        by_cases n : h 1 1 < 7
        · rw [if_pos n, if_pos n, c_enlist h x y 0 ⟨n0, n⟩, mm_bs]
          exact X9_post_50 _ _ _ _
        · rw [if_neg n, if_neg n]
          exact X9_post_50 _ _ _ _
      have e2 : ∀ g : mm_M, g 47 1 = h 1 1 → mm_call mX10_post [vR 47, vI x, vI y] g = if h 1 1 < 7 then some ([vI (h 1 1)], mm_ad g x y 0) else some ([vI (-3)], g) := by
        intro g g1
        rw [X10_post_c, s_in, if_pos ex, mm_bs]
        refine (X10_post_7 _ _ _ _).trans ?_
        rw [if_neg (by decide), s_in, if_pos ey, mm_bs]
        refine (X10_post_17 _ _ _ _).trans ?_
        rw [if_pos (by decide)]
        show (if ¬ g 47 1 = 7 then _ else _) = _
        by_cases n : h 1 1 < 7
        · rw [if_pos (by omega), if_pos n, s_addPost g x y 0 (by omega), mm_bs, g1]
          exact X10_post_43 _ _ _ _
        · rw [if_neg (by omega), if_neg n]
          exact X10_post_43 _ _ _ _
      by_cases n : h 1 1 < 7
      · rw [if_pos n] at e1
        have e3 := e2 (mm_en h x y 0) n1
        rw [if_pos n] at e3
        exact mm_Pr.of e1 e3 (mm_post h x y 0 hI n ex ey (by omega))
      · rw [if_neg n] at e1
        have e3 := e2 h n1
        rw [if_neg n] at e3
        exact mm_Pr.of e1 e3 hI
    · refine mm_Pr.of (v := vI (-1)) (h1 := h) (h2 := h) ?_ ?_ hI
      · rw [X9_post_c, c_mayBe, m0, if_pos ex, mm_bs]
        refine (X9_post_9 _ _ _ _).trans ?_
        rw [if_neg (by decide), c_mayBe, m1, if_neg ey, mm_bs]
        exact (X9_post_21 _ _ _ _).trans (if_neg (fun w => w rfl))
      · rw [X10_post_c, s_in, if_pos ex, mm_bs]
        refine (X10_post_7 _ _ _ _).trans ?_
        rw [if_neg (by decide), s_in, if_neg ey, mm_bs]
        exact (X10_post_17 _ _ _ _).trans (if_neg (fun w => w rfl))
  · refine mm_Pr.of (v := vI (-1)) (h1 := h) (h2 := h) ?_ ?_ hI
    · rw [X9_post_c, c_mayBe, m0, if_neg ex, mm_bs]
      exact (X9_post_9 _ _ _ _).trans (if_pos rfl)
    · rw [X10_post_c, s_in, if_neg ex, mm_bs]
      exact (X10_post_7 _ _ _ _).trans (if_pos rfl)
