/-! mend, both alike -/
/-- a change made on both sides; what other relations need is untouched -/
theorem mm_chg (h : mm_M) (w k v : Int) (hI : mm_Inv h) (z : mm_wk w k) (y : mm_inr w v) (ne : ¬ v = h 11 (mm_ct 100 w + k)) : ∃ g F, mm_call mX4_become [vR 1, vI (mm_ct 100 w + k), vI v] h = some ([vI (h 11 (mm_ct 100 w + k))], g) ∧ mm_call mX10_changes [vR 47, vI w, vI k, vI v] g = some ([vI (h 11 (mm_ct 100 w + k))], F) ∧ mm_Inv F ∧ g 1 1 = h 1 1 ∧ g 47 1 = h 47 1 := by
  obtain ⟨z1, z2, z3, z4, z5, z6, z7, z8⟩ := id hI
  obtain ⟨n0, n7, n1, nv⟩ := id z1
  obtain ⟨u1, u2, u3, u4, u5, u6, u7, u8⟩ := id z2
  obtain ⟨k1, k2, k3⟩ := mm_cell z
  obtain ⟨v1, v2⟩ := nv w k z
  obtain ⟨g0, e1, e2, e3⟩ := c_become h w k v z z2 ne
  let cl : Int := mm_ct 100 w + k
  let n : Int := g0 1 2
  let s : Int := g0 1 4
  let g : mm_M := mUp (mUp (mUp (mUp (mUp (mUp g0 12 ((s + n) % 40) cl) 13 ((s + n) % 40) (h 11 cl)) 14 ((s + n) % 40) v) 1 2 (n + 1)) 1 3 0) 11 cl v
  have hn : 0 ≤ n ∧ n < 40 := by show 0 ≤ g0 1 2 ∧ g0 1 2 < 40; omega
  have hs : 0 ≤ s ∧ s < 40 := by show 0 ≤ g0 1 4 ∧ g0 1 4 < 40; omega
  have gf : ∀ c i, ¬ (c = 11 ∨ c = 12 ∨ c = 13 ∨ c = 14 ∨ (c = 1 ∧ 2 ≤ i ∧ i ≤ 4)) → g c i = h c i := by
    intro c i q
    show mUp (mUp (mUp (mUp (mUp (mUp g0 12 _ _) 13 _ _) 14 _ _) 1 2 _) 1 3 _) 11 _ _ c i = h c i
    rw [mUp_at, if_neg (by omega), mUp_at, if_neg (by omega), mUp_at, if_neg (by omega), mUp_at, if_neg (by omega), mUp_at, if_neg (by omega), mUp_at, if_neg (by omega)]
    exact e2 c i (by omega)
  have gv : mm_vAt g w k = h 11 cl := (mm_vAt_co (fun c a b => by funext i; exact gf c i (by omega)) (fun i a b => gf 47 i (by omega))).trans v1
  have g14 : g 47 14 = h 1 2 := (gf 47 14 (by omega)).trans u1
  obtain ⟨f, f1, f2, f3, f4⟩ := s_changes g w k v z (by omega) (by omega) (by rw [gv]; exact fun q => ne q.symm)
  rw [gv] at f1
  have fm : f 47 14 = n := by
    show f 47 14 = g0 1 2
    omega
  rw [fm] at f1
  let B : mm_M := mUp (mUp (mUp (mUp (mUp f 56 n w) 57 n k) 58 n (h 11 cl)) 59 n v) 47 14 (n + 1)
  let F : mm_M := mm_ly B w k v
  have Fn : ∀ c i, (c < 48 ∨ 55 < c) → (c = 47 → i < 10 ∨ 13 < i) → F c i = B c i := fun c i a b => mm_ly_ne a b
  have Ff : ∀ c i, (c < 48 ∨ 59 < c) → (c = 47 → i < 10 ∨ 15 < i) → F c i = g c i := by
    intro c i a b
    rw [Fn c i (by omega) (by omega)]
    show mUp (mUp (mUp (mUp (mUp f 56 _ _) 57 _ _) 58 _ _) 59 _ _) 47 14 _ c i = _
    rw [mUp_at, if_neg (by omega), mUp_at, if_neg (by omega), mUp_at, if_neg (by omega), mUp_at, if_neg (by omega), mUp_at, if_neg (by omega)]
    exact f2 c i (by omega) (by omega)
  have Fh : ∀ c i, ¬ mm_mc c i → F c i = h c i := by
    intro c i q
    unfold mm_mc at q
    rw [Ff c i (by omega) (by omega)]
    exact gf c i (by omega)
  refine ⟨g, F, e1, f1, ⟨?_, ?_, mm_RD_co (mm_mc_fr mm_mc_D Fh) z3, mm_RI_co (mm_mc_fr mm_mc_I Fh) z4, mm_RB_co (mm_mc_fr mm_mc_B Fh) z5, mm_RS_co (mm_mc_fr mm_mc_S Fh) z6, mm_RT_co (mm_mc_fr mm_mc_T Fh) z7, mm_RL_co (mm_mc_fr mm_mc_L Fh) z8⟩, gf 1 1 (by omega), gf 47 1 (by omega)⟩
  · refine mm_RN_ly (h := h) z y (fun i => ?_) (fun w' k' z' => ?_) (Fh 1 1 (by unfold mm_mc; omega)) (Fh 47 1 (by unfold mm_mc; omega)) z1
    · rw [Ff 11 i (by omega) (by omega)]
      show (if 11 = 11 ∧ i = cl then v else g0 11 i) = _
      rw [e2 11 i (by omega)]
      by_cases q : i = cl
      · rw [if_pos ⟨rfl, q⟩, if_pos q]
      · rw [if_neg (fun w => q w.2), if_neg q]
    · refine (mm_ly_vAt (h := B) z z').trans ?_
      have : mm_vAt B w' k' = mm_vAt h w' k' := mm_vAt_co (fun c a b => by
        funext i
        show mUp (mUp (mUp (mUp (mUp f 56 _ _) 57 _ _) 58 _ _) 59 _ _) 47 14 _ c i = _
        rw [mUp_at, if_neg (by omega), mUp_at, if_neg (by omega), mUp_at, if_neg (by omega), mUp_at, if_neg (by omega), mUp_at, if_neg (by omega), f2 c i (by omega) (by omega)]
        exact gf c i (by omega)) (fun i a b => by
        show mUp (mUp (mUp (mUp (mUp f 56 _ _) 57 _ _) 58 _ _) 59 _ _) 47 14 _ 47 i = _
        rw [mUp_at, if_neg (by omega), mUp_at, if_neg (by omega), mUp_at, if_neg (by omega), mUp_at, if_neg (by omega), mUp_at, if_neg (by omega), f2 47 i (by omega) (by omega)]
        exact gf 47 i (by omega))
      rw [this]
  · have F1 : ∀ i, F 1 i = g 1 i := fun i => Ff 1 i (by omega) (by omega)
    have F14 : F 47 14 = n + 1 := Fn 47 14 (by omega) (by omega)
    have F15 : F 47 15 = 0 := (Fn 47 15 (by omega) (by omega)).trans f3
    have G2 : g 1 2 = n + 1 := rfl
    have G3 : g 1 3 = 0 := rfl
    have G4 : g 1 4 = s := rfl
    unfold mm_RU
    rw [F1, F1, F1, F14, F15, G2, G3, G4]
    refine ⟨rfl, rfl, by omega, by omega, by omega, hs.1, hs.2, fun j j0 j1 => ?_⟩
    have hc : ∀ i, F 12 i = (if i = (s + n) % 40 then cl else h 12 i) ∧ F 13 i = (if i = (s + n) % 40 then h 11 cl else h 13 i) ∧ F 14 i = (if i = (s + n) % 40 then v else h 14 i) := by
      intro i
      rw [Ff 12 i (by omega) (by omega), Ff 13 i (by omega) (by omega), Ff 14 i (by omega) (by omega)]
      show (if 12 = 12 ∧ i = _ then cl else g0 12 i) = _ ∧ (if 13 = 13 ∧ i = _ then h 11 cl else g0 13 i) = _ ∧ (if 14 = 14 ∧ i = _ then v else g0 14 i) = _
      rw [e2 12 i (by omega), e2 13 i (by omega), e2 14 i (by omega)]
      by_cases q : i = (s + n) % 40
      · rw [if_pos ⟨rfl, q⟩, if_pos q, if_pos ⟨rfl, q⟩, if_pos q, if_pos ⟨rfl, q⟩, if_pos q]
        exact ⟨rfl, rfl, rfl⟩
      · rw [if_neg (fun w => q w.2), if_neg q, if_neg (fun w => q w.2), if_neg q, if_neg (fun w => q w.2), if_neg q]
        exact ⟨rfl, rfl, rfl⟩
    have hr : F 56 j = (if j = n then w else f 56 j) ∧ F 57 j = (if j = n then k else f 57 j) ∧ F 58 j = (if j = n then h 11 cl else f 58 j) ∧ F 59 j = (if j = n then v else f 59 j) := by
      rw [Fn 56 j (by omega) (by omega), Fn 57 j (by omega) (by omega), Fn 58 j (by omega) (by omega), Fn 59 j (by omega) (by omega)]
      show (if 56 = 56 ∧ j = n then w else f 56 j) = _ ∧ (if 57 = 57 ∧ j = n then k else f 57 j) = _ ∧ (if 58 = 58 ∧ j = n then h 11 cl else f 58 j) = _ ∧ (if 59 = 59 ∧ j = n then v else f 59 j) = _
      by_cases q : j = n
      · rw [if_pos ⟨rfl, q⟩, if_pos q, if_pos ⟨rfl, q⟩, if_pos q, if_pos ⟨rfl, q⟩, if_pos q, if_pos ⟨rfl, q⟩, if_pos q]
        exact ⟨rfl, rfl, rfl, rfl⟩
      · rw [if_neg (fun w => q w.2), if_neg q, if_neg (fun w => q w.2), if_neg q, if_neg (fun w => q w.2), if_neg q, if_neg (fun w => q w.2), if_neg q]
        exact ⟨rfl, rfl, rfl, rfl⟩
    obtain ⟨c1, c2, c3⟩ := hc ((s + j) % 40)
    obtain ⟨r1, r2, r3, r4⟩ := hr
    rw [c1, c2, c3, r1, r2, r3, r4]
    by_cases q : j = n
    · rw [if_pos q, if_pos q, if_pos q, if_pos q, if_pos (by omega), if_pos (by omega), if_pos (by omega)]
      refine ⟨z, rfl, rfl, rfl, ?_, y⟩
      exact v2
    · rw [if_neg q, if_neg q, if_neg q, if_neg q, if_neg (by omega), if_neg (by omega), if_neg (by omega)]
      rcases f4 with ⟨a1, a2, a3⟩ | ⟨a1, a2, a3⟩
      · have b1 : s = h 1 4 := by show g0 1 4 = h 1 4; omega
        rw [a3 56 (by omega) (by omega), a3 57 (by omega) (by omega), a3 58 (by omega) (by omega), a3 59 (by omega) (by omega), gf 56 j (by omega), gf 57 j (by omega), gf 58 j (by omega), gf 59 j (by omega), b1]
        exact u8 j j0 (by omega)
      · have b1 : s = (h 1 4 + 1) % 40 := by show g0 1 4 = (h 1 4 + 1) % 40; omega
        rw [a3 56 (by omega) (by omega) j (by omega) j0, a3 57 (by omega) (by omega) j (by omega) j0, a3 58 (by omega) (by omega) j (by omega) j0, a3 59 (by omega) (by omega) j (by omega) j0, gf 56 _ (by omega), gf 57 _ (by omega), gf 58 _ (by omega), gf 59 _ (by omega), b1]
        rw [show ((h 1 4 + 1) % 40 + j) % 40 = (h 1 4 + (j + 1)) % 40 from by omega]
        exact u8 (j + 1) (by omega) (by omega)
theorem p_mend (h : mm_M) (k w v : Int) (hI : mm_Inv h) : mm_Pr mX9_mend mX10_mend [vI k, vI w, vI v] h mm_Inv := by
  obtain ⟨z1, z2, z3, z4, z5, z6, z7, z8⟩ := id hI
  obtain ⟨n0, n7, n1, nv⟩ := id z1
  by_cases q : mm_wz h k w
  · obtain ⟨k1, k2, k3⟩ := mm_cell (q.wk n7)
    obtain ⟨v1, v2⟩ := nv w k (q.wk n7)
    have qa := q.1
    have qb := q.2.1
    by_cases y : mm_ct 102 w ≤ v ∧ v ≤ mm_ct 103 w
    · have e0 : ∀ g out, mm_call mX4_become [vR 1, vI (mm_ct 100 w + k), vI v] h = some ([vI out], g) → mm_call mX9_mend [vR 0, vI k, vI w, vI v] h = some ([vI out], g) := by
        intro g out e
        rw [X9_mend_c, c_cellOf h k w n7, if_pos q, mm_bs]
        refine (X9_mend_9 _ _ _ _ _).trans ?_
        rw [if_neg (by omega), c_mayBe, if_pos ⟨qa, qb, y.1, y.2⟩, mm_bs]
        refine (X9_mend_25 _ _ _ _ _ _).trans ?_
        rw [if_pos (by decide)]
        rw [e, mm_bs]
        exact X9_mend_40 _ _ _ _ _ _
      have e9 : ∀ g F out, g 1 1 = h 1 1 → g 47 1 = h 47 1 → mm_call mX10_changes [vR 47, vI w, vI k, vI v] g = some ([vI out], F) → mm_call mX10_mend [vR 47, vI k, vI w, vI v] g = some ([vI out], F) := by
        intro g F out g1 g2 e
        rw [X10_mend_c, s_isOne g k w (by omega) (by omega) (by omega), if_pos (by rw [mm_wz_co g1]; exact q), mm_bs]
        refine (X10_mend_6 _ _ _ _ _).trans ?_
        rw [if_neg (by decide), s_mayBe _ _ _ ⟨qa, qb⟩, if_pos y, mm_bs]
        refine (X10_mend_14 _ _ _ _ _).trans ?_
        rw [if_neg (by decide)]
        rw [e, mm_bs]
        exact X10_mend_24 _ _ _ _ _
      by_cases ne : v = h 11 (mm_ct 100 w + k)
      · refine mm_Pr.of (v := vI v) (h1 := h) (h2 := h) (e0 h v ?_) (e9 h h v rfl rfl ?_) hI
        · rw [X4_become_c, if_pos ⟨k1, k2⟩, if_pos ne, ← ne]
        · rw [X10_changes_c, s_valueAt h w k (q.wk n7), mm_bs]
          refine (X10_changes_6 _ _ _ _ _).trans ?_
          rw [v1, ← ne, if_neg (fun w => w rfl)]
      · obtain ⟨g, F, a1, a2, a3, a4, a5⟩ := mm_chg h w k v hI (q.wk n7) y ne
        exact mm_Pr.of (e0 g _ a1) (e9 g F _ a4 a5 a2) a3
    · refine mm_Pr.of (v := vI (-1)) (h1 := h) (h2 := h) ?_ ?_ hI
      · rw [X9_mend_c, c_cellOf h k w n7, if_pos q, mm_bs]
        refine (X9_mend_9 _ _ _ _ _).trans ?_
        rw [if_neg (by omega), c_mayBe, if_neg (fun w => y ⟨w.2.2.1, w.2.2.2⟩), mm_bs]
        exact (X9_mend_25 _ _ _ _ _ _).trans (if_neg (fun w => w rfl))
      · rw [X10_mend_c, s_isOne h k w n1 n0 n7, if_pos q, mm_bs]
        refine (X10_mend_6 _ _ _ _ _).trans ?_
        rw [if_neg (by decide), s_mayBe _ _ _ ⟨qa, qb⟩, if_neg y, mm_bs]
        exact (X10_mend_14 _ _ _ _ _).trans (if_pos rfl)
  · refine mm_Pr.of (v := vI (-1)) (h1 := h) (h2 := h) ?_ ?_ hI
    · rw [X9_mend_c, c_cellOf h k w n7, if_neg q, mm_bs]
      exact (X9_mend_9 _ _ _ _ _).trans (if_pos (by decide))
    · rw [X10_mend_c, s_isOne h k w n1 n0 n7, if_neg q, mm_bs]
      exact (X10_mend_6 _ _ _ _ _).trans (if_pos rfl)
