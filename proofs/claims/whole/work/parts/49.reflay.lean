/-! the reference lays a route out -/
theorem s_goRoute (h g : mm_M) (s n : Int) (n0 : 0 ≤ n) (n6 : n ≤ 6) (p7 : h 47 1 ≤ 7) (h12 : 0 ≤ h 47 12 ∧ h 47 12 ≤ 999) (hQ : mm_QR h g s n) (hf : mm_qfr h g) (hb : ∀ i : Int, 0 ≤ i → i < 7 → (0 ≤ h 48 i ∧ h 48 i ≤ 99) ∧ 0 ≤ h 49 i ∧ h 49 i ≤ 99) : ∃ f, mm_call mX10_goRoute [vR 47] g = some ([], f) ∧ (∀ c, c ≠ 69 → f c = g c) ∧ mm_HR h f s n := by
  obtain ⟨a1, a2, a3, a4, a5⟩ := hQ
  have g12 : g 47 12 = h 47 12 := hf 47 12 (by decide) (by omega)
  obtain ⟨g1, e1, e2, e3, e4, e5⟩ := L_go1 7 0 g (by omega) (by omega)
  rw [g12] at e1 e3
  obtain ⟨f, b1, b2, b3⟩ := L_go2 h s n n6 p7 (fun j j0 j1 => (a5 j j0 j1).1) hb 6 0 (h 47 12) 0 g1 (by omega) n0 (by omega) (by rw [e2 47 (by decide)]; exact a4) (fun j j0 j1 => by rw [e2 68 (by decide)]; exact (a5 j j0 j1).2) (fun i => by
    rw [e2 48 (by decide), e2 49 (by decide)]
    exact ⟨hf 48 i (by decide) (by omega), hf 49 i (by decide) (by omega)⟩) ⟨e3, fun j j0 j1 => by omega, fun p p1 p2 _ => e4 p (by omega) p2 (by omega)⟩ (by decide) (by omega) (fun _ => rfl)
  refine ⟨f, ?_, fun c hc => by rw [b2 c hc, e2 c hc], b3⟩
  rw [X10_goRoute_c]
  exact e1.trans b1
def mm_rfr (h g : mm_M) : Prop := ∀ c i, c ≠ 68 → c ≠ 69 → ¬ (c = 47 ∧ i = 35) → g c i = h c i
theorem s_layRoute (h : mm_M) (s : Int) (hs : 0 ≤ s ∧ s < 6) (h0 : 0 ≤ h 80 s) (h60 : h 80 s ≤ 60) (p0 : 0 ≤ h 47 1) (p7 : h 47 1 ≤ 7) (h12 : 0 ≤ h 47 12 ∧ h 47 12 ≤ 999) (hb : ∀ i : Int, 0 ≤ i → i < 7 → (0 ≤ h 48 i ∧ h 48 i ≤ 99) ∧ 0 ≤ h 49 i ∧ h 49 i ≤ 99) : ∃ f n, mm_call mX10_layRoute [vR 47, vI s] h = some ([], f) ∧ mm_QR h f s n ∧ mm_HR h f s n ∧ mm_rfr h f ∧ mm_QE h s n := by
  obtain ⟨g, n, a, o, e1, e2, e3, e4⟩ := L_rread h s hs h60 p0 p7 60 0 none (mUp h 47 35 0) ⟨by omega, by omega, h0, rfl, fun j j0 j1 => by omega⟩ (fun c i q1 q2 => by rw [mUp_at, if_neg q2]) (by omega)
  obtain ⟨f, b1, b2, b3⟩ := s_goRoute h g s n e2.1 e2.2.1 p7 h12 e2 e3 hb
  refine ⟨f, n, ?_, ⟨e2.1, e2.2.1, e2.2.2.1, by rw [b2 47 (by decide)]; exact e2.2.2.2.1, fun j j0 j1 => by rw [b2 68 (by decide)]; exact e2.2.2.2.2 j j0 j1⟩, b3, fun c i q1 q2 q3 => by rw [b2 c q2]; exact e3 c i q1 q3, e4⟩
  rw [X10_layRoute_c, e1, b1, mm_bs]
  exact X10_layRoute_77 _ _ _ _
theorem s_layOr (h : mm_M) (s : Int) (hs : 0 ≤ s ∧ s < 6) (hS : mm_RS h) (hz : kWhy h s 0 = 0 → 0 ≤ h 80 s ∧ h 80 s ≤ 60) (p0 : 0 ≤ h 47 1) (p7 : h 47 1 ≤ 7) (h12 : 0 ≤ h 47 12 ∧ h 47 12 ≤ 999) (hb : ∀ i : Int, 0 ≤ i → i < 7 → (0 ≤ h 48 i ∧ h 48 i ≤ 99) ∧ 0 ≤ h 49 i ∧ h 49 i ≤ 99) : (¬ kWhy h s 0 = 0 → mm_call mX10_layOr [vR 47, vI s] h = some ([vI (kWhy h s 0)], h)) ∧ (kWhy h s 0 = 0 → ∃ f n, mm_call mX10_layOr [vR 47, vI s] h = some ([vI 0], f) ∧ mm_QR h f s n ∧ mm_HR h f s n ∧ mm_rfr h f ∧ mm_QE h s n) := by
  have e : mm_call mX10_layOr [vR 47, vI s] h = mm_ev mX10_layOr 5 6 [some (vR 47), some (vI s), none] [vI (kWhy h s 0)] h := by
    rw [X10_layOr_c, s_rowFault h s 0 hs (by decide) hS, mm_bs]
    rfl
  rw [e, X10_layOr_6]
  refine ⟨fun w => ?_, fun w => ?_⟩
  · rw [if_pos w]
    exact X10_layOr_16 _ _ _
  · obtain ⟨f, n, a1, a2⟩ := s_layRoute h s hs (hz w).1 (hz w).2 p0 p7 h12 hb
    refine ⟨f, n, ?_, a2⟩
    rw [if_neg (fun q => q w), a1, mm_bs, w]
    exact X10_layOr_16 _ _ _
