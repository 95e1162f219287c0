/-! a way that lies, in the class and in the reference -/
def mm_WG (g : mm_M) : Prop := 0 ≤ g 4 0 ∧ g 4 0 ≤ 6 ∧ (∀ j : Int, 0 ≤ j → j < g 4 0 → (0 < g 23 j ∧ g 23 j < g 1 1) ∧ g 24 (g 23 j) = j ∧ g 25 (g 23 j) = ar (wDi g) (g 23) j) ∧ ∀ p : Int, 0 ≤ p → p < 7 → (∀ j : Int, 0 ≤ j → j < g 4 0 → ¬ g 23 j = p) → g 24 p = -1
/-- minutes behind AT; 1000000: never -/
def bh (g : mm_M) (p : Int) : Int := if p = 0 then 0 else if 0 ≤ g 24 p then g 25 p else 1000000
def mm_tH (b a : Int) : Int := if b = 1000000 then -2 else a + b
def mm_LAY (g f : mm_M) : Prop := f 47 35 = g 4 0 ∧ (∀ j : Int, 0 ≤ j → j < g 4 0 → f 68 j = g 23 j) ∧ ∀ p : Int, 0 ≤ p → p < 7 → f 69 p = mm_tH (bh g p) (f 47 12)
theorem WG_d {g : mm_M} (z : mm_WG g) {i j : Int} (i0 : 0 ≤ i) (ij : i < j) (j1 : j < g 4 0) : ¬ g 23 i = g 23 j := fun w => by
  have a := (z.2.2.1 i i0 (by omega)).2.1
  have b := (z.2.2.1 j (by omega) j1).2.1
  rw [w] at a
  omega
theorem WG_in {g : mm_M} (z : mm_WG g) {p : Int} (p0 : 0 ≤ p) (p7 : p < 7) (w : 0 ≤ g 24 p) : g 24 p < g 4 0 ∧ g 23 (g 24 p) = p := by
  apply Classical.byContradiction
  intro q
  have : g 24 p = -1 := z.2.2.2 p p0 p7 (fun j j0 j1 e => by
    have t := (z.2.2.1 j j0 j1).2.1
    rw [e] at t
    exact q (by rw [t]; exact ⟨j1, e⟩))
  omega
theorem bh_at {g : mm_M} (z : mm_WG g) {j : Int} (j0 : 0 ≤ j) (j1 : j < g 4 0) : bh g (g 23 j) = ar (wDi g) (g 23) j := by
  obtain ⟨⟨a, b⟩, c, d⟩ := z.2.2.1 j j0 j1
  unfold bh
  rw [if_neg (by omega), if_pos (by omega), d]
theorem WG_ab {g : mm_M} (z : mm_WG g) (n7 : g 1 1 ≤ 7) (hb : ∀ i : Int, 0 ≤ i → i < 14 → 0 ≤ g 11 i ∧ g 11 i ≤ 99) {j : Int} (j0 : 0 ≤ j) (j1 : j < g 4 0) : 0 ≤ ar (wDi g) (g 23) j ∧ ar (wDi g) (g 23) j ≤ 1392 := by
  have := ar_b (d := wDi g) (e := g 23) (fun p q p0 p1 q0 q1 => wDi_b ⟨p0, p1⟩ ⟨q0, q1⟩ hb) j.toNat (fun i i0 i1 => by
    have := (z.2.2.1 i i0 (by omega)).1
    omega)
  rw [show ((j.toNat : Nat) : Int) = j from by omega] at this
  have := z.2.1
  omega
theorem bh_b {g : mm_M} (z : mm_WG g) (n7 : g 1 1 ≤ 7) (hb : ∀ i : Int, 0 ≤ i → i < 14 → 0 ≤ g 11 i ∧ g 11 i ≤ 99) {p : Int} (p0 : 0 ≤ p) (p7 : p < 7) : bh g p = 1000000 ∨ (0 ≤ bh g p ∧ bh g p ≤ 1392) := by
  by_cases w : p = 0
  · right
    unfold bh
    rw [if_pos w]
    omega
  · by_cases q : 0 ≤ g 24 p
    · right
      obtain ⟨a, b⟩ := WG_in z p0 p7 q
      have t := bh_at z q a
      rw [b] at t
      have := WG_ab z n7 hb q a
      omega
    · left
      unfold bh
      rw [if_neg w, if_neg q]
theorem WR_WG {h g : mm_M} {s n : Int} (hW : mm_WR h g s n) (hf : mm_wfr h g) (n7 : h 1 1 ≤ 7) : mm_WG g := by
  obtain ⟨a1, a2, a3, a4, a5, a6⟩ := hW
  have g1 := hf.e (c := 1) (by decide) (by decide) (by decide) (by decide)
  have g11 := hf.e (c := 11) (by decide) (by decide) (by decide) (by decide)
  refine ⟨by omega, by omega, fun j j0 j1 => ?_, fun p p0 p7 pj => a6 p p0 p7 (fun j j0 j1 => ?_)⟩
  · obtain ⟨v, b, c, d⟩ := a5 j j0 (by omega)
    rw [b, g1]
    refine ⟨v.1, c, d.trans ((hv_ar h s j).trans (ar_co j0 (fun p q _ _ _ _ => by unfold wDi; rw [g11]) (fun i i0 i1 => ?_)))⟩
    obtain ⟨v2, b2, c2, d2⟩ := a5 i i0 (by omega)
    rw [b2]
    have := v2.1
    exact ⟨rfl, by omega, by omega⟩
  · have := (a5 j j0 j1).2.1
    rw [← this]
    exact pj j j0 (by omega)
theorem kWhy0 {h : mm_M} {s k : Int} (w : kWhy h s k = 0) : (0 ≤ s ∧ s < 6) ∧ (0 ≤ k → h 19 s = k) := by
  have hs : 0 ≤ s ∧ s < 6 := by
    apply Classical.byContradiction
    intro q
    unfold kWhy at w
    rw [if_neg q] at w
    omega
  refine ⟨hs, fun hk => ?_⟩
  unfold kWhy at w
  rw [if_pos hs] at w
  by_cases q1 : h 19 s = -1
  · rw [if_pos q1] at w
    omega
  · rw [if_neg q1] at w
    by_cases q2 : h 19 s = k
    · exact q2
    · rw [if_neg q2] at w
      omega
theorem kWhy_Sm {h h1 : mm_M} (e : mm_Sm h h1) (s k : Int) : kWhy h1 s k = kWhy h s k := by
  unfold kWhy
  rw [e 19 s (by unfold mm_sc; omega)]
theorem mm_wfr.Sm {h g : mm_M} (f : mm_wfr h g) : mm_Sm h g := fun c i w => f c i (fun q => w (by unfold mm_sc; omega)) (fun q => w (by unfold mm_sc; omega)) (fun q => w (by unfold mm_sc; omega)) (fun q => w (by unfold mm_sc; omega))
theorem mm_rfr.Sm {h g : mm_M} (f : mm_rfr h g) : mm_Sm h g := fun c i w => f c i (fun q => w (by unfold mm_sc; omega)) (fun q => w (by unfold mm_sc; omega)) (fun q => w (by unfold mm_sc; omega))
theorem lay_both (h : mm_M) (s : Int) (hI : mm_Inv h) (hz : kWhy h s 0 = 0) : ∃ g, mm_call mX8_readFrom [vR 4, vR 1, vR 3, vI s] h = some ([], g) ∧ mm_call mX9_layOut [vR 0, vI s] h = some ([vI 0], g) ∧ mm_WG g ∧ mm_wfr h g ∧ ∀ h1, mm_Sm h h1 → ∃ f, mm_call mX10_layRoute [vR 47, vI s] h1 = some ([], f) ∧ mm_call mX10_layOr [vR 47, vI s] h1 = some ([vI 0], f) ∧ mm_rfr h1 f ∧ mm_LAY g f := by
  obtain ⟨hs, hk⟩ := kWhy0 hz
  have hk := hk (by decide)
  have hN := hI.1
  obtain ⟨n0, n7, n47, -⟩ := id hN
  have hS := hI.2.2.2.2.2.1
  obtain ⟨t1, t2, t3, t4, t5, t6, t7, t8⟩ := hS s hs.1 hs.2
  obtain ⟨t9, t10⟩ := t8 (by omega)
  obtain ⟨g, n, a1, a2, a3, a4⟩ := c_readFrom h s hs hk t5 t6 n7 (N_xy hN)
  refine ⟨g, a1, ?_, WR_WG a2 a3 n7, a3, fun h1 hm => ?_⟩
  · rw [X9_layOut_c, c_refusal, mm_bs, hz]
    refine (X9_layOut_9 _ _ _).trans ?_
    rw [if_neg (by decide), a1, mm_bs]
    exact X9_layOut_30 _ _ _
  have hI1 := mm_Inv_Sm hm hI
  have hN1 := hI1.1
  have e80 : h1 80 s = h 20 s := by rw [hm 80 s (by unfold mm_sc; omega)]; exact t9
  have m1 : h1 47 1 = h 1 1 := by rw [hm 47 1 (by unfold mm_sc; omega)]; exact n47
  have eE : ∀ j : Int, 0 ≤ j → j < h 20 s → qE h1 s j = pE h s j := fun j j0 j1 => by
    unfold qE pE
    rw [hm 81 _ (by unfold mm_sc; omega), (t10 j j0 j1).1]
  have rd : ∀ p q, 0 ≤ p → p < 7 → 0 ≤ q → q < 7 → rDi h1 p q = wDi h p q := fun p q p0 p1 q0 q1 => by
    rw [N_di hN1 p q ⟨p0, p1⟩ ⟨q0, q1⟩]
    unfold wDi
    have e11 : ∀ i, h1 11 i = h 11 i := fun i => hm 11 i (by unfold mm_sc; omega)
    rw [e11, e11, e11, e11]
  obtain ⟨f, n', b1, b2, b3, b4, b5⟩ := s_layRoute h1 s hs (by omega) (by omega) (by omega) (by omega) (by rw [(N10 hN1).1]; exact (N10 hN1).2) (N_rxy hN1)
  have vv : ∀ j : Int, 0 ≤ j → j < h 20 s → (qV h1 s j ↔ rV h s j) := fun j j0 j1 => by
    constructor
    · intro v
      obtain ⟨⟨v1, v2⟩, v3⟩ := v
      refine ⟨by rw [← eE j j0 j1]; omega, fun i i0 i1 => ?_⟩
      rw [← eE j j0 j1, ← eE i i0 (by omega)]
      exact v3 i i0 i1
    · intro v
      obtain ⟨⟨v1, v2⟩, v3⟩ := v
      refine ⟨by rw [eE j j0 j1]; omega, fun i i0 i1 => ?_⟩
      rw [eE j j0 j1, eE i i0 (by omega)]
      exact v3 i i0 i1
  obtain ⟨A1, A2, A3, A4, A5, A6⟩ := id a2
  obtain ⟨B1, B2, B3, B4, B5⟩ := b2
  have en : n' = n := by
    rcases Int.lt_trichotomy n' n with q | q | q
    · rcases b5 with w | w
      · omega
      · exact absurd ((vv n' B1 (by omega)).2 (A5 n' B1 q).1) w
    · exact q
    · rcases a4 with w | w
      · omega
      · exact absurd ((vv n A1 (by omega)).1 (B5 n A1 q).1) w
  subst en
  refine ⟨f, b1, ?_, b4, ?_⟩
  · have := s_layOr h1 s hs hI1.2.2.2.2.2.1 (fun _ => by omega) (by omega) (by omega) (by rw [(N10 hN1).1]; exact (N10 hN1).2) (N_rxy hN1)
    obtain ⟨f2, n2, c1, c2⟩ := this.2 (by rw [kWhy_Sm hm]; exact hz)
    have e : mm_call mX10_layOr [vR 47, vI s] h1 = some ([vI 0], f) := by
      rw [X10_layOr_c, s_rowFault h1 s 0 hs (by decide) hI1.2.2.2.2.2.1, kWhy_Sm hm, hz, mm_bs]
      refine (X10_layOr_6 _ _ _).trans ?_
      rw [if_neg (by decide), b1, mm_bs]
      exact X10_layOr_16 _ _ _
    exact e
  · have f12 : f 47 12 = h1 47 12 := b4 47 12 (by decide) (by decide) (by omega)
    refine ⟨by omega, fun j j0 j1 => ?_, fun p p0 p7 => ?_⟩
    · rw [(B5 j j0 (by omega)).2, eE j j0 (by omega)]
      exact (A5 j j0 (by omega)).2.1.symm
    · obtain ⟨c1, c2, c3⟩ := b3
      rw [f12]
      have WG := WR_WG a2 a3 n7
      by_cases q0 : p = 0
      · rw [q0, c1]
        unfold mm_tH bh
        rw [if_pos rfl, if_neg (by decide)]
        omega
      · by_cases q : ∃ j, 0 ≤ j ∧ j < n' ∧ pE h s j = p
        · obtain ⟨j, j0, j1, e⟩ := q
          obtain ⟨v, d2, d3, d4⟩ := A5 j j0 j1
          have t := c2 j j0 j1
          rw [eE j j0 (by omega), e, gv_ar] at t
          have u : bh g p = ar (wDi g) (g 23) j := by
            have := bh_at WG j0 (show j < g 4 0 by omega)
            rw [d2, e] at this
            exact this
          have ub := WG_ab WG (by rw [a3.e (c := 1) (by decide) (by decide) (by decide) (by decide)]; exact n7) (by rw [a3.e (c := 11) (by decide) (by decide) (by decide) (by decide)]; exact N_xy hN) j0 (show j < g 4 0 by omega)
          have w : ar (rDi h1) (qE h1 s) j = ar (wDi g) (g 23) j := ar_co j0 (fun a b a0 a1 b0 b1 => by
            rw [rd a b a0 a1 b0 b1]
            unfold wDi
            rw [a3.e (c := 11) (by decide) (by decide) (by decide) (by decide)]) (fun i i0 i1 => by
            obtain ⟨x1, x2, x3, x4⟩ := A5 i i0 (by omega)
            rw [eE i i0 (by omega), x2]
            have := x1.1
            exact ⟨rfl, by omega, by omega⟩)
          rw [t, w, u]
          unfold mm_tH
          rw [if_neg (by omega)]
        · have n1 : ∀ j : Int, 0 ≤ j → j < n' → ¬ pE h s j = p := fun j j0 j1 e => q ⟨j, j0, j1, e⟩
          rw [c3 p (by omega) p7 (fun j j0 j1 => by rw [eE j j0 (by omega)]; exact n1 j j0 j1)]
          unfold mm_tH bh
          rw [if_neg q0, A6 p p0 p7 n1, if_neg (show ¬ (0 : Int) ≤ -1 by decide), if_pos rfl]
theorem lay_bad (h : mm_M) (s : Int) (hz : ¬ kWhy h s 0 = 0) : mm_call mX9_layOut [vR 0, vI s] h = some ([vI (kWhy h s 0)], h) := by
  rw [X9_layOut_c, c_refusal, mm_bs]
  refine (X9_layOut_9 _ _ _).trans ?_
  rw [if_pos hz]
  exact X9_layOut_30 _ _ _
theorem rlay_bad (h : mm_M) (s : Int) (hI : mm_Inv h) (hs : 0 ≤ s ∧ s < 6) (hz : ¬ kWhy h s 0 = 0) : mm_call mX10_layOr [vR 47, vI s] h = some ([vI (kWhy h s 0)], h) := by
  rw [X10_layOr_c, s_rowFault h s 0 hs (by decide) hI.2.2.2.2.2.1, mm_bs]
  refine (X10_layOr_6 _ _ _).trans ?_
  rw [if_pos hz]
  exact X10_layOr_16 _ _ _
