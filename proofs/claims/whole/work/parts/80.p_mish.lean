/-! by how many of twelve: the value, on both sides -/
def clp (v : Int) : Int := if 0 < (if v < 12 then v else 12) then (if v < 12 then v else 12) else 0
theorem clp_b (v : Int) : 0 ≤ clp v ∧ clp v ≤ 12 := by
  unfold clp
  repeat' split
  all_goals omega
theorem clp_eq (v : Int) : clp v = if 0 ≤ v then (if v ≤ 12 then v else 12) else 0 := by
  unfold clp
  repeat' split
  all_goals omega
def misV (h : mm_M) (w p n : Int) : Int := if p = 0 then 0 else clp (if h 2 7 = 0 then h 11 (14 + p) + n - h 11 (21 + w) else lwN (h 61) (h 62) (h 64) (h 65) (fcV h w p n) (h 63 0).toNat 0 0)
theorem misV_b (h : mm_M) (w p n : Int) : 0 ≤ misV h w p n ∧ misV h w p n ≤ 12 := by
  unfold misV
  split
  · omega
  · exact clp_b _
theorem lwk_of {h : mm_M} (z : mm_RN h) {w p : Int} (hw : 0 ≤ w ∧ w < 10) (hp : 0 ≤ p ∧ p < 7) : mm_lwk h w p := by
  have a := N4 z w hw.1 hw.2
  have b := N2 z p hp.1 hp.2
  exact ⟨hw, hp, by omega, fun k k0 k1 => (N3 z k k0 k1).2, b.2⟩
theorem misV_Sm {h g : mm_M} (m : mm_Sm h g) (w p n : Int) : misV g w p n = misV h w p n := by
  have e11 : ∀ i, g 11 i = h 11 i := fun i => m 11 i (by unfold mm_sc; omega)
  have e61 : g 61 = h 61 := funext (fun i => m 61 i (by unfold mm_sc; omega))
  have e62 : g 62 = h 62 := funext (fun i => m 62 i (by unfold mm_sc; omega))
  have e64 : g 64 = h 64 := funext (fun i => m 64 i (by unfold mm_sc; omega))
  have e65 : g 65 = h 65 := funext (fun i => m 65 i (by unfold mm_sc; omega))
  have e63 : g 63 0 = h 63 0 := m 63 0 (by unfold mm_sc; omega)
  have e27 : g 2 7 = h 2 7 := m 2 7 (by unfold mm_sc; omega)
  have ev : fcV g w p n = fcV h w p n := by
    funext j
    unfold fcV
    rw [e11, e11, e11, e11]
  unfold misV
  rw [e11, e11, e61, e62, e64, e65, e63, e27, ev]
theorem c_mis0 (g : mm_M) (hI : mm_Inv g) (w p n : Int) (hw : 0 ≤ w ∧ w < 10) (hp : 0 ≤ p ∧ p < 7) (hn : 0 ≤ n ∧ n ≤ 6) : ∃ g', mm_call mX3_mishearing [vR 2, vR 1, vI w, vI p, vI n] g = some ([vI (misV g w p n)], g') ∧ mm_kf g g' := by
  have lk := lwk_of hI.1 hw hp
  obtain ⟨r1, r2, r3, r4⟩ := hI.2.2.2.2.2.2.2
  rw [X3_mishearing_c]
  unfold misV
  by_cases q : p = 0
  · rw [if_neg (fun z => z q), if_pos q]
    exact ⟨g, rfl, mm_kf.rf⟩
  · rw [if_pos q, if_neg q]
    by_cases q7 : g 2 7 = 0
    · have a := N2 hI.1 p hp.1 hp.2
      have b := N3 hI.1 w hw.1 hw.2
      have w1 : w32 (g 11 (14 + p) + n) = g 11 (14 + p) + n := w32_id (by unfold mm_r32; omega)
      have w2 : w32 (g 11 (14 + p) + n - g 11 (21 + w)) = g 11 (14 + p) + n - g 11 (21 + w) := w32_id (by unfold mm_r32; omega)
      rw [if_neg (fun z => z q7), g_cold g p hp, mm_be1, X3_mishearing_19, g_long g w hw, mm_be1, X3_mishearing_28, w1, w2, X3_mishearing_41, if_pos q7]
      exact ⟨g, rfl, mm_kf.rf⟩
    · rcases r4 with ⟨s1, s2⟩ | ⟨s1, s2, s3, s4, a, A, LN, al⟩
      · exact absurd s2 q7
      · obtain ⟨g', e1, f1⟩ := c_workOut g w p n (g 63 0) _ _ _ _ a A (by rcases r1 with t | t; exact Or.inl t.1; exact Or.inr t.1) r3 lk LN (by omega) al
        rw [if_pos q7, e1, mm_be1, X3_mishearing_41, if_neg q7]
        exact ⟨g', rfl, f1⟩
theorem mm_kf.Sm {g g' : mm_M} (f : mm_kf g g') : mm_Sm g g' := fun c i w => f c i (fun q => w (by unfold mm_sc; omega)) (fun q => w (by unfold mm_sc; omega))
theorem c_mis (h g : mm_M) (hI : mm_Inv h) (m : mm_Sm h g) (w p n : Int) (hw : 0 ≤ w ∧ w < 10) (hp : 0 ≤ p ∧ p < 7) (hn : 0 ≤ n ∧ n ≤ 6) : ∃ g', mm_call mX3_mishearing [vR 2, vR 1, vI w, vI p, vI n] g = some ([vI (misV h w p n)], g') ∧ mm_kf g g' := by
  rw [← misV_Sm m]
  exact c_mis0 g (mm_Inv_Sm m hI) w p n hw hp hn
/-- alike but for the scratch and the reference's new word -/
def mm_S11 (h f : mm_M) (w : Int) : Prop := (∀ c k, ¬ mm_sc c k → ¬ (c = 47 ∧ k = 11) → f c k = h c k) ∧ f 47 11 = w
theorem s_mis (h f : mm_M) (hI : mm_Inv h) (w p n : Int) (m : mm_S11 h f w) (hw : 0 ≤ w ∧ w < 10) (hp : 0 ≤ p ∧ p < 7) (hn : 0 ≤ n ∧ n ≤ 6) : ∃ f', mm_call mX10_mishear [vR 47, vI p, vI n] f = some ([vI (misV h w p n)], f') ∧ ∀ c, c ≠ 66 → c ≠ 67 → f' c = f c := by
  obtain ⟨m1, m2⟩ := m
  obtain ⟨r1, r2, r3, r4⟩ := hI.2.2.2.2.2.2.2
  have a50 : f 50 p = h 11 (14 + p) := by rw [m1 50 p (by unfold mm_sc; omega) (by omega)]; exact (N2 hI.1 p hp.1 hp.2).1
  have a51 : ∀ k : Int, 0 ≤ k → k < 10 → f 51 k = h 11 (21 + k) := fun k k0 k1 => by rw [m1 51 k (by unfold mm_sc; omega) (by omega)]; exact (N3 hI.1 k k0 k1).1
  have a52 : f 52 w = h 11 (31 + w) := by rw [m1 52 w (by unfold mm_sc; omega) (by omega)]; exact (N4 hI.1 w hw.1 hw.2).1
  have b2 := (N2 hI.1 p hp.1 hp.2).2
  have b3 := (N3 hI.1 w hw.1 hw.2).2
  have b4 := (N4 hI.1 w hw.1 hw.2).2
  have b5 := (N3 hI.1 (h 11 (31 + w)) b4.1 (by omega)).2
  have a33 : f 47 33 = h 47 33 := m1 47 33 (by unfold mm_sc; omega) (by omega)
  have e121 : ∀ (v : Int) (x : mm_M), mm_ev mX10_mishear 4 121 [some (vR 47), some (vI p), some (vI n), some (vI v)] [] x = some ([vI (clp v)], x) := fun v x => by
    rw [X10_mishear_121, clp_eq]
    by_cases q1 : 0 ≤ v
    · rw [if_pos q1, if_pos q1]
      by_cases q2 : v ≤ 12
      · rw [if_pos q2, if_pos q2]
      · rw [if_neg q2, if_neg q2]
    · rw [if_neg q1, if_neg q1]
  rw [X10_mishear_c]
  unfold misV
  by_cases q : p = 0
  · rw [if_neg (fun z => z q), if_pos q]
    exact ⟨f, rfl, fun _ _ _ => rfl⟩
  · rw [if_pos q, if_neg q, if_pos hp, if_pos (show 0 ≤ f 47 11 ∧ f 47 11 < 10 by rw [m2]; exact hw)]
    have w1 : w32 (h 11 (14 + p) + n) = h 11 (14 + p) + n := w32_id (by unfold mm_r32; omega)
    have w2 : w32 (h 11 (14 + p) + n - h 11 (21 + w)) = h 11 (14 + p) + n - h 11 (21 + w) := w32_id (by unfold mm_r32; omega)
    rcases r4 with ⟨s1, s2⟩ | ⟨s1, s2, s3, s4, a, A, LN, al⟩
    · rw [if_pos (by rw [a33]; exact s1), m2, a50, a51 w hw.1 hw.2, w1, w2, e121, if_pos s2]
      exact ⟨f, rfl, fun _ _ _ => rfl⟩
    · rw [if_neg (by rw [a33]; omega)]
      have E : ∀ (F : mm_M), F = mUp (mUp (mUp (mUp (mUp f 66 0 (f 51 (f 47 11))) 66 1 n) 66 2 (f 50 p)) 66 3 p) 66 4 (f 47 11) → ∃ f', (if 0 ≤ f 47 11 ∧ f 47 11 < 10 then if (0 : Int) ≤ 0 ∧ (0 : Int) < 6 then if (0 : Int) ≤ 1 ∧ (1 : Int) < 6 then if 0 ≤ p ∧ p < 7 then if (0 : Int) ≤ 2 ∧ (2 : Int) < 6 then if (0 : Int) ≤ 3 ∧ (3 : Int) < 6 then if (0 : Int) ≤ 4 ∧ (4 : Int) < 6 then if 0 ≤ f 47 11 ∧ f 47 11 < 10 then if 0 ≤ f 47 11 ∧ f 47 11 < 10 then if 0 ≤ f 52 (f 47 11) ∧ f 52 (f 47 11) < 10 then (mm_call mX10_apart [vI (f 51 (f 47 11)), vI (f 51 (f 52 (f 47 11)))] F).bind (fun z => mm_ev mX10_mishear 4 114 [some (vR 47), some (vI p), some (vI n), some (vI (w32 (w32 (f 50 p + n) - f 51 (f 47 11))))] (z.1 ++ [vI 5, vR 66]) z.2) else none else none else none else none else none else none else none else none else none else none) = some ([vI (clp (if h 2 7 = 0 then h 11 (14 + p) + n - h 11 (21 + w) else lwN (h 61) (h 62) (h 64) (h 65) (fcV h w p n) (h 63 0).toNat 0 0))], f') ∧ ∀ c, c ≠ 66 → c ≠ 67 → f' c = f c := by
        intro F hF
        have Ffr : ∀ c, c ≠ 66 → F c = f c := fun c hc => by rw [hF, mUp_ne hc, mUp_ne hc, mUp_ne hc, mUp_ne hc, mUp_ne hc]
        have ap : mm_call mX10_apart [vI (h 11 (21 + w)), vI (h 11 (21 + h 11 (31 + w)))] F = some ([vI (dd (h 11 (21 + w)) (h 11 (21 + h 11 (31 + w))))], F) := by
          have c1 : w32 (h 11 (21 + h 11 (31 + w)) - h 11 (21 + w)) = h 11 (21 + h 11 (31 + w)) - h 11 (21 + w) := w32_id (by unfold mm_r32; omega)
          have c2 : w32 (h 11 (21 + w) - h 11 (21 + h 11 (31 + w))) = h 11 (21 + w) - h 11 (21 + h 11 (31 + w)) := w32_id (by unfold mm_r32; omega)
          rw [X10_apart_c]
          unfold dd
          repeat' split
          all_goals first | (exfalso; omega) | (rw [c1]) | (rw [c2])
        have G : ∀ j : Int, 0 ≤ j → j < 6 → (mUp F 66 5 (dd (h 11 (21 + w)) (h 11 (21 + h 11 (31 + w))))) 66 j = fcV h w p n j := fun j j0 j6 => by
          have jj : j = 0 ∨ j = 1 ∨ j = 2 ∨ j = 3 ∨ j = 4 ∨ j = 5 := by omega
          rw [hF, m2, a50, a51 w hw.1 hw.2]
          rcases jj with rfl | rfl | rfl | rfl | rfl | rfl <;> rfl
        have e : ∀ c, c ≠ 66 → c ≠ 47 → (∀ i, ¬ mm_sc c i) → (mUp F 66 5 (dd (h 11 (21 + w)) (h 11 (21 + h 11 (31 + w))))) c = h c := fun c hc c47 hs => by
          rw [mUp_ne hc, Ffr c hc]
          funext i
          exact m1 c i (hs i) (by omega)
        have e61 := e 61 (by decide) (by decide) (fun i => by unfold mm_sc; omega)
        have e62 := e 62 (by decide) (by decide) (fun i => by unfold mm_sc; omega)
        have e63 := e 63 (by decide) (by decide) (fun i => by unfold mm_sc; omega)
        have e64 := e 64 (by decide) (by decide) (fun i => by unfold mm_sc; omega)
        have e65 := e 65 (by decide) (by decide) (fun i => by unfold mm_sc; omega)
        obtain ⟨f', g1, g2⟩ := s_gives (mUp F 66 5 (dd (h 11 (21 + w)) (h 11 (21 + h 11 (31 + w))))) (h 63 0) (fcV h w p n) a A (h (h 2 6).toNat) G (by rw [e63]) (by rw [e61, e62, e64, e65]; exact LN) (by omega) s4
        rw [e61, e62, e64, e65] at g1
        refine ⟨f', ?_, fun c q1 q2 => by
          have : f' c = _ := funext (fun i => g2 c i q2)
          rw [this, mUp_ne q1, Ffr c q1]⟩
        rw [if_pos (by rw [m2]; exact hw), if_pos (by decide), if_pos (by decide), if_pos hp, if_pos (by decide), if_pos (by decide), if_pos (by decide), if_pos (by rw [m2]; exact hw), if_pos (by rw [m2]; exact hw), m2, a52, if_pos (show 0 ≤ h 11 (31 + w) ∧ h 11 (31 + w) < 10 by omega), a51 w hw.1 hw.2, a51 _ b4.1 (by omega), ap, mm_be1, X10_mishear_114, if_pos (by decide), g1, mm_be1, X10_mishear_120, e121, if_neg (by omega)]
      exact E _ rfl
theorem p_mishears (h : mm_M) (a : Int) (hI : mm_Inv h) (ha : mm_r32 a) : mm_Pr mX9_mishears mX10_mishears [vI a] h mm_Inv := by
  obtain ⟨n0, n7, n47, -⟩ := id hI.1
  by_cases a0 : a < 0
  · refine mm_Pr.of (v := vI (-1)) (h1 := h) (h2 := h) ?_ ?_ hI
    · rw [X9_mishears_c, if_pos a0]
    · rw [X10_mishears_c, if_pos a0]
  · obtain ⟨t0, t2, w1⟩ := rs_b ha (by omega)
    by_cases z : a.tdiv 10 < h 1 1 ∧ a.tmod 10 ≤ 6
    · have N9 := N9 hI.1
      obtain ⟨g, c1, c2⟩ := c_mis h h hI mm_Sm.rf (h 11 54) (a.tdiv 10) (a.tmod 10) (by omega) (by omega) (by omega)
      have gS := c2.Sm
      obtain ⟨f, d1, d2⟩ := s_mis h g hI (h 11 54) (a.tdiv 10) (a.tmod 10) ⟨fun c k q _ => gS c k q, by rw [gS 47 11 (by unfold mm_sc; omega)]; exact N9.1⟩ (by omega) (by omega) (by omega)
      have g1 : g 47 1 = h 1 1 := by rw [gS 47 1 (by unfold mm_sc; omega)]; exact n47
      refine mm_Pr.of (v := vI (misV h (h 11 54) (a.tdiv 10) (a.tmod 10))) (h1 := g) (h2 := f) ?_ ?_ (mm_Inv_Sm (fun c k w => ?_) hI)
      · rw [X9_mishears_c, if_neg a0, if_neg (by omega), w1, c_isPost, if_pos (⟨t0, z.1⟩ : 0 ≤ a.tdiv 10 ∧ a.tdiv 10 < h 1 1), mm_be1, X9_mishears_24, if_pos (by decide), c_new, mm_be1, X9_mishears_46, w1, c1, mm_be1, X9_mishears_57]
      · rw [X10_mishears_c, if_neg a0, w1, s_post g _ (by omega), g1, if_pos (⟨t0, z.1⟩ : 0 ≤ a.tdiv 10 ∧ a.tdiv 10 < h 1 1), mm_be1, X10_mishears_12, if_neg (by decide), if_neg (by omega), w1, d1, mm_be1, X10_mishears_36]
      · rw [d2 c (fun q => w (by unfold mm_sc; omega)) (fun q => w (by unfold mm_sc; omega))]
        exact gS c k w
    · refine mm_Pr.of (v := vI (-1)) (h1 := h) (h2 := h) ?_ ?_ hI
      · rw [X9_mishears_c, if_neg a0]
        by_cases q : 6 < a.tmod 10
        · rw [if_pos q]
        · rw [if_neg q, w1, c_isPost, if_neg (fun w : 0 ≤ a.tdiv 10 ∧ a.tdiv 10 < h 1 1 => z ⟨w.2, by omega⟩), mm_be1, X9_mishears_24, if_neg (fun w => w rfl)]
      · rw [X10_mishears_c, if_neg a0, w1, s_post h _ (by omega), n47, mm_be1, X10_mishears_12]
        by_cases q : 0 ≤ a.tdiv 10 ∧ a.tdiv 10 < h 1 1
        · rw [if_pos q, if_neg (by decide), if_pos (by omega)]
        · rw [if_neg q, if_pos rfl]
