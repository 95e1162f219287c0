/-! right: the pair -/
/-- long answers -/
theorem iShl_n {n : Int} (h : 0 ≤ n ∧ n ≤ 7) : 1 ≤ iShl 1 n ∧ iShl 1 n ≤ 128 := by
  have : n = 0 ∨ n = 1 ∨ n = 2 ∨ n = 3 ∨ n = 4 ∨ n = 5 ∨ n = 6 ∨ n = 7 := by omega
  rcases this with rfl | rfl | rfl | rfl | rfl | rfl | rfl | rfl <;> decide +kernel
theorem rr_of {h g f : mm_M} (hI : mm_Inv h) (fS : mm_Sm h f) (L : mm_LAY g f) : mm_rr h f (h 11 54) (g 23) (g 4 0) := by
  refine ⟨⟨fun c k q _ => fS c k q, ?_⟩, L.1, fun j j0 j1 => L.2.1 j j0 j1⟩
  rw [(N9 (mm_Inv_Sm fS hI).1).1]
  exact fS 11 54 (by unfold mm_sc; omega)
theorem mm_rx.Sm {f f' : mm_M} (x : mm_rx f f') : mm_Sm f f' := fun c i w => by
  rw [x c (fun q => w (by unfold mm_sc; omega)) (fun q => w (by unfold mm_sc; omega))]
theorem p_right (h : mm_M) (s p tw pt : Int) (hI : mm_Inv h) : mm_Pr mX9_right mX10_right [vI s, vI p, vI tw, vI pt] h mm_Inv := by
  obtain ⟨n0, n7, n47, -⟩ := id hI.1
  have sh := iShl_n (n := h 1 1) ⟨n0, n7⟩
  have w1 : w32 (h 1 1 - 1) = h 1 1 - 1 := w32_id (by unfold mm_r32; omega)
  have w2 : w32 (iShl 1 (h 1 1) - 1) = iShl 1 (h 1 1) - 1 := w32_id (by unfold mm_r32; omega)
  have eC : mm_call mX9_right [vR 0, vI s, vI p, vI tw, vI pt] h = if (0 ≤ pt ∧ pt ≤ 1) ∧ (-2 ≤ p ∧ p < h 1 1) ∧ 0 ≤ tw ∧ tw < iShl 1 (h 1 1) then (mm_call mX9_layOut [vR 0, vI s] h).bind (fun z => mm_ev mX9_right 6 51 [some (vR 0), some (vI s), some (vI p), some (vI tw), some (vI pt)] (z.1 ++ []) z.2) else some ([vL (-9223372036854775808)], h) := by
    rw [X9_right_c, c_isPart, mm_be1, X9_right_5]
    by_cases q1 : 0 ≤ pt ∧ pt ≤ 1
    · rw [if_pos q1, if_neg (by decide)]
      by_cases q2 : p < -2
      · rw [if_pos q2, if_neg (by omega)]
      · rw [if_neg q2]
        by_cases q3 : p < h 1 1
        · rw [if_pos q3]
          by_cases q4 : tw < 0
          · rw [if_pos q4, if_neg (by omega)]
          · rw [if_neg q4]
            by_cases q5 : iShl 1 (h 1 1) ≤ tw
            · rw [if_pos q5, if_neg (by omega)]
            · rw [if_neg q5, if_pos ⟨q1, by omega, by omega⟩]
        · rw [if_neg q3, if_neg (by omega)]
    · rw [if_neg q1, if_pos rfl, if_neg (fun w => q1 w.1)]
  have eR : ∀ x : mm_M, x 47 1 = h 1 1 → mm_call mX10_right [vR 47, vI s, vI p, vI tw, vI pt] x = if (0 ≤ s ∧ s < 6) ∧ (0 ≤ pt ∧ pt ≤ 1) ∧ (-2 ≤ p ∧ p < h 1 1) ∧ 0 ≤ tw ∧ tw < iShl 1 (h 1 1) then (mm_call mX10_layOr [vR 47, vI s] x).bind (fun z => mm_ev mX10_right 7 51 [some (vR 47), some (vI s), some (vI p), some (vI tw), some (vI pt), none, none, none] (z.1 ++ []) z.2) else some ([vL (-9223372036854775808)], x) := by
    intro x e
    rw [X10_right_c, s_shelf, mm_be1, X10_right_4]
    by_cases hs : 0 ≤ s ∧ s < 6
    · rw [if_pos hs, if_neg (by decide), e, w1, s_in, mm_be1, X10_right_19]
      by_cases q2 : -2 ≤ p ∧ p < h 1 1
      · rw [if_pos (show -2 ≤ p ∧ p ≤ h 1 1 - 1 by omega), if_neg (by decide), e, w2, s_in, mm_be1, X10_right_35]
        by_cases q3 : 0 ≤ tw ∧ tw < iShl 1 (h 1 1)
        · rw [if_pos (show 0 ≤ tw ∧ tw ≤ iShl 1 (h 1 1) - 1 by omega), if_neg (by decide), s_isPart, mm_be1, X10_right_43]
          by_cases q1 : 0 ≤ pt ∧ pt ≤ 1
          · rw [if_pos q1, if_neg (by decide), if_pos ⟨hs, q1, q2, q3⟩]
          · rw [if_neg q1, if_pos rfl, if_neg (fun w => q1 w.2.1)]
        · rw [if_neg (show ¬ (0 ≤ tw ∧ tw ≤ iShl 1 (h 1 1) - 1) by omega), if_pos rfl, if_neg (fun w => q3 w.2.2.2)]
      · rw [if_neg (show ¬ (-2 ≤ p ∧ p ≤ h 1 1 - 1) by omega), if_pos rfl, if_neg (fun w => q2 w.2.2.1)]
    · rw [if_neg hs, if_pos rfl, if_neg (fun w => hs w.1)]
  by_cases q : (0 ≤ pt ∧ pt ≤ 1) ∧ (-2 ≤ p ∧ p < h 1 1) ∧ 0 ≤ tw ∧ tw < iShl 1 (h 1 1)
  · rw [if_pos q] at eC
    by_cases hz : kWhy h s 0 = 0
    · obtain ⟨hs, -⟩ := kWhy0 hz
      obtain ⟨g, a1, -, W, a4, a5, a6, a7, a8⟩ := mm_ctx h s hI hz
      have n9 := (N9 hI.1).2
      obtain ⟨x, x1, wt, xf⟩ := c_weigh h g hI a4 W (h 11 54) (by omega)
      have g54 : g 11 54 = h 11 54 := a4 11 54 (by unfold mm_sc; omega)
      rw [a1, mm_be1, X9_right_51, if_pos rfl, c_new, mm_be1, X9_right_83, g54, x1, mm_be0, X9_right_86] at eC
      obtain ⟨f, b1, -, L, b4, b5, -, -, -, -⟩ := a8 x xf.Sm
      have fS := (a4.tr xf.Sm).tr b4
      have R := rr_of hI fS L
      have x47 : x 47 1 = h 1 1 := by rw [(a4.tr xf.Sm) 47 1 (by unfold mm_sc; omega)]; exact n47
      have eR := eR x x47
      rw [if_pos ⟨hs, q⟩, b1, mm_be1, X10_right_51, if_pos (by decide)] at eR
      have W0 := W.1
      have W6 := W.2.1
      have g11 : g 1 1 = h 1 1 := a4 1 1 (by unfold mm_sc; omega)
      have ev : ∀ j : Int, 0 ≤ j → j < g 4 0 → 0 ≤ g 23 j ∧ g 23 j < 7 := fun j j0 j1 => by
        have := (W.2.2.1 j j0 j1).1
        omega
      have x4 : x 4 0 = g 4 0 := xf 4 0 (by decide) (by decide) (by decide) (by decide) (by decide)
      have x23 : ∀ j : Int, 0 ≤ j → j < g 4 0 → x 23 j = g 23 j ∧ 0 ≤ g 23 j ∧ g 23 j < 7 := fun j j0 j1 => ⟨xf 23 j (by decide) (by decide) (by decide) (by decide) (by omega), ev j j0 j1⟩
      have t128 : 0 ≤ tw ∧ tw < 128 := by omega
      by_cases p1 : p = -1
      · rw [if_neg (fun w => w p1), c_ofAll h x _ _ (g 4 0) tw wt ⟨W0, W6⟩ x4 x23, mm_be1, X9_right_103, c_below x (g 4 0) ⟨W0, W6⟩ x4, mm_be1, X9_right_114] at eC
        obtain ⟨f', d1, d2⟩ := s_rightAll h hI (h 11 54) (g 23) (g 4 0) tw (by omega) ⟨W0, W6⟩ ev t128 f R
        have pb := prN_6 (A := vRt h (h 11 54) (g 23) tw) (g 4 0).toNat (by omega) (fun i i0 i1 => vRt_b _ _ _ _ _)
        have p4 := prN_144 (g 4 0).toNat (by omega)
        obtain ⟨v, v1, v2⟩ := part_both (prN (vRt h (h 11 54) (g 23) tw) (g 4 0).toNat) (prN (fun _ => 144) (g 4 0).toNat) pt pb.1 p4.1 p4.2
        rw [v1, mm_be1, X9_right_119] at eC
        rw [if_pos (show ¬ p = 0 by omega), if_neg (fun w => w p1), d1, mm_be1, X10_right_74, s_ofAll f' (g 4 0) ⟨W0, W6⟩ ((R.fr d2).2.1), mm_be1, X10_right_78, v2, mm_be1, X10_right_83] at eR
        exact mm_Pr.of eC eR (mm_Inv_Sm (fS.tr d2.Sm) hI)
      · rw [if_pos p1] at eC
        -- the reference's sum, over all that count
        have S : ∀ (B : Int → Int), (∀ j : Int, 0 ≤ j → j < g 4 0 → B j = if p = -2 ∨ g 23 j = p then vRt h (h 11 54) (g 23) tw j else 0) → ∃ f', mm_ev mX10_right 7 90 [some (vR 47), some (vI s), some (vI p), some (vI tw), some (vI pt), some (vL 0), none, some (vI 0)] [] f = (mm_call mX10_asPart [vL (sm B (g 4 0).toNat), vL 144, vI pt] f').bind (fun z => mm_ev mX10_right 7 144 [some (vR 47), some (vI s), some (vI p), some (vI tw), some (vI pt), some (vL (sm B (g 4 0).toNat)), none, some (vI (g 4 0))] (z.1 ++ []) z.2) ∧ mm_rx f f' := by
          intro B hB
          have bb : ∀ j : Int, 0 ≤ j → j < g 4 0 → 0 ≤ B j ∧ B j ≤ 144 := fun j j0 j1 => by
            have := vRt_b h (h 11 54) (g 23) tw j
            rw [hB j j0 j1]
            split <;> omega
          have LL : ∀ (c : Nat) (k : Int) (y : mm_M), 0 ≤ k → k ≤ g 4 0 → g 4 0 - k ≤ c → mm_rx f y → ∃ f', mm_ev mX10_right 7 90 [some (vR 47), some (vI s), some (vI p), some (vI tw), some (vI pt), some (vL (sm B k.toNat)), none, some (vI k)] [] y = (mm_call mX10_asPart [vL (sm B (g 4 0).toNat), vL 144, vI pt] f').bind (fun z => mm_ev mX10_right 7 144 [some (vR 47), some (vI s), some (vI p), some (vI tw), some (vI pt), some (vL (sm B (g 4 0).toNat)), none, some (vI (g 4 0))] (z.1 ++ []) z.2) ∧ mm_rx f f' := by
            intro c
            have fin : ∀ (k : Int) (y : mm_M), k = g 4 0 → mm_rx f y → ∃ f', mm_ev mX10_right 7 90 [some (vR 47), some (vI s), some (vI p), some (vI tw), some (vI pt), some (vL (sm B k.toNat)), none, some (vI k)] [] y = (mm_call mX10_asPart [vL (sm B (g 4 0).toNat), vL 144, vI pt] f').bind (fun z => mm_ev mX10_right 7 144 [some (vR 47), some (vI s), some (vI p), some (vI tw), some (vI pt), some (vL (sm B (g 4 0).toNat)), none, some (vI (g 4 0))] (z.1 ++ []) z.2) ∧ mm_rx f f' := by
              intro k y ek fy
              refine ⟨y, ?_, fy⟩
              rw [X10_right_90, (R.fr fy).2.1, if_pos (by omega), ek]
            induction c with
            | zero =>
              intro k y k0 kn kc fy
              exact fin k y (by omega) fy
            | succ c ih =>
              intro k y k0 kn kc fy
              by_cases z : k = g 4 0
              · exact fin k y z fy
              · have Ry := R.fr fy
                have w4 : w32 (k + 1) = k + 1 := w32_id (by unfold mm_r32; omega)
                have sb := sm_b (A := B) (c := 144) k.toNat (fun i i0 i1 => bb i i0 (by omega))
                have vb := vRt_b h (h 11 54) (g 23) tw k
                obtain ⟨y', c1, c2⟩ := s_rightOf h y hI (h 11 54) (g 23) (g 4 0) tw k Ry (by omega) W6 k0 (by omega) (ev k k0 (by omega)) t128
                have Bk := hB k k0 (by omega)
                have go : p = -2 ∨ g 23 k = p → mm_ev mX10_right 7 125 [some (vR 47), some (vI s), some (vI p), some (vI tw), some (vI pt), some (vL (sm B k.toNat)), none, some (vI k)] [vL (vRt h (h 11 54) (g 23) tw k), vL (sm B k.toNat)] y' = mm_ev mX10_right 7 90 [some (vR 47), some (vI s), some (vI p), some (vI tw), some (vI pt), some (vL (sm B (k + 1).toNat)), none, some (vI (k + 1))] [] y' := fun w => by
                  rw [if_pos w] at Bk
                  rw [X10_right_125, w4, sm_s k0, Bk, w64_id (by unfold mm_r64; omega)]
                rw [X10_right_90, Ry.2.1, if_neg (by omega)]
                by_cases z2 : p = -2
                · rw [if_pos z2, c1, mm_be1, go (Or.inl z2)]
                  exact ih (k + 1) y' (by omega) (by omega) (by omega) (fy.tr c2)
                · rw [if_neg z2, if_pos (by omega), Ry.2.2 k k0 (by omega)]
                  by_cases z3 : g 23 k = p
                  · rw [if_neg (fun w => w z3), c1, mm_be1, go (Or.inr z3)]
                    exact ih (k + 1) y' (by omega) (by omega) (by omega) (fy.tr c2)
                  · rw [if_neg (fun w => w.elim z2 z3)] at Bk
                    rw [if_pos z3, w4]
                    have e : sm B k.toNat = sm B (k + 1).toNat := by
                      rw [sm_s k0, Bk]
                      omega
                    rw [e]
                    exact ih (k + 1) y (by omega) (by omega) (by omega) fy
          exact LL 6 0 f (by decide) W0 (by omega) mm_rx.rf
        by_cases p2 : p = -2
        · have sb := sm_b (A := vRt h (h 11 54) (g 23) tw) (c := 144) (g 4 0).toNat (fun i i0 i1 => vRt_b _ _ _ _ _)
          obtain ⟨f', d1, d2⟩ := S (vRt h (h 11 54) (g 23) tw) (fun j _ _ => by rw [if_pos (Or.inl p2)])
          obtain ⟨v, v1, v2⟩ := part_both (sm (vRt h (h 11 54) (g 23) tw) (g 4 0).toNat) 144 pt sb.1 (by decide) (by decide)
          rw [if_neg (fun w => w p2), c_mean h x _ _ (g 4 0) tw wt ⟨W0, W6⟩ x4 x23, mm_be1, X9_right_138, v1, mm_be1, X9_right_147] at eC
          rw [if_pos (show ¬ p = 0 by omega), if_pos p1, d1, v2, mm_be1, X10_right_144] at eR
          exact mm_Pr.of eC eR (mm_Inv_Sm (fS.tr d2.Sm) hI)
        · have p7 : 0 ≤ p ∧ p < 7 := by omega
          rw [if_pos p2, c_ofOne x p tw p7, mm_be1, X9_right_157] at eC
          by_cases p0 : p = 0
          · have e0 : (if tb tw p = 0 then x 30 p else x 31 p) = 144 := by
              rw [p0, wt.1.1, wt.1.2]
              split <;> rfl
            rw [e0, part_one, mm_be1, X9_right_166] at eC
            rw [if_neg (fun w => w p0)] at eR
            exact mm_Pr.of eC eR (mm_Inv_Sm fS hI)
          · rw [if_pos p0, if_pos p1] at eR
            obtain ⟨f', d1, d2⟩ := S (fun j => if g 23 j = p then vRt h (h 11 54) (g 23) tw j else 0) (fun j _ _ => by
              show (if g 23 j = p then _ else _) = _
              by_cases z : g 23 j = p
              · rw [if_pos z, if_pos (Or.inr z)]
              · rw [if_neg z, if_neg (fun w => w.elim p2 z)])
            have key : sm (fun j => if g 23 j = p then vRt h (h 11 54) (g 23) tw j else 0) (g 4 0).toNat = (if tb tw p = 0 then x 30 p else x 31 p) := by
              have z0 : ∀ m : Nat, (m : Int) ≤ g 4 0 → (∀ j : Int, 0 ≤ j → j < m → ¬ g 23 j = p) → sm (fun j => if g 23 j = p then vRt h (h 11 54) (g 23) tw j else 0) m = 0 := by
                intro m
                induction m with
                | zero => intro _ _; rfl
                | succ m ih =>
                  intro hm hj
                  show sm _ m + (if g 23 (m : Int) = p then _ else _) = 0
                  rw [ih (by omega) (fun j j0 j1 => hj j j0 (by omega)), if_neg (hj m (by omega) (by omega))]
                  rfl
              by_cases z : ∃ j : Int, 0 ≤ j ∧ j < g 4 0 ∧ g 23 j = p
              · obtain ⟨j, j0, j1, ej⟩ := z
                have ne : ∀ i : Int, 0 ≤ i → i < g 4 0 → ¬ i = j → ¬ g 23 i = p := fun i i0 i1 ij w => by
                  rcases Int.lt_trichotomy i j with t | t | t
                  · exact WG_d W i0 t j1 (w.trans ej.symm)
                  · exact ij t
                  · exact WG_d W j0 t i1 (ej.trans w.symm)
                have one : ∀ m : Nat, j < m → (m : Int) ≤ g 4 0 → sm (fun j => if g 23 j = p then vRt h (h 11 54) (g 23) tw j else 0) m = vRt h (h 11 54) (g 23) tw j := by
                  intro m
                  induction m with
                  | zero => intro hm _; omega
                  | succ m ih =>
                    intro hm hm2
                    show sm _ m + (if g 23 (m : Int) = p then vRt h (h 11 54) (g 23) tw (m : Int) else 0) = _
                    by_cases z : (m : Int) = j
                    · rw [z0 m (by omega) (fun i i0 i1 => ne i i0 (by omega) (by omega)), z, if_pos ej]
                      omega
                    · rw [ih (by omega) (by omega), if_neg (ne m (by omega) (by omega) z)]
                      omega
                rw [one (g 4 0).toNat (by omega) (by omega)]
                obtain ⟨u1, u2, u3⟩ := wt.2.1 j j0 j1
                rw [ej] at u2 u3
                unfold vRt
                rw [ej, u2, u3]
              · have nz : ∀ j : Int, 0 ≤ j → j < g 4 0 → ¬ g 23 j = p := fun j j0 j1 ej => z ⟨j, j0, j1, ej⟩
                rw [z0 (g 4 0).toNat (by omega) (fun j j0 j1 => nz j j0 (by omega)), (wt.2.2 p (by omega) p7.2 nz).1, (wt.2.2 p (by omega) p7.2 nz).2]
                split <;> rfl
            rw [key] at d1
            have kb : 0 ≤ (if tb tw p = 0 then x 30 p else x 31 p) := by
              rw [← key]
              have sb := sm_b (A := fun j => if g 23 j = p then vRt h (h 11 54) (g 23) tw j else 0) (c := 144) (g 4 0).toNat (fun i i0 i1 => by
                have := vRt_b h (h 11 54) (g 23) tw i
                show 0 ≤ (if g 23 i = p then _ else _) ∧ (if g 23 i = p then _ else _) ≤ _
                split <;> omega)
              exact sb.1
            obtain ⟨v, v1, v2⟩ := part_both (if tb tw p = 0 then x 30 p else x 31 p) 144 pt kb (by decide) (by decide)
            rw [v1, mm_be1, X9_right_166] at eC
            rw [d1, v2, mm_be1, X10_right_144] at eR
            exact mm_Pr.of eC eR (mm_Inv_Sm (fS.tr d2.Sm) hI)
    · rw [lay_bad h s hz, mm_be1, X9_right_51, if_neg hz] at eC
      refine mm_Pr.of eC ?_ hI
      rw [eR h n47]
      by_cases hs : 0 ≤ s ∧ s < 6
      · have ng := kWhy_neg hz
        rw [if_pos ⟨hs, q⟩, rlay_bad h s hI hs hz, mm_be1, X10_right_51, if_neg (by omega)]
      · rw [if_neg (fun w => hs w.1)]
  · rw [if_neg q] at eC
    refine mm_Pr.of eC ?_ hI
    rw [eR h n47, if_neg (fun w => q w.2)]
