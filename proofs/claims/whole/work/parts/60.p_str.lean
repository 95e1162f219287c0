/-! stranger, safe: the pairs -/
def oW (B old new : Int) : Int := if B = 1 then old else new
theorem c_over (g : mm_M) (a : Int) (h1 : 0 ≤ a.tdiv 1000 ∧ a.tdiv 1000 < 7) (h2 : 0 ≤ a.tmod 1000 ∧ a.tmod 1000 ≤ 999) (h3 : w32 (a.tdiv 1000) = a.tdiv 1000) (hb : ∀ p : Int, 0 ≤ p → p < 7 → mm_bok (bh g p)) (hn : mm_nok g) : mm_call mX9_overheard [vR 0, vI a] g = some ([vI (oW (rBits (mm_tH (bh g (a.tdiv 1000)) (g 11 55)) (g 11 53) (g 11 54) (g 11 56) (a.tmod 1000)) (g 11 53) (g 11 54))], g) := by
  rw [X9_overheard_c, h3, c_lets g _ _ h1 (hb _ h1.1 h1.2) hn, mm_be1, bits_eq (hb _ h1.1 h1.2) hn.1 (by omega) hn.2.1.1]
  refine (X9_overheard_25 _ _ _).trans ?_
  unfold oW
  by_cases q : rBits (mm_tH (bh g (a.tdiv 1000)) (g 11 55)) (g 11 53) (g 11 54) (g 11 56) (a.tmod 1000) = 1
  · rw [if_neg (fun w => w q), if_pos q, c_old, mm_be1]
    exact X9_overheard_39 _ _ _
  · rw [if_pos q, if_neg q, c_new, mm_be1]
    exact X9_overheard_39 _ _ _
theorem s_over (f : mm_M) (a : Int) (h1 : 0 ≤ a.tdiv 1000 ∧ a.tdiv 1000 < 7) (h3 : w32 (a.tdiv 1000) = a.tdiv 1000) (ho : mm_rok f) : mm_call mX10_overheard [vR 47, vI a] f = some ([vI (oW (rBits (f 69 (a.tdiv 1000)) (f 47 10) (f 47 11) (f 47 13) (a.tmod 1000)) (f 47 10) (f 47 11))], f) := by
  rw [X10_overheard_c, h3, s_bitsIn f _ _ h1 ho, mm_be1]
  refine (X10_overheard_14 _ _ _).trans ?_
  unfold oW
  by_cases q : rBits (f 69 (a.tdiv 1000)) (f 47 10) (f 47 11) (f 47 13) (a.tmod 1000) = 1
  · rw [if_neg (fun w => w q), if_pos q]
  · rw [if_pos q, if_neg q]
theorem p_stranger (h : mm_M) (s a p : Int) (hI : mm_Inv h) (ha : mm_r32 a) : mm_Pr mX9_stranger mX10_stranger [vI s, vI a, vI p] h mm_Inv := by
  obtain ⟨n0, n7, n47, -⟩ := id hI.1
  have eC : mm_call mX9_stranger [vR 0, vI s, vI a, vI p] h = if (0 ≤ a ∧ a.tdiv 1000 < h 1 1) ∧ 0 ≤ p ∧ p < h 1 1 then (mm_call mX9_layOut [vR 0, vI s] h).bind (fun w => mm_ev mX9_stranger 6 26 [some (vR 0), some (vI s), some (vI a), some (vI p), none, none, none, none] (w.1 ++ []) w.2) else some ([vI (-1)], h) := by
    rw [X9_stranger_c, c_isPM h a ha, mm_be1]
    refine (X9_stranger_5 _ _ _ _ _).trans ?_
    by_cases q : 0 ≤ a ∧ a.tdiv 1000 < h 1 1
    · rw [if_pos q, if_neg (by decide), c_isPost, mm_be1]
      refine (X9_stranger_16 _ _ _ _ _).trans ?_
      by_cases q2 : 0 ≤ p ∧ p < h 1 1
      · rw [if_pos q2, if_pos (by decide), if_pos ⟨q, q2⟩]
      · rw [if_neg q2, if_neg (fun w => w rfl), if_neg (fun w => q2 w.2)]
    · rw [if_neg q, if_pos rfl, if_neg (fun w => q w.1)]
  have eR : ∀ x : mm_M, x 47 1 = h 1 1 → mm_call mX10_stranger [vR 47, vI s, vI a, vI p] x = if 0 ≤ s ∧ s < 6 then (if (0 ≤ a ∧ a.tdiv 1000 < h 1 1) ∧ 0 ≤ p ∧ p < h 1 1 then (mm_call mX10_layOr [vR 47, vI s] x).bind (fun w => mm_ev mX10_stranger 6 33 [some (vR 47), some (vI s), some (vI a), some (vI p), none, none, none] (w.1 ++ []) w.2) else some ([vI (-1)], x)) else some ([vI (-1)], x) := by
    intro x e
    rw [X10_stranger_c, s_shelf, mm_be1]
    refine (X10_stranger_4 _ _ _ _ _).trans ?_
    by_cases hs : 0 ≤ s ∧ s < 6
    · rw [if_pos hs, if_neg (by decide), if_pos hs, s_arePost x a ha (by omega), mm_be1, e]
      refine (X10_stranger_15 _ _ _ _ _).trans ?_
      by_cases q : 0 ≤ a ∧ a.tdiv 1000 < h 1 1
      · rw [if_pos q, if_neg (by decide), s_post x p (by omega), mm_be1, e]
        refine (X10_stranger_23 _ _ _ _ _).trans ?_
        by_cases q2 : 0 ≤ p ∧ p < h 1 1
        · rw [if_pos q2, if_pos (by decide), if_pos ⟨q, q2⟩]
        · rw [if_neg q2, if_neg (fun w => w rfl), if_neg (fun w => q2 w.2)]
      · rw [if_neg q, if_pos rfl, if_neg (fun w => q w.1)]
    · rw [if_neg hs, if_pos rfl, if_neg hs]
  by_cases q : (0 ≤ a ∧ a.tdiv 1000 < h 1 1) ∧ 0 ≤ p ∧ p < h 1 1
  · rw [if_pos q] at eC
    obtain ⟨pm1, pm2, pm3⟩ := pm_b ha n7 q.1
    have p7 : 0 ≤ p ∧ p < 7 := by omega
    by_cases hz : kWhy h s 0 = 0
    · obtain ⟨hs, -⟩ := kWhy0 hz
      obtain ⟨g, a1, -, a3, a4, a5, a6, a7, a8⟩ := mm_ctx h s hI hz
      obtain ⟨f, b1, b2, b3, b4, b5, b6, b7, b8, b9⟩ := a8 g mm_Sm.rf
      have ag := AG_of b3 b5.1 b8 b9
      have e13 : f 47 13 = g 11 56 := by rw [(N11 b5.1).1, b8]
      obtain ⟨g1, g2, g3, g4, g5, g6⟩ := ag
      have eR := eR g (by rw [a4 47 1 (by unfold mm_sc; omega)]; exact n47)
      rw [if_pos hs, if_pos q, b1, mm_be1] at eR
      have eR := eR.trans (X10_stranger_33 _ _ _ _ _)
      rw [if_pos (by decide), s_over f a pm1 pm3 b6, mm_be1] at eR
      have eR := eR.trans (X10_stranger_48 _ _ _ _ _ _)
      rw [s_isLetIn f _ _ _ p7 b6, mm_be1] at eR
      have eR := eR.trans (X10_stranger_66 _ _ _ _ _ _ _ _)
      rw [g6 _ pm1.1 pm1.2, g6 p p7.1 p7.2, g2, g3, e13] at eR
      rw [a1, mm_be1] at eC
      have eC := eC.trans (X9_stranger_26 _ _ _ _ _)
      rw [if_pos rfl, c_new, mm_be1] at eC
      have eC := eC.trans (X9_stranger_45 _ _ _ _ _ _)
      rw [c_over g a pm1 pm2 pm3 a6 a7, mm_be1] at eC
      have eC := eC.trans (X9_stranger_52 _ _ _ _ _ _ _)
      have bp := a6 p p7.1 p7.2
      rw [c_admits g _ _ _ _ p7 bp a7, mm_be1] at eC
      have eC := eC.trans (X9_stranger_75 _ _ _ _ _ _ _ _)
      have oo : ∀ B, oW B (g 11 53) (g 11 54) = g 11 53 ∨ oW B (g 11 53) (g 11 54) = g 11 54 := fun B => by
        unfold oW
        split
        · exact Or.inl rfl
        · exact Or.inr rfl
      have o2 := oo (rBits (mm_tH (bh g (a.tdiv 1000)) (g 11 55)) (g 11 53) (g 11 54) (g 11 56) (a.tmod 1000))
      generalize oW (rBits (mm_tH (bh g (a.tdiv 1000)) (g 11 55)) (g 11 53) (g 11 54) (g 11 56) (a.tmod 1000)) (g 11 53) (g 11 54) = W at eC eR o2
      have le := let_eq (b := bh g p) (a := g 11 55) (m := a.tmod 1000) (old := g 11 53) (e := g 11 54) (hd := g 11 56) (w := W) bp a7.1 (by omega) a7.2.1.1
      by_cases z : rLet (mm_tH (bh g p) (g 11 55)) (g 11 53) (g 11 54) (g 11 56) (a.tmod 1000) W
      · rw [if_pos z, if_pos (by decide)] at eR
        rw [if_pos (le.2 z), if_pos (by decide), c_hearing g p p7 bp a7.1, mm_be1] at eC
        have eC := eC.trans (X9_stranger_93 _ _ _ _ _ _ _ _)
        by_cases y1 : W = g 11 54
        · rw [if_pos y1] at eC
          refine mm_Pr.of eC (eR.trans ?_) b5
          by_cases y2 : g 11 53 = g 11 54
          · rw [if_pos y2]
          · rw [if_neg y2, if_pos y1]
        · rw [if_neg y1] at eC
          rw [if_neg (by omega), if_neg y1, if_pos p7, if_pos p7] at eR
          have n1 := a7.1
          have n2 := a7.2.1
          by_cases y2 : bh g p = 1000000
          · rw [show cT (bh g p) (g 11 55) = 1000000 from if_pos y2, if_neg (fun w => w rfl)] at eC
            rw [show mm_tH (bh g p) (g 11 55) = -2 from if_pos y2, if_neg (by decide)] at eR
            exact mm_Pr.of eC eR b5
          · rw [show cT (bh g p) (g 11 55) = g 11 55 + bh g p from if_neg y2, if_pos (by omega), c_holds, mm_be1] at eC
            have eC := eC.trans (X9_stranger_125 _ _ _ _ _ _ _ _ _ _)
            rw [show mm_tH (bh g p) (g 11 55) = g 11 55 + bh g p from if_neg y2, if_pos (by omega)] at eR
            exact mm_Pr.of eC eR b5
      · rw [if_neg z, if_neg (fun w => w rfl)] at eR
        rw [if_neg (fun w => z (le.1 w)), if_neg (fun w => w rfl)] at eC
        exact mm_Pr.of eC eR b5
    · rw [lay_bad h s hz, mm_be1] at eC
      have eC := eC.trans (X9_stranger_26 _ _ _ _ _)
      rw [if_neg hz] at eC
      refine mm_Pr.of eC ?_ hI
      rw [eR h n47]
      by_cases hs : 0 ≤ s ∧ s < 6
      · have ng := kWhy_neg hz
        rw [if_pos hs, if_pos q, rlay_bad h s hI hs hz, mm_be1]
        exact (X10_stranger_33 _ _ _ _ _).trans (if_neg (by omega))
      · rw [if_neg hs, kWhy_no hs]
  · rw [if_neg q] at eC
    refine mm_Pr.of eC ?_ hI
    rw [eR h n47, if_neg q]
    by_cases hs : 0 ≤ s ∧ s < 6
    · rw [if_pos hs]
    · rw [if_neg hs]
/-! safe -/
def mnN (T : Int → Int) (m : Int) : Nat → Int
  | 0 => 999
  | k + 1 => if m - T (k : Int) < mnN T m k then m - T (k : Int) else mnN T m k
theorem mnN_le (T : Int → Int) (m v : Int) : ∀ n : Nat, v ≤ mnN T m n ↔ v ≤ 999 ∧ ∀ p : Int, 0 ≤ p → p < n → v ≤ m - T p := by
  intro n
  induction n with
  | zero =>
    show v ≤ 999 ↔ _
    constructor
    · intro w
      exact ⟨w, fun p p0 p1 => by omega⟩
    · intro w
      exact w.1
  | succ n ih =>
    have e : (v ≤ mnN T m (n + 1)) ↔ v ≤ mnN T m n ∧ v ≤ m - T (n : Int) := by
      show v ≤ (if m - T (n : Int) < mnN T m n then m - T (n : Int) else mnN T m n) ↔ _
      split <;> omega
    rw [e, ih]
    constructor
    · intro w
      refine ⟨w.1.1, fun p p0 p1 => ?_⟩
      by_cases q : p = n
      · rw [q]
        exact w.2
      · exact w.1.2 p p0 (by omega)
    · intro w
      exact ⟨⟨w.1, fun p p0 p1 => w.2 p p0 (by omega)⟩, w.2 n (by omega) (by omega)⟩
theorem mnN_b (T : Int → Int) (m : Int) (hm : 0 ≤ m ∧ m ≤ 999) : ∀ n : Nat, (∀ p : Int, 0 ≤ p → p < n → 0 ≤ T p ∧ T p ≤ 1000000) → -1000000 ≤ mnN T m n ∧ mnN T m n ≤ 999 := by
  intro n
  induction n with
  | zero => intro _; exact ⟨by show (-1000000 : Int) ≤ 999; decide, Int.le_refl _⟩
  | succ n ih =>
    intro h
    have a := ih (fun p p0 p1 => h p p0 (by omega))
    have b := h n (by omega) (by omega)
    show -1000000 ≤ (if m - T (n : Int) < mnN T m n then m - T (n : Int) else mnN T m n) ∧ (if m - T (n : Int) < mnN T m n then m - T (n : Int) else mnN T m n) ≤ 999
    split <;> omega
def gT (g : mm_M) (p : Int) : Int := cT (bh g p) (g 11 55)
theorem gT_b {g : mm_M} {p : Int} (hb : mm_bok (bh g p)) (hn : mm_nok g) : 0 ≤ gT g p ∧ gT g p ≤ 1000000 := by
  have n1 := hn.1
  unfold gT
  by_cases q : bh g p = 1000000
  · rw [show cT (bh g p) (g 11 55) = 1000000 from if_pos q]
    omega
  · rw [show cT (bh g p) (g 11 55) = g 11 55 + bh g p from if_neg q]
    omega
theorem c_sOld (g : mm_M) (m : Int) (hm : 0 ≤ m ∧ m ≤ 999) (hb : ∀ p : Int, 0 ≤ p → p < 7 → mm_bok (bh g p)) (hn : mm_nok g) : mm_call mX9_safeFromOld [vR 0, vI m] g = some ([vI (if 0 ≤ mnN (gT g) m (g 1 1).toNat then mnN (gT g) m (g 1 1).toNat else -2)], g) := by
  have n7 := hn.2.2.1
  have st : ∀ (c : Nat) (k a : Int), 0 ≤ k → (k ≤ g 1 1 ∨ k = 0) → g 1 1 - k ≤ c → a = mnN (gT g) m k.toNat → mm_ev mX9_safeFromOld 3 6 [some (vR 0), some (vI m), some (vI a), some (vI k)] [] g = some ([vI (if 0 ≤ mnN (gT g) m (g 1 1).toNat then mnN (gT g) m (g 1 1).toNat else -2)], g) := by
    intro c
    induction c with
    | zero =>
      intro k a k0 k1 kc ha
      rw [X9_safeFromOld_6, if_pos (by omega), ha, show k.toNat = (g 1 1).toNat from by omega]
      by_cases q : 0 ≤ mnN (gT g) m (g 1 1).toNat
      · rw [if_pos q, if_pos q]
      · rw [if_neg q, if_neg q]
    | succ c ih =>
      intro k a k0 k1 kc ha
      by_cases q0 : g 1 1 ≤ k
      · rw [X9_safeFromOld_6, if_pos q0, ha, show k.toNat = (g 1 1).toNat from by omega]
        by_cases q : 0 ≤ mnN (gT g) m (g 1 1).toNat
        · rw [if_pos q, if_pos q]
        · rw [if_neg q, if_neg q]
      · have bp := hb k k0 (by omega)
        have gb := gT_b bp hn
        have w4 : w32 (k + 1) = k + 1 := w32_id (by unfold mm_r32; omega)
        have w1 : w32 (m - gT g k) = m - gT g k := w32_id (by unfold mm_r32; omega)
        rw [X9_safeFromOld_6, if_neg q0, c_hearing g k ⟨k0, by omega⟩ bp hn.1, mm_be1]
        refine (X9_safeFromOld_31 _ _ _ _ _ _ _).trans ?_
        show mm_ev mX9_safeFromOld 3 6 [some (vR 0), some (vI m), some (vI (if w32 (m - gT g k) < a then w32 (m - gT g k) else a)), some (vI (w32 (k + 1)))] [] g = _
        rw [w1, w4]
        refine ih (k + 1) _ (by omega) (by omega) (by omega) ?_
        rw [show (k + 1).toNat = k.toNat + 1 from by omega, ha]
        show _ = if m - gT g (k.toNat : Int) < mnN (gT g) m k.toNat then m - gT g (k.toNat : Int) else mnN (gT g) m k.toNat
        rw [show (k.toNat : Int) = k from by omega]
  rw [X9_safeFromOld_c]
  exact st 7 0 999 (by omega) (Or.inr rfl) (by omega) rfl
theorem c_sNew (g : mm_M) (m : Int) (h1 : 0 < g 1 1) (hb : ∀ p : Int, 0 ≤ p → p < 7 → mm_bok (bh g p)) (hn : mm_nok g) : ∃ r, mm_call mX9_safeFromNew [vR 0, vI m] g = some ([vI r], g) ∧ ((r = 999 ∧ ¬ g 11 53 = g 11 54 ∧ ∀ p : Int, 0 ≤ p → p < g 1 1 → m < gT g p) ∨ (r = -2 ∧ (g 11 53 = g 11 54 ∨ ∃ p : Int, 0 ≤ p ∧ p < g 1 1 ∧ gT g p ≤ m))) := by
  have n7 := hn.2.2.1
  have st : ∀ (c : Nat) (k : Int), 0 ≤ k → k ≤ g 1 1 → g 1 1 - k ≤ c → (0 < k → ¬ g 11 53 = g 11 54) → (∀ p : Int, 0 ≤ p → p < k → m < gT g p) → ∃ r, mm_ev mX9_safeFromNew 3 2 [some (vR 0), some (vI m), some (vI k)] [] g = some ([vI r], g) ∧ ((r = 999 ∧ ¬ g 11 53 = g 11 54 ∧ ∀ p : Int, 0 ≤ p → p < g 1 1 → m < gT g p) ∨ (r = -2 ∧ (g 11 53 = g 11 54 ∨ ∃ p : Int, 0 ≤ p ∧ p < g 1 1 ∧ gT g p ≤ m))) := by
    intro c
    induction c with
    | zero =>
      intro k k0 k1 kc ne A
      refine ⟨999, ?_, Or.inl ⟨rfl, ne (by omega), fun p p0 p1 => A p p0 (by omega)⟩⟩
      rw [X9_safeFromNew_2, if_pos (by omega)]
    | succ c ih =>
      intro k k0 k1 kc ne A
      by_cases q0 : g 1 1 ≤ k
      · refine ⟨999, ?_, Or.inl ⟨rfl, ne (by omega), fun p p0 p1 => A p p0 (by omega)⟩⟩
        rw [X9_safeFromNew_2, if_pos q0]
      · have bp := hb k k0 (by omega)
        have w4 : w32 (k + 1) = k + 1 := w32_id (by unfold mm_r32; omega)
        have e : mm_ev mX9_safeFromNew 3 2 [some (vR 0), some (vI m), some (vI k)] [] g = if g 11 53 = g 11 54 then some ([vI (-2)], g) else if m < gT g k then mm_ev mX9_safeFromNew 3 2 [some (vR 0), some (vI m), some (vI (k + 1))] [] g else some ([vI (-2)], g) := by
          rw [X9_safeFromNew_2, if_neg q0, c_alike, mm_be1]
          refine (X9_safeFromNew_20 _ _ _ _).trans ?_
          by_cases q1 : g 11 53 = g 11 54
          · rw [if_pos q1, if_pos (by decide), if_pos q1]
          · rw [if_neg q1, if_neg (fun w => w rfl), if_neg q1, c_hearing g k ⟨k0, by omega⟩ bp hn.1, mm_be1]
            refine (X9_safeFromNew_35 _ _ _ _).trans ?_
            rw [w4]
            rfl
        rw [e]
        by_cases q1 : g 11 53 = g 11 54
        · rw [if_pos q1]
          exact ⟨-2, rfl, Or.inr ⟨rfl, Or.inl q1⟩⟩
        · rw [if_neg q1]
          by_cases q2 : m < gT g k
          · rw [if_pos q2]
            refine ih (k + 1) (by omega) (by omega) (by omega) (fun _ => q1) (fun p p0 p1 => ?_)
            by_cases q3 : p = k
            · rw [q3]
              exact q2
            · exact A p p0 (by omega)
          · rw [if_neg q2]
            exact ⟨-2, rfl, Or.inr ⟨rfl, Or.inr ⟨k, k0, by omega, by omega⟩⟩⟩
  rw [X9_safeFromNew_c]
  exact st 7 0 (by omega) (by omega) (by omega) (fun w => by omega) (fun p p0 p1 => by omega)
/-- the greatest of 0 .. 999 by which something is; -2 -/
def mm_gst (Q : Int → Prop) (r : Int) : Prop := (r = -2 ∧ ∀ v : Int, 0 ≤ v → v ≤ 999 → ¬ Q v) ∨ (0 ≤ r ∧ r ≤ 999 ∧ Q r ∧ ∀ v : Int, r < v → v ≤ 999 → ¬ Q v)
theorem s_isSafe (f : mm_M) (a m : Int) (h1 : 0 ≤ a.tdiv 1000 ∧ a.tdiv 1000 < 7) (h3 : w32 (a.tdiv 1000) = a.tdiv 1000) (ho : mm_rok f) (hn : 0 ≤ f 47 1 ∧ f 47 1 ≤ 7) : ∃ b, mm_call mX10_isSafe [vR 47, vI a, vI m] f = some ([vI b], f) ∧ (b = 0 ∨ b = 1) ∧ (b = 1 ↔ ∀ p : Int, 0 ≤ p → p < f 47 1 → ¬ rLet (f 69 p) (f 47 10) (f 47 11) (f 47 13) m (oW (rBits (f 69 (a.tdiv 1000)) (f 47 10) (f 47 11) (f 47 13) (a.tmod 1000)) (f 47 10) (f 47 11))) := by
  rw [X10_isSafe_c, s_over f a h1 h3 ho, mm_be1]
  have e := fun v => X10_isSafe_5 f a m v
  generalize oW (rBits (f 69 (a.tdiv 1000)) (f 47 10) (f 47 11) (f 47 13) (a.tmod 1000)) (f 47 10) (f 47 11) = W
  have st : ∀ (c : Nat) (k : Int), 0 ≤ k → k ≤ f 47 1 → f 47 1 - k ≤ c → (∀ p : Int, 0 ≤ p → p < k → ¬ rLet (f 69 p) (f 47 10) (f 47 11) (f 47 13) m W) → ∃ b, mm_ev mX10_isSafe 4 9 [some (vR 47), some (vI a), some (vI m), some (vI W), some (vI k)] [] f = some ([vI b], f) ∧ (b = 0 ∨ b = 1) ∧ (b = 1 ↔ ∀ p : Int, 0 ≤ p → p < f 47 1 → ¬ rLet (f 69 p) (f 47 10) (f 47 11) (f 47 13) m W) := by
    intro c
    induction c with
    | zero =>
      intro k k0 k1 kc A
      refine ⟨1, ?_, Or.inr rfl, fun _ p p0 p1 => A p p0 (by omega), fun _ => rfl⟩
      rw [X10_isSafe_9, if_pos (by omega)]
    | succ c ih =>
      intro k k0 k1 kc A
      by_cases q0 : f 47 1 ≤ k
      · refine ⟨1, ?_, Or.inr rfl, fun _ p p0 p1 => A p p0 (by omega), fun _ => rfl⟩
        rw [X10_isSafe_9, if_pos q0]
      · have w4 : w32 (k + 1) = k + 1 := w32_id (by unfold mm_r32; omega)
        by_cases q1 : rLet (f 69 k) (f 47 10) (f 47 11) (f 47 13) m W
        · refine ⟨0, ?_, Or.inl rfl, fun w => absurd w (by decide), fun w => absurd q1 (w k k0 (by omega))⟩
          rw [X10_isSafe_9, if_neg q0, s_isLetIn f k m W ⟨k0, by omega⟩ ho, mm_be1]
          refine (X10_isSafe_26 _ _ _ _ _ _).trans ?_
          rw [if_pos q1, if_neg (by decide)]
        · obtain ⟨b, b1, b2⟩ := ih (k + 1) (by omega) (by omega) (by omega) (fun p p0 p1 => by
            by_cases q3 : p = k
            · rw [q3]
              exact q1
            · exact A p p0 (by omega))
          refine ⟨b, ?_, b2⟩
          rw [X10_isSafe_9, if_neg q0, s_isLetIn f k m W ⟨k0, by omega⟩ ho, mm_be1]
          refine (X10_isSafe_26 _ _ _ _ _ _).trans ?_
          rw [if_neg q1, if_pos rfl, w4]
          exact b1
  obtain ⟨b, b1, b2⟩ := st 7 0 (by omega) hn.1 (by omega) (fun p p0 p1 => by omega)
  exact ⟨b, (e W).trans b1, b2⟩
theorem s_safeL (f : mm_M) (s a m : Int) (Q : Int → Prop) (r : Int) (hr : mm_gst Q r) (hQ : ∀ x v, (∀ c i, ¬ (c = 47 ∧ i = 13) → x c i = f c i) → x 47 13 = v → 0 ≤ v → v ≤ 999 → ∃ b, mm_call mX10_isSafe [vR 47, vI a, vI m] x = some ([vI b], x) ∧ (b = 0 ∨ b = 1) ∧ (b = 1 ↔ Q v)) : mm_ev mX10_safe 6 61 [some (vR 47), some (vI s), some (vI a), some (vI m), some (vI 0), some (vI (f 47 13)), some (vI (-2)), some (vI 999)] [] f = some ([vI r], f) := by
  have fin : ∀ x : mm_M, (∀ c i, ¬ (c = 47 ∧ i = 13) → x c i = f c i) → mUp x 47 13 (f 47 13) = f := fun x hx => by
    funext c i
    rw [mUp_at]
    by_cases q : c = 47 ∧ i = 13
    · rw [if_pos q, q.1, q.2]
    · rw [if_neg q, hx c i q]
  have st : ∀ (n : Nat) (v : Int) (x : mm_M), (∀ c i, ¬ (c = 47 ∧ i = 13) → x c i = f c i) → -1 ≤ v → v ≤ 999 → v + 1 ≤ n → (r = -2 ∨ r ≤ v) → mm_ev mX10_safe 6 61 [some (vR 47), some (vI s), some (vI a), some (vI m), some (vI 0), some (vI (f 47 13)), some (vI (-2)), some (vI v)] [] x = some ([vI r], f) := by
    intro n
    induction n with
    | zero =>
      intro v x hx v0 v9 vm hv
      rw [X10_safe_61, if_pos (by omega), fin x hx]
      rcases hr with ⟨a, b⟩ | ⟨a, b, c, d⟩
      · rw [a]
      · omega
    | succ n ih =>
      intro v x hx v0 v9 vm hv
      by_cases q : v < 0
      · rw [X10_safe_61, if_pos q, fin x hx]
        rcases hr with ⟨a, b⟩ | ⟨a, b, c, d⟩
        · rw [a]
        · omega
      · have w4 : w32 (v + -1) = v - 1 := by
          rw [w32_id (by unfold mm_r32; omega)]
          omega
        have hx2 : ∀ c i, ¬ (c = 47 ∧ i = 13) → mUp x 47 13 v c i = f c i := fun c i z => by
          rw [mUp_at, if_neg z]
          exact hx c i z
        obtain ⟨b, b1, b2, b3⟩ := hQ (mUp x 47 13 v) v hx2 (mUp_self _ _ _ _) (by omega) (by omega)
        rw [X10_safe_61, if_neg q, if_neg (by decide), b1, mm_be1]
        refine (X10_safe_83 _ _ _ _ _ _ _ _ _).trans ?_
        rw [w4]
        by_cases q2 : b = 0
        · have nQ : ¬ Q v := fun w => by
            have := b3.2 w
            omega
          rw [if_pos q2]
          refine ih (v - 1) _ hx2 (by omega) (by omega) (by omega) ?_
          rcases hr with ⟨a, b⟩ | ⟨a, b, c, d⟩
          · exact Or.inl a
          · right
            by_cases z : v = r
            · rw [← z] at c
              exact absurd c nQ
            · omega
        · have Qv := b3.1 (by omega)
          have e : r = v := by
            rcases hr with ⟨a, b⟩ | ⟨a, b, c, d⟩
            · exact absurd Qv (b v (by omega) (by omega))
            · by_cases z : r < v
              · exact absurd Qv (d v z (by omega))
              · omega
          rw [if_neg q2, X10_safe_61]
          by_cases q3 : v - 1 < 0
          · rw [if_pos q3, fin _ hx2, e]
          · rw [if_neg q3, if_pos (by omega), fin _ hx2, e]
  exact st 1000 999 f (fun _ _ _ => rfl) (by omega) (by omega) (by omega) (by rcases hr with ⟨a, b⟩ | ⟨a, b, c, d⟩; exact Or.inl a; exact Or.inr b)
theorem p_safe (h : mm_M) (s a m : Int) (hI : mm_Inv h) (ha : mm_r32 a) : mm_Pr mX9_safe mX10_safe [vI s, vI a, vI m] h mm_Inv := by
  obtain ⟨n0, n7, n47, -⟩ := id hI.1
  have eC : mm_call mX9_safe [vR 0, vI s, vI a, vI m] h = if (0 ≤ a ∧ a.tdiv 1000 < h 1 1) ∧ 0 ≤ m ∧ m ≤ 999 then (mm_call mX9_layOut [vR 0, vI s] h).bind (fun w => mm_ev mX9_safe 6 26 [some (vR 0), some (vI s), some (vI a), some (vI m), none] (w.1 ++ []) w.2) else some ([vI (-1)], h) := by
    rw [X9_safe_c, c_isPM h a ha, mm_be1]
    refine (X9_safe_5 _ _ _ _ _).trans ?_
    by_cases q : 0 ≤ a ∧ a.tdiv 1000 < h 1 1
    · rw [if_pos q, if_neg (by decide)]
      by_cases q2 : m < 0
      · rw [if_pos q2, if_neg (by omega)]
      · rw [if_neg q2]
        by_cases q3 : m < 1000
        · rw [if_pos q3, if_pos ⟨q, by omega⟩]
        · rw [if_neg q3, if_neg (by omega)]
    · rw [if_neg q, if_pos rfl, if_neg (fun w => q w.1)]
  have eR : ∀ x : mm_M, x 47 1 = h 1 1 → mm_call mX10_safe [vR 47, vI s, vI a, vI m] x = if 0 ≤ s ∧ s < 6 then (if (0 ≤ a ∧ a.tdiv 1000 < h 1 1) ∧ 0 ≤ m ∧ m ≤ 999 then (mm_call mX10_layOr [vR 47, vI s] x).bind (fun w => mm_ev mX10_safe 6 36 [some (vR 47), some (vI s), some (vI a), some (vI m), none, none, none, none] (w.1 ++ []) w.2) else some ([vI (-1)], x)) else some ([vI (-1)], x) := by
    intro x e
    rw [X10_safe_c, s_shelf, mm_be1]
    refine (X10_safe_4 _ _ _ _ _).trans ?_
    by_cases hs : 0 ≤ s ∧ s < 6
    · rw [if_pos hs, if_neg (by decide), if_pos hs, s_arePost x a ha (by omega), mm_be1, e]
      refine (X10_safe_15 _ _ _ _ _).trans ?_
      by_cases q : 0 ≤ a ∧ a.tdiv 1000 < h 1 1
      · rw [if_pos q, if_neg (by decide), s_in, mm_be1]
        refine (X10_safe_26 _ _ _ _ _).trans ?_
        by_cases q2 : 0 ≤ m ∧ m ≤ 999
        · rw [if_pos q2, if_pos (by decide), if_pos ⟨q, q2⟩]
        · rw [if_neg q2, if_neg (fun w => w rfl), if_neg (fun w => q2 w.2)]
      · rw [if_neg q, if_pos rfl, if_neg (fun w => q w.1)]
    · rw [if_neg hs, if_pos rfl, if_neg hs]
  by_cases q : (0 ≤ a ∧ a.tdiv 1000 < h 1 1) ∧ 0 ≤ m ∧ m ≤ 999
  · rw [if_pos q] at eC
    obtain ⟨pm1, pm2, pm3⟩ := pm_b ha n7 q.1
    by_cases hz : kWhy h s 0 = 0
    · obtain ⟨hs, -⟩ := kWhy0 hz
      obtain ⟨g, a1, -, a3, a4, a5, a6, a7, a8⟩ := mm_ctx h s hI hz
      obtain ⟨f, b1, b2, b3, b4, b5, b6, b7, b8, b9⟩ := a8 g mm_Sm.rf
      have ag := AG_of b3 b5.1 b8 b9
      have e13 : f 47 13 = g 11 56 := by rw [(N11 b5.1).1, b8]
      have hr : ∃ r, mm_gst (fun v => ∀ p : Int, 0 ≤ p → p < g 1 1 → ¬ rLet (mm_tH (bh g p) (g 11 55)) (g 11 53) (g 11 54) v m (oW (rBits (mm_tH (bh g (a.tdiv 1000)) (g 11 55)) (g 11 53) (g 11 54) v (a.tmod 1000)) (g 11 53) (g 11 54))) r ∧ mm_ev mX9_safe 6 26 [some (vR 0), some (vI s), some (vI a), some (vI m), none] [vI 0] g = some ([vI r], g) := by
        rw [X9_safe_26, if_pos rfl, c_over g a pm1 pm2 pm3 a6 a7, mm_be1]
        have e41 := X9_safe_41 g s a m 0 (oW (rBits (mm_tH (bh g (a.tdiv 1000)) (g 11 55)) (g 11 53) (g 11 54) (g 11 56) (a.tmod 1000)) (g 11 53) (g 11 54))
        rw [c_new, mm_be1] at e41
        have e50 := e41.trans (X9_safe_50 _ _ _ _ _ _ _)
        have bq := a6 _ pm1.1 pm1.2
        have n1 := a7.1
        have n2 := a7.2.1
        have g0 : 0 < g 1 1 := by
          rw [a4 1 1 (by unfold mm_sc; omega)]
          omega
        have tq := tm_b bq n1
        have g7 := a7.2.2.1
        -- the word overheard does not hang on HOLDS
        have ow : ∀ v : Int, 0 ≤ v → v ≤ 999 → oW (rBits (mm_tH (bh g (a.tdiv 1000)) (g 11 55)) (g 11 53) (g 11 54) v (a.tmod 1000)) (g 11 53) (g 11 54) = if ¬ g 11 53 = g 11 54 ∧ (mm_tH (bh g (a.tdiv 1000)) (g 11 55) < 0 ∨ a.tmod 1000 < mm_tH (bh g (a.tdiv 1000)) (g 11 55)) then g 11 53 else g 11 54 := by
          intro v v0 v9
          unfold oW rBits
          generalize mm_tH (bh g (a.tdiv 1000)) (g 11 55) = t
          repeat' split
          all_goals omega
        have tc : ∀ p : Int, 0 ≤ p → p < g 1 1 → (mm_tH (bh g p) (g 11 55) < 0 ∧ gT g p = 1000000) ∨ (0 ≤ mm_tH (bh g p) (g 11 55) ∧ gT g p = mm_tH (bh g p) (g 11 55)) := fun p p0 p1 => by
          have bp := a6 p p0 (by omega)
          unfold gT mm_tH
          by_cases z : bh g p = 1000000
          · rw [if_pos z, show cT (bh g p) (g 11 55) = 1000000 from if_pos z]
            omega
          · rw [if_neg z, show cT (bh g p) (g 11 55) = g 11 55 + bh g p from if_neg z]
            omega
        by_cases z : ¬ g 11 53 = g 11 54 ∧ (mm_tH (bh g (a.tdiv 1000)) (g 11 55) < 0 ∨ a.tmod 1000 < mm_tH (bh g (a.tdiv 1000)) (g 11 55))
        · have o1 := ow (g 11 56) n2.1 n2.2
          rw [if_pos z] at o1
          rw [o1, if_pos z.1, c_sOld g m q.2 a6 a7, mm_be1] at e50
          have e66 := e50.trans (X9_safe_66 _ _ _ _ _ _)
          rw [o1]
          refine ⟨_, ?_, e66⟩
          have lb := mnN_b (gT g) m q.2 (g 1 1).toNat (fun p p0 p1 => gT_b (a6 p p0 (by omega)) a7)
          have QQ : ∀ v : Int, 0 ≤ v → v ≤ 999 → ((∀ p : Int, 0 ≤ p → p < g 1 1 → ¬ rLet (mm_tH (bh g p) (g 11 55)) (g 11 53) (g 11 54) v m (oW (rBits (mm_tH (bh g (a.tdiv 1000)) (g 11 55)) (g 11 53) (g 11 54) v (a.tmod 1000)) (g 11 53) (g 11 54))) ↔ v ≤ mnN (gT g) m (g 1 1).toNat) := by
            intro v v0 v9
            rw [ow v v0 v9, if_pos z, mnN_le]
            constructor
            · intro w
              refine ⟨v9, fun p p0 p1 => ?_⟩
              have := w p p0 (by omega)
              have := tc p p0 (by omega)
              have z1 := z.1
              omega
            · intro w p p0 p1
              have := w.2 p p0 (by omega)
              have := tc p p0 (by omega)
              have z1 := z.1
              omega
          by_cases y : 0 ≤ mnN (gT g) m (g 1 1).toNat
          · rw [if_pos y]
            refine Or.inr ⟨y, lb.2, (QQ _ y lb.2).2 (Int.le_refl _), fun v v0 v9 w => ?_⟩
            have := (QQ v (by omega) v9).1 w
            omega
          · rw [if_neg y]
            refine Or.inl ⟨rfl, fun v v0 v9 w => ?_⟩
            have := (QQ v v0 v9).1 w
            omega
        · have o1 := ow (g 11 56) n2.1 n2.2
          rw [if_neg z] at o1
          obtain ⟨r, r1, r2⟩ := c_sNew g m g0 a6 a7
          rw [o1, if_neg (fun w => w rfl), r1, mm_be1] at e50
          have e66 := (e50.trans (X9_safe_58 _ _ _ _ _ _)).trans (X9_safe_66 _ _ _ _ _ _)
          rw [o1]
          refine ⟨r, ?_, e66⟩
          rcases r2 with ⟨c1, c2, c3⟩ | ⟨c1, c2⟩
          · rw [c1]
            refine Or.inr ⟨by decide, by decide, fun p p0 p1 w => ?_, fun v v0 v9 w => by omega⟩
            rw [ow 999 (by decide) (by decide), if_neg z] at w
            have := c3 p p0 p1
            have := tc p p0 (by omega)
            omega
          · rw [c1]
            refine Or.inl ⟨rfl, fun v v0 v9 w => ?_⟩
            rcases c2 with c2 | ⟨p, p0, p1, p2⟩
            · have w := w 0 (by decide) g0
              rw [ow v v0 v9, if_neg z] at w
              have := tc 0 (by decide) g0
              omega
            · have w := w p p0 p1
              rw [ow v v0 v9, if_neg z] at w
              have := tc p p0 p1
              omega
      obtain ⟨r, r1, r2⟩ := hr
      rw [a1, mm_be1] at eC
      have eR := eR g (by rw [a4 47 1 (by unfold mm_sc; omega)]; exact n47)
      rw [if_pos hs, if_pos q, b1, mm_be1] at eR
      have eR := eR.trans (X10_safe_36 _ _ _ _ _)
      rw [if_pos (by decide)] at eR
      refine mm_Pr.of (eC.trans r2) (eR.trans (s_safeL f s a m _ r r1 (fun x v hx e v0 v9 => ?_))) b5
      obtain ⟨g1, g2, g3, g4, g5, g6⟩ := ag.up13 hx
      have n7' : 0 ≤ x 47 1 ∧ x 47 1 ≤ 7 := by
        rw [hx 47 1 (by omega)]
        exact b7.1
      obtain ⟨b, d1, d2, d3⟩ := s_isSafe x a m pm1 pm3 (b6.up13 hx v ⟨v0, v9⟩ e) n7'
      refine ⟨b, d1, d2, ?_⟩
      rw [d3, g1, g2, g3, e, g6 _ pm1.1 pm1.2]
      constructor
      · intro w p p0 p1
        have := w p p0 p1
        rw [g6 p p0 (by omega)] at this
        exact this
      · intro w p p0 p1
        rw [g6 p p0 (by omega)]
        exact w p p0 p1
    · rw [lay_bad h s hz, mm_be1] at eC
      have eC := eC.trans (X9_safe_26 _ _ _ _ _)
      rw [if_neg hz] at eC
      refine mm_Pr.of eC ?_ hI
      rw [eR h n47]
      by_cases hs : 0 ≤ s ∧ s < 6
      · have ng := kWhy_neg hz
        rw [if_pos hs, if_pos q, rlay_bad h s hI hs hz, mm_be1]
        exact (X10_safe_36 _ _ _ _ _).trans (if_neg (by omega))
      · rw [if_neg hs, kWhy_no hs]
  · rw [if_neg q] at eC
    refine mm_Pr.of eC ?_ hI
    rw [eR h n47, if_neg q]
    by_cases hs : 0 ≤ s ∧ s < 6
    · rw [if_pos hs]
    · rw [if_neg hs]
