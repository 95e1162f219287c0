/-! guess: the pair -/
def ggN : Nat → Int → Int → Int
  | 0, x, _ => x
  | m + 1, x, y => if y = 0 then x else ggN m y (x.tmod y)
def ggD : Nat → Int → Int → Bool
  | 0, _, y => y == 0
  | m + 1, x, y => if y = 0 then true else ggD m y (x.tmod y)
theorem gv_both : ∀ (m : Nat) (x y : Int), ggD m x y = true → (∀ (h : mm_M) (a0 a2 s : Int) (o : Option mm_V), 0 ≤ s → s + m + 1 ≤ 200 → mm_ev mX9_commonDivisor 1 9 [some (vL a0), none, some (vL a2), none, some (vL x), none, some (vL y), none, some (vI s), o, none] [] h = some ([vL (ggN m x y)], h)) ∧ ∀ (f : mm_M) (a0 a2 p : Int) (o : Option mm_V), ∃ o', mm_ev mX10_asPart 1 6 [some (vL a0), none, some (vL a2), none, some (vI p), some (vL x), none, some (vL y), none, o, none] [] f = mm_ev mX10_asPart 1 6 [some (vL a0), none, some (vL a2), none, some (vI p), some (vL (ggN m x y)), none, some (vL 0), none, o', none] [] f := by
  intro m
  induction m with
  | zero =>
    intro x y hd
    have y0 : y = 0 := by
      have : (y == 0) = true := hd
      simpa using this
    subst y0
    refine ⟨fun h a0 a2 s o s0 s1 => ?_, fun f a0 a2 p o => ⟨o, rfl⟩⟩
    rw [X9_commonDivisor_9, if_neg (by omega), if_pos (lCmp_z.2 rfl)]
    rfl
  | succ m ih =>
    intro x y hd
    have hd : (if y = 0 then true else ggD m y (x.tmod y)) = true := hd
    have hv : ggN (m + 1) x y = if y = 0 then x else ggN m y (x.tmod y) := rfl
    rw [hv]
    by_cases q : y = 0
    · subst q
      rw [if_pos rfl]
      refine ⟨fun h a0 a2 s o s0 s1 => ?_, fun f a0 a2 p o => ⟨o, rfl⟩⟩
      rw [X9_commonDivisor_9, if_neg (by omega), if_pos (lCmp_z.2 rfl)]
    · rw [if_neg q] at hd ⊢
      obtain ⟨A, B⟩ := ih y (x.tmod y) hd
      refine ⟨fun h a0 a2 s o s0 s1 => ?_, fun f a0 a2 p o => ?_⟩
      · have w4 : w32 (s + 1) = s + 1 := w32_id (by unfold mm_r32; omega)
        rw [X9_commonDivisor_9, if_neg (by omega), if_neg (fun w => q (lCmp_z.1 w)), if_neg q, w4]
        exact A h a0 a2 (s + 1) _ (by omega) (by omega)
      · obtain ⟨o', e⟩ := B f a0 a2 p (some (vL (x.tmod y)))
        refine ⟨o', ?_⟩
        rw [X10_asPart_6, if_neg (fun w => q (lCmp_z.1 w)), if_neg q]
        exact e
def ptV (u d p G : Int) : Int := if p = 0 then w64 (u.tdiv G) else w64 (d.tdiv G)
theorem c_partV (h : mm_M) (u d p : Int) (hd : ggD 60 u d = true) (G0 : 0 < ggN 60 u d) : mm_call mX9_partOf [vL u, vL d, vI p] h = some ([vL (ptV u d p (ggN 60 u d))], h) := by
  obtain ⟨A, B⟩ := gv_both 60 u d hd
  unfold ptV
  rw [X9_partOf_c, X9_commonDivisor_c, A h u d 0 none (by decide) (by decide), mm_be1, X9_partOf_5, if_pos (lCmp_p.2 G0)]
  by_cases q : p = 0
  · rw [if_neg (fun w => w q), if_neg (by omega), if_pos q]
  · rw [if_pos q, if_neg (by omega), if_neg q]
theorem s_partV (f : mm_M) (u d p : Int) (hd : ggD 60 u d = true) (G0 : 0 < ggN 60 u d) : mm_call mX10_asPart [vL u, vL d, vI p] f = some ([vL (ptV u d p (ggN 60 u d))], f) := by
  obtain ⟨A, B⟩ := gv_both 60 u d hd
  obtain ⟨o', e⟩ := B f u d p none
  unfold ptV
  rw [X10_asPart_c, e, X10_asPart_6, if_pos (lCmp_z.2 rfl)]
  by_cases q : p = 0
  · rw [if_neg (fun w => w q), if_neg (by omega), if_pos q]
  · rw [if_pos q, if_neg (by omega), if_neg q]
def chN (a n : Int) : Nat → Int → Int → Int
  | 0, v, _ => v
  | m + 1, v, i => if n ≤ i then v else chN a n m (w64 ((w64 (v * w32 (a - i))).tdiv (w32 (i + 1)))) (w32 (i + 1))
def chV (a n : Int) : Int := if n ≤ a then chN a n 11 1 0 else 0
theorem s_choose (f : mm_M) (a n : Int) (hn : 0 ≤ n ∧ n ≤ 10) : mm_call mX10_choose [vI a, vI n] f = some ([vL (chV a n)], f) := by
  have L : ∀ (m : Nat) (v i : Int), 0 ≤ i → n - i < m → mm_ev mX10_choose 1 12 [some (vI a), some (vI n), some (vL v), none, some (vI i)] [] f = some ([vL (chN a n m v i)], f) := by
    intro m
    induction m with
    | zero =>
      intro v i i0 im
      rw [X10_choose_12, if_pos (by omega)]
      rfl
    | succ m ih =>
      intro v i i0 im
      show _ = some ([vL (if n ≤ i then v else chN a n m (w64 ((w64 (v * w32 (a - i))).tdiv (w32 (i + 1)))) (w32 (i + 1)))], f)
      by_cases q : n ≤ i
      · rw [X10_choose_12, if_pos q, if_pos q]
      · have w4 : w32 (i + 1) = i + 1 := w32_id (by unfold mm_r32; omega)
        rw [X10_choose_12, if_neg q, if_neg q, if_neg (by omega), w4]
        exact ih _ (i + 1) (by omega) (by omega)
  rw [X10_choose_c]
  unfold chV
  by_cases q : n ≤ a
  · rw [if_pos q, if_pos q, L 11 1 0 (by decide) (by omega)]
  · rw [if_neg q, if_neg q]
/-- tries: one word is there to be found, or two -/
theorem guess_1 (n p : Int) (hn : 1 ≤ n ∧ n ≤ 10) : ggD 60 n 10 = true ∧ 0 < ggN 60 n 10 ∧ ggD 60 (w64 (chV 10 n - chV 9 n)) (chV 10 n) = true ∧ 0 < ggN 60 (w64 (chV 10 n - chV 9 n)) (chV 10 n) ∧ ptV n 10 p (ggN 60 n 10) = ptV (w64 (chV 10 n - chV 9 n)) (chV 10 n) p (ggN 60 (w64 (chV 10 n - chV 9 n)) (chV 10 n)) := by
  have : n = 1 ∨ n = 2 ∨ n = 3 ∨ n = 4 ∨ n = 5 ∨ n = 6 ∨ n = 7 ∨ n = 8 ∨ n = 9 ∨ n = 10 := by omega
  unfold ptV
  by_cases q : p = 0
  · rw [if_pos q, if_pos q]
    rcases this with rfl | rfl | rfl | rfl | rfl | rfl | rfl | rfl | rfl | rfl <;> decide +kernel
  · rw [if_neg q, if_neg q]
    rcases this with rfl | rfl | rfl | rfl | rfl | rfl | rfl | rfl | rfl | rfl <;> decide +kernel
theorem guess_2 (n p : Int) (hn : 1 ≤ n ∧ n ≤ 10) : ggD 60 (w32 (90 - w32 (w32 (10 - n) * w32 (9 - n)))) 90 = true ∧ 0 < ggN 60 (w32 (90 - w32 (w32 (10 - n) * w32 (9 - n)))) 90 ∧ ggD 60 (w64 (chV 10 n - chV 8 n)) (chV 10 n) = true ∧ 0 < ggN 60 (w64 (chV 10 n - chV 8 n)) (chV 10 n) ∧ ptV (w32 (90 - w32 (w32 (10 - n) * w32 (9 - n)))) 90 p (ggN 60 (w32 (90 - w32 (w32 (10 - n) * w32 (9 - n)))) 90) = ptV (w64 (chV 10 n - chV 8 n)) (chV 10 n) p (ggN 60 (w64 (chV 10 n - chV 8 n)) (chV 10 n)) := by
  have : n = 1 ∨ n = 2 ∨ n = 3 ∨ n = 4 ∨ n = 5 ∨ n = 6 ∨ n = 7 ∨ n = 8 ∨ n = 9 ∨ n = 10 := by omega
  unfold ptV
  by_cases q : p = 0
  · rw [if_pos q, if_pos q]
    rcases this with rfl | rfl | rfl | rfl | rfl | rfl | rfl | rfl | rfl | rfl <;> decide +kernel
  · rw [if_neg q, if_neg q]
    rcases this with rfl | rfl | rfl | rfl | rfl | rfl | rfl | rfl | rfl | rfl <;> decide +kernel
theorem p_guess (h : mm_M) (s a n pt : Int) (hI : mm_Inv h) (ha : mm_r32 a) : mm_Pr mX9_guess mX10_guess [vI s, vI a, vI n, vI pt] h mm_Inv := by
  obtain ⟨n0, n7, n47, -⟩ := id hI.1
  have eC : mm_call mX9_guess [vR 0, vI s, vI a, vI n, vI pt] h = if (0 ≤ a ∧ a.tdiv 1000 < h 1 1) ∧ (1 ≤ n ∧ n ≤ 10) ∧ 0 ≤ pt ∧ pt ≤ 1 then (mm_call mX9_layOut [vR 0, vI s] h).bind (fun z => mm_ev mX9_guess 6 32 [some (vR 0), some (vI s), some (vI a), some (vI n), some (vI pt), none, none] (z.1 ++ []) z.2) else some ([vL (-9223372036854775808)], h) := by
    rw [X9_guess_c, c_isPM h a ha, mm_be1, X9_guess_5]
    by_cases q1 : 0 ≤ a ∧ a.tdiv 1000 < h 1 1
    · rw [if_pos q1, if_neg (by decide)]
      by_cases q2 : n < 1
      · rw [if_pos q2, if_neg (by omega)]
      · rw [if_neg q2]
        by_cases q3 : 10 < n
        · rw [if_pos q3, if_neg (by omega)]
        · rw [if_neg q3, c_isPart, mm_be1, X9_guess_24]
          by_cases q4 : 0 ≤ pt ∧ pt ≤ 1
          · rw [if_pos q4, if_neg (by decide), if_pos ⟨q1, by omega, q4⟩]
          · rw [if_neg q4, if_pos rfl, if_neg (fun w => q4 w.2.2)]
    · rw [if_neg q1, if_pos rfl, if_neg (fun w => q1 w.1)]
  have eR : ∀ x : mm_M, x 47 1 = h 1 1 → mm_call mX10_guess [vR 47, vI s, vI a, vI n, vI pt] x = if (0 ≤ s ∧ s < 6) ∧ (0 ≤ a ∧ a.tdiv 1000 < h 1 1) ∧ (1 ≤ n ∧ n ≤ 10) ∧ 0 ≤ pt ∧ pt ≤ 1 then (mm_call mX10_layOr [vR 47, vI s] x).bind (fun z => mm_ev mX10_guess 6 41 [some (vR 47), some (vI s), some (vI a), some (vI n), some (vI pt), none, none] (z.1 ++ []) z.2) else some ([vL (-9223372036854775808)], x) := by
    intro x e
    rw [X10_guess_c, s_shelf, mm_be1, X10_guess_4]
    by_cases hs : 0 ≤ s ∧ s < 6
    · rw [if_pos hs, if_neg (by decide), s_arePost x a ha (by omega), mm_be1, e, X10_guess_15]
      by_cases q1 : 0 ≤ a ∧ a.tdiv 1000 < h 1 1
      · rw [if_pos q1, if_neg (by decide), s_in, mm_be1, X10_guess_25]
        by_cases q2 : 1 ≤ n ∧ n ≤ 10
        · rw [if_pos q2, if_neg (by decide), s_isPart, mm_be1, X10_guess_33]
          by_cases q3 : 0 ≤ pt ∧ pt ≤ 1
          · rw [if_pos q3, if_neg (by decide), if_pos ⟨hs, q1, q2, q3⟩]
          · rw [if_neg q3, if_pos rfl, if_neg (fun w => q3 w.2.2.2)]
        · rw [if_neg q2, if_pos rfl, if_neg (fun w => q2 w.2.2.1)]
      · rw [if_neg q1, if_pos rfl, if_neg (fun w => q1 w.2.1)]
    · rw [if_neg hs, if_pos rfl, if_neg (fun w => hs w.1)]
  by_cases q : (0 ≤ a ∧ a.tdiv 1000 < h 1 1) ∧ (1 ≤ n ∧ n ≤ 10) ∧ 0 ≤ pt ∧ pt ≤ 1
  · rw [if_pos q] at eC
    obtain ⟨pm1, pm2, pm3⟩ := pm_b ha n7 q.1
    by_cases hz : kWhy h s 0 = 0
    · obtain ⟨hs, -⟩ := kWhy0 hz
      obtain ⟨g, a1, -, a3, a4, a5, a6, a7, a8⟩ := mm_ctx h s hI hz
      obtain ⟨f, b1, b2, b3, b4, b5, b6, b7, b8, b9⟩ := a8 g mm_Sm.rf
      obtain ⟨g1, g2, g3, g4, g5, g6⟩ := AG_of b3 b5.1 b8 b9
      have bp := a6 (a.tdiv 1000) pm1.1 pm1.2
      rw [a1, mm_be1, X9_guess_32, if_pos rfl, pm3, c_lets g _ _ pm1 bp a7, mm_be1, bits_eq bp a7.1 (by omega) a7.2.1.1, X9_guess_60] at eC
      have eR := eR g (by rw [a4 47 1 (by unfold mm_sc; omega)]; exact n47)
      rw [if_pos ⟨hs, q⟩, b1, mm_be1, X10_guess_41, if_pos (by decide), pm3, s_bitsIn f _ _ pm1 b6, mm_be1, g6 _ pm1.1 pm1.2, g2, g3, (N11 b5.1).1, b8, X10_guess_62, g2, g3] at eR
      have b4' := rBits4 (mm_tH (bh g (a.tdiv 1000)) (g 11 55)) (g 11 53) (g 11 54) (g 11 56) (a.tmod 1000) a7.2.1.1
      generalize rBits (mm_tH (bh g (a.tdiv 1000)) (g 11 55)) (g 11 53) (g 11 54) (g 11 56) (a.tmod 1000) = B at eC eR b4'
      have ch := fun (x : mm_M) (y : Int) => s_choose x y n (by omega)
      have one : mm_ev mX9_guess 6 79 [some (vR 0), some (vI s), some (vI a), some (vI n), some (vI pt), none, none] [vI 0] g = some ([vL (ptV n 10 pt (ggN 60 n 10))], g) := by
        obtain ⟨k1, k2, -⟩ := guess_1 n pt q.2.1
        rw [X9_guess_79, if_pos rfl, c_partV g n 10 pt k1 k2, mm_be1, X9_guess_122]
      have oneR : mm_ev mX10_guess 6 85 [some (vR 47), some (vI s), some (vI a), some (vI n), some (vI pt), some (vI B), none] [] f = some ([vL (ptV n 10 pt (ggN 60 n 10))], f) := by
        obtain ⟨k1, k2, k3, k4, k5⟩ := guess_1 n pt q.2.1
        rw [X10_guess_85, if_pos (by omega), ch, mm_be1, X10_guess_103, show w32 (10 - 1) = 9 from by decide, ch, mm_be1, X10_guess_112, ch, mm_be1, X10_guess_119, s_partV f _ _ pt k3 k4, mm_be1, X10_guess_124, k5]
      by_cases qb : B = 3
      · rw [if_neg (fun w => w qb), c_alike, mm_be1, X9_guess_71] at eC
        rw [if_neg (fun w => w qb)] at eR
        by_cases qa : g 11 53 = g 11 54
        · rw [if_pos qa, if_pos (by decide), one] at eC
          rw [if_pos qa, oneR] at eR
          exact mm_Pr.of eC eR b5
        · obtain ⟨k1, k2, k3, k4, k5⟩ := guess_2 n pt q.2.1
          rw [if_neg qa, if_neg (fun w => w rfl), X9_guess_79, if_neg (by decide), c_partV g _ 90 pt k1 k2, mm_be1, X9_guess_111] at eC
          rw [if_neg qa, ch, mm_be1, X10_guess_103, show w32 (10 - 2) = 8 from by decide, ch, mm_be1, X10_guess_112, ch, mm_be1, X10_guess_119, s_partV f _ _ pt k3 k4, mm_be1, X10_guess_124, ← k5] at eR
          exact mm_Pr.of eC eR b5
      · rw [if_pos qb, one] at eC
        rw [if_pos qb, oneR] at eR
        exact mm_Pr.of eC eR b5
    · rw [lay_bad h s hz, mm_be1, X9_guess_32, if_neg hz] at eC
      refine mm_Pr.of eC ?_ hI
      rw [eR h n47]
      by_cases hs : 0 ≤ s ∧ s < 6
      · have ng := kWhy_neg hz
        rw [if_pos ⟨hs, q⟩, rlay_bad h s hI hs hz, mm_be1, X10_guess_41, if_neg (by omega)]
      · rw [if_neg (fun w => hs w.1)]
  · rw [if_neg q] at eC
    refine mm_Pr.of eC ?_ hI
    rw [eR h n47, if_neg (fun w => q w.2)]
