/-! the law: lines, and by how many of twelve a post mishears -/
theorem LN_a {c w x t e a A : Int → Int} {lm : Int} (z : mm_LN c w x t e a A lm) : ∀ k : Nat, (k : Int) ≤ lm → 0 ≤ a k ∧ ∀ j : Nat, (j : Int) ≤ k → a j ≤ a k := by
  intro k
  induction k with
  | zero =>
    intro _
    refine ⟨by rw [show ((0 : Nat) : Int) = 0 from rfl, z.1]; exact Int.le_refl _, fun j hj => ?_⟩
    have : j = 0 := by omega
    rw [this]
    exact Int.le_refl _
  | succ k ih =>
    intro hk
    obtain ⟨i1, i2⟩ := ih (by omega)
    obtain ⟨y1, y2, y3, y4, y5, y6, y7⟩ := z.2.2 k (by omega) (by omega)
    have s : a (k : Int) ≤ a ((k : Int) + 1) := by
      by_cases q : t (k : Int) = A (k : Int)
      · have := (y6 q).2.2
        omega
      · have := (y7 q).2.2.2.2
        omega
    rw [show ((k + 1 : Nat) : Int) = (k : Int) + 1 from by omega]
    refine ⟨by omega, fun j hj => ?_⟩
    by_cases q : j = k + 1
    · rw [q, show ((k + 1 : Nat) : Int) = (k : Int) + 1 from by omega]
      exact Int.le_refl _
    · have := i2 j (by omega)
      omega
/-- steps of a piece are none that end it -/
theorem c_skip (g : mm_M) (w p n : Int) (hc : g 2 6 = 16 ∨ g 2 6 = 17) : ∀ (m : Nat) (i : Int) (o : Option mm_V), 0 ≤ i → i + m < g 2 7 → i + m ≤ 120 → (∀ k : Int, 0 ≤ k → k < m → ¬ g (g 2 6).toNat (i + k) = -59) → g (g 2 6).toNat (i + m) = -59 → ∃ o', mm_ev mX3_workOut 3 11 [some (vR 2), some (vR 1), some (vI w), some (vI p), some (vI n), some (vI 1), some (vI i), o] [] g = mm_ev mX3_workOut 3 11 [some (vR 2), some (vR 1), some (vI w), some (vI p), some (vI n), some (vI 0), some (vI (i + m + 1)), o'] [] g := by
  have hk : mm_ak (g 2 6).toNat = 1 ∧ mm_an (g 2 6).toNat = 121 := by
    rcases hc with w | w
    · rw [w]
      exact ⟨rfl, rfl⟩
    · rw [w]
      exact ⟨rfl, rfl⟩
  intro m
  induction m with
  | zero =>
    intro i o i0 i7 i1 _ he
    have he : g (g 2 6).toNat i = -59 := by
      rw [show i + ((0 : Nat) : Int) = i from by omega] at he
      exact he
    have w4 : w32 (i + 1) = i + 1 := w32_id (by unfold mm_r32; omega)
    refine ⟨some (vI (-59)), ?_⟩
    rw [X3_workOut_11 _ _ _ _ _ _ _ hk.1 hk.2, he, if_neg (by omega), if_pos (by omega), if_neg (by decide), if_pos rfl, X3_workOut_134, w4, show i + ((0 : Nat) : Int) + 1 = i + 1 from by omega]
  | succ m ih =>
    intro i o i0 i7 i1 hn he
    have w4 : w32 (i + 1) = i + 1 := w32_id (by unfold mm_r32; omega)
    have h0 := hn 0 (by decide) (by omega)
    rw [show i + 0 = i from by omega] at h0
    obtain ⟨o', e⟩ := ih (i + 1) (some (vI (g (g 2 6).toNat i))) (by omega) (by omega) (by omega) (fun k k0 k1 => by
      have := hn (k + 1) (by omega) (by omega)
      rw [show i + (k + 1) = i + 1 + k from by omega] at this
      exact this) (by rw [show i + 1 + (m : Int) = i + ((m + 1 : Nat) : Int) from by omega]; exact he)
    refine ⟨o', ?_⟩
    rw [X3_workOut_11 _ _ _ _ _ _ _ hk.1 hk.2, if_neg (by omega), if_pos (by omega), if_neg (by decide), if_neg h0, X3_workOut_134, w4, e, show i + 1 + (m : Int) + 1 = i + ((m + 1 : Nat) : Int) + 1 from by omega]
theorem E_no {c w x : Int → Int} {a A n M : Int} (h : mm_E c a w x A n M) {k : Int} (k0 : 0 ≤ k) (k1 : k < n) : ¬ c (a + k) = -59 := (tr_w (h.1 k k0 k1)).2.1
theorem mm_kf.c {g g' : mm_M} (f : mm_kf g g') (hc : g 2 6 = 16 ∨ g 2 6 = 17) : g' 2 6 = g 2 6 ∧ g' (g' 2 6).toNat = g (g 2 6).toNat := by
  have h26 : g' 2 6 = g 2 6 := f 2 6 (by decide) (by omega)
  refine ⟨h26, ?_⟩
  rw [h26]
  funext i
  refine f _ _ ?_ ?_
  · rcases hc with q | q <;> rw [q] <;> decide
  · intro q
    rcases hc with q2 | q2 <;> rw [q2] at q <;> exact absurd q.1 (by decide)
theorem mm_kf.l {g g' : mm_M} {w p : Int} (f : mm_kf g g') (z : mm_lwk g w p) : mm_lwk g' w p := by
  have g11 : ∀ i, g' 11 i = g 11 i := fun i => f 11 i (by decide) (by omega)
  obtain ⟨y1, y2, y3, y4, y5⟩ := z
  exact ⟨y1, y2, by rw [g11]; exact y3, fun j j0 j1 => by rw [g11]; exact y4 j j0 j1, by rw [g11]; exact y5⟩
theorem mm_kf.v {g g' : mm_M} (f : mm_kf g g') (w p n : Int) : fcV g' w p n = fcV g w p n := by
  have g11 : ∀ i, g' 11 i = g 11 i := fun i => f 11 i (by decide) (by omega)
  funext j
  unfold fcV
  rw [g11, g11, g11, g11]
/-- the class works the law out -/
theorem c_workOut (g : mm_M) (w p n lm : Int) (ws xs t e a A : Int → Int) (hc : g 2 6 = 16 ∨ g 2 6 = 17) (g7 : g 2 7 ≤ 121) (z : mm_lwk g w p) (LN : mm_LN (g (g 2 6).toNat) ws xs t e a A lm) (l0 : 0 ≤ lm) (al : a lm = g 2 7) : ∃ g', mm_call mX3_workOut [vR 2, vR 1, vI w, vI p, vI n] g = some ([vI (lwN ws xs t e (fcV g w p n) lm.toNat 0 0)], g') ∧ mm_kf g g' := by
  have L : ∀ (m : Nat) (l : Int) (o : Option mm_V) (x : mm_M), 0 ≤ l → l ≤ lm → lm - l = m → mm_kf g x → x 2 9 = 0 → ∃ g', mm_ev mX3_workOut 3 11 [some (vR 2), some (vR 1), some (vI w), some (vI p), some (vI n), some (vI 0), some (vI (a l)), o] [] x = some ([vI (lwN ws xs t e (fcV g w p n) m l (A l))], g') ∧ mm_kf g g' := by
    intro m
    induction m with
    | zero =>
      intro l o x l0 l1 lm' hx hH
      have el : l = lm := by omega
      obtain ⟨h26, hcx⟩ := hx.c hc
      have hk : mm_ak (x 2 6).toNat = 1 ∧ mm_an (x 2 6).toNat = 121 := by
        rw [h26]
        rcases hc with w | w
        · rw [w]
          exact ⟨rfl, rfl⟩
        · rw [w]
          exact ⟨rfl, rfl⟩
      refine ⟨x, ?_, hx⟩
      rw [X3_workOut_11 _ _ _ _ _ _ _ hk.1 hk.2, hx 2 7 (by decide) (by omega), el, al, if_pos (Int.le_refl _)]
      rfl
    | succ m ih =>
      intro l o x l0 l1 lm' hx hH
      obtain ⟨h26, hcx⟩ := hx.c hc
      have hcx' : x 2 6 = 16 ∨ x 2 6 = 17 := by rw [h26]; exact hc
      have hk : mm_ak (x 2 6).toNat = 1 ∧ mm_an (x 2 6).toNat = 121 := by
        rw [h26]
        rcases hc with w | w
        · rw [w]
          exact ⟨rfl, rfl⟩
        · rw [w]
          exact ⟨rfl, rfl⟩
      obtain ⟨y1, y2, y3, y4, y5, y6, y7⟩ := LN.2.2 l l0 (by omega)
      have aa := LN_a LN (l + 1).toNat (by omega)
      have bb := (LN_a LN lm.toNat (by omega)).2 (l + 1).toNat (by omega)
      have a0 := (LN_a LN l.toNat (by omega)).1
      rw [show (l.toNat : Int) = l from by omega] at a0
      rw [show ((l + 1).toNat : Int) = l + 1 from by omega, show (lm.toNat : Int) = lm from by omega] at bb
      have x7 : x 2 7 = g 2 7 := hx 2 7 (by decide) (by omega)
      show ∃ g', mm_ev mX3_workOut 3 11 [some (vR 2), some (vR 1), some (vI w), some (vI p), some (vI n), some (vI 0), some (vI (a l)), o] [] x = some ([vI (if t l = A l ∨ ¬ vE ws xs (fcV g w p n) (A l) (t l) = 0 then vE ws xs (fcV g w p n) (t l) (e l) else lwN ws xs t e (fcV g w p n) m (l + 1) (e l))], g') ∧ mm_kf g g'
      by_cases q : t l = A l
      · obtain ⟨u1, u2, u3⟩ := y6 q
        obtain ⟨g1, o1, e1, f1, H1, S1⟩ := c_runE x w p n (a l) (A l) (e l - A l) ws xs o hcx' a0 (by omega) (by omega) hH (by rw [hcx]; exact u1) (hx.l z)
        obtain ⟨h26', hcx1⟩ := f1.c hcx'
        have hk1 : mm_ak (g1 2 6).toNat = 1 ∧ mm_an (g1 2 6).toNat = 121 := by rw [h26']; exact hk
        have cell : g1 (g1 2 6).toNat (a l + (e l - A l)) = -59 := by rw [hcx1, hcx]; exact u2
        rw [if_pos (Or.inl q)]
        refine ⟨mUp g1 2 9 0, ?_, (hx.tr f1).tr (fun c i q1 q2 => by rw [mUp_at, if_neg q2])⟩
        · rw [e1, X3_workOut_11 _ _ _ _ _ _ _ hk1.1 hk1.2, cell, f1 2 7 (by decide) (by omega), if_neg (by omega), if_pos (by omega), if_pos rfl, if_neg (by decide), c_pop g1 1 H1 (by decide), mm_be1, X3_workOut_62, show (1 : Int) - 1 = 0 from rfl, S1, hx.v, q, show A l + (e l - A l) = e l from by omega]
      · obtain ⟨u1, u2, u3, u4, u5⟩ := y7 q
        obtain ⟨g1, o1, e1, f1, H1, S1⟩ := c_runE x w p n (a l) (A l) (t l - A l) ws xs o hcx' a0 (by omega) (by omega) hH (by rw [hcx]; exact u1) (hx.l z)
        obtain ⟨h26', hcx1⟩ := f1.c hcx'
        have hk1 : mm_ak (g1 2 6).toNat = 1 ∧ mm_an (g1 2 6).toNat = 121 := by rw [h26']; exact hk
        have cell : g1 (g1 2 6).toNat (a l + (t l - A l)) = -63 := by rw [hcx1, hcx]; exact u2
        have f2 : mm_kf x (mUp g1 2 9 0) := f1.tr (fun c i q1 q2 => by rw [mUp_at, if_neg q2])
        obtain ⟨h262, hcx2⟩ := f2.c hcx'
        have w4 : w32 (a l + (t l - A l) + 1) = a l + (t l - A l) + 1 := w32_id (by unfold mm_r32; omega)
        have E2 : mm_ev mX3_workOut 3 11 [some (vR 2), some (vR 1), some (vI w), some (vI p), some (vI n), some (vI 0), some (vI (a l)), o] [] x = mm_ev mX3_workOut 3 11 [some (vR 2), some (vR 1), some (vI w), some (vI p), some (vI n), some (vI (if vE ws xs (fcV g w p n) (A l) (t l) = 0 then 1 else 0)), some (vI (a l + (t l - A l) + 1)), some (vI (-63))] [] (mUp g1 2 9 0) := by
          rw [e1, X3_workOut_11 _ _ _ _ _ _ _ hk1.1 hk1.2, cell, f1 2 7 (by decide) (by omega), if_neg (by omega), if_pos (by omega), if_pos rfl, if_pos (by decide), if_neg (by decide), c_pop g1 1 H1 (by decide), mm_be1, X3_workOut_74, show (1 : Int) - 1 = 0 from rfl, S1, hx.v, show A l + (t l - A l) = t l from by omega]
          by_cases v : vE ws xs (fcV g w p n) (A l) (t l) = 0
          · rw [if_neg (fun w => w v), if_pos v, X3_workOut_134, w4]
          · rw [if_pos v, if_neg v, X3_workOut_134, w4]
        rw [E2]
        by_cases v : vE ws xs (fcV g w p n) (A l) (t l) = 0
        · rw [if_pos v, if_neg (fun w => w.elim q (fun w2 => w2 v))]
          have le : ((e l - t l).toNat : Int) = e l - t l := by omega
          obtain ⟨o2, e2⟩ := c_skip (mUp g1 2 9 0) w p n (by rw [h262]; exact hcx') (e l - t l).toNat (a l + (t l - A l) + 1) (some (vI (-63))) (by omega) (by rw [f2 2 7 (by decide) (by omega)]; omega) (by omega) (fun k k0 k1 => by
            rw [hcx2, hcx]
            exact E_no u3 k0 (by omega)) (by
            rw [hcx2, hcx, show a l + (t l - A l) + 1 + ((e l - t l).toNat : Int) = a l + (e l - A l) + 1 from by omega]
            exact u4)
          rw [e2, show a l + (t l - A l) + 1 + ((e l - t l).toNat : Int) + 1 = a (l + 1) from by omega, ← y5]
          exact ih (l + 1) o2 _ (by omega) (by omega) (by omega) (hx.tr f2) (mUp_self _ _ _ _)
        · rw [if_neg v, if_pos (Or.inr v)]
          obtain ⟨g3, o3, e3, f3, H3, S3⟩ := c_runE (mUp g1 2 9 0) w p n (a l + (t l - A l) + 1) (t l) (e l - t l) ws xs (some (vI (-63))) (by rw [h262]; exact hcx') (by omega) (by omega) (by rw [f2 2 7 (by decide) (by omega)]; omega) (mUp_self _ _ _ _) (by rw [hcx2, hcx]; exact u3) ((hx.tr f2).l z)
          have hc3 : (mUp g1 2 9 0) 2 6 = 16 ∨ (mUp g1 2 9 0) 2 6 = 17 := by rw [h262]; exact hcx'
          obtain ⟨h263, hcx3⟩ := f3.c hc3
          have hk3 : mm_ak (g3 2 6).toNat = 1 ∧ mm_an (g3 2 6).toNat = 121 := by rw [h263, h262]; exact hk
          have cell3 : g3 (g3 2 6).toNat (a l + (t l - A l) + 1 + (e l - t l)) = -59 := by
            rw [hcx3, hcx2, hcx, show a l + (t l - A l) + 1 + (e l - t l) = a l + (e l - A l) + 1 from by omega]
            exact u4
          refine ⟨mUp g3 2 9 0, ?_, ((hx.tr f2).tr f3).tr (fun c i q1 q2 => by rw [mUp_at, if_neg q2])⟩
          rw [e3, X3_workOut_11 _ _ _ _ _ _ _ hk3.1 hk3.2, cell3, f3 2 7 (by decide) (by omega), f2 2 7 (by decide) (by omega), if_neg (by omega), if_pos (by omega), if_pos rfl, if_neg (by decide), c_pop g3 1 H3 (by decide), mm_be1, X3_workOut_62, show (1 : Int) - 1 = 0 from rfl, S3, (hx.tr f2).v, show t l + (e l - t l) = e l from by omega]
  obtain ⟨g', e1, f1⟩ := L lm.toNat 0 none (mUp g 2 9 0) (by omega) l0 (by omega) (fun c i q1 q2 => by rw [mUp_at, if_neg q2]) (mUp_self _ _ _ _)
  rw [LN.1, LN.2.1] at e1
  refine ⟨g', ?_, f1⟩
  rw [X3_workOut_c]
  exact e1
/-- the reference works the law out -/
theorem s_gives (f : mm_M) (lm : Int) (V a A c : Int → Int) (hV : ∀ j : Int, 0 ≤ j → j < 6 → f 66 j = V j) (h63 : f 63 0 = lm) (LN : mm_LN c (f 61) (f 62) (f 64) (f 65) a A lm) (l0 : 0 ≤ lm) (l61 : lm ≤ 61) : ∃ f', mm_call mX10_gives [vR 47, vI 0] f = some ([vI (lwN (f 61) (f 62) (f 64) (f 65) V lm.toNat 0 0)], f') ∧ mm_jf f f' := by
  have w1 : w32 (61 * 0) = 0 := rfl
  have w2 : w32 (0 + lm) = lm := by rw [w32_id (by unfold mm_r32; omega)]; omega
  have twx : ∀ (s A n : Int), mm_E c s (f 61) (f 62) A n 64 → ∀ k : Int, A ≤ k → k < A + n → (f 61 k = 1 ∨ f 61 k = 2 ∨ f 61 k = 3 ∨ f 61 k = 4 ∨ mm_bin (f 61 k)) ∧ (f 61 k = 2 → 0 ≤ f 62 k ∧ f 62 k < 6) := fun s A n hE k k0 k1 => by
    have t := hE.1 (k - A) (by omega) (by omega)
    rw [show A + (k - A) = k from by omega] at t
    refine ⟨(tr_w t).1, fun w => ?_⟩
    unfold mm_tr mm_bin at t
    omega
  have L : ∀ (m : Nat) (l : Int) (x : mm_M), 0 ≤ l → l ≤ lm → lm - l = m → mm_jf f x → ∃ f', mm_ev mX10_gives 3 7 [some (vR 47), some (vI 0), some (vI (A l)), some (vI l)] [] x = some ([vI (lwN (f 61) (f 62) (f 64) (f 65) V m l (A l))], f') ∧ mm_jf f f' := by
    intro m
    induction m with
    | zero =>
      intro l x l0 l1 lm' hx
      refine ⟨x, ?_, hx⟩
      rw [X10_gives_7, if_pos (by decide), w1, hx 63 0 (by decide), h63, w2, if_pos (by omega)]
      rfl
    | succ m ih =>
      intro l x l0 l1 lm' hx
      obtain ⟨y1, y2, y3, y4, y5, y6, y7⟩ := LN.2.2 l l0 (by omega)
      have w4 : w32 (l + 1) = l + 1 := w32_id (by unfold mm_r32; omega)
      have l122 : 0 ≤ l ∧ l < 122 := by omega
      have x64 : ∀ i, x 64 i = f 64 i := fun i => hx 64 i (by decide)
      have x65 : ∀ i, x 65 i = f 65 i := fun i => hx 65 i (by decide)
      have fin : ∀ (s : Int) (x' : mm_M), mm_jf f x' → mm_E c s (f 61) (f 62) (f 64 l) (f 65 l - f 64 l) 64 → ∃ f', mm_ev mX10_gives 3 47 [some (vR 47), some (vI 0), some (vI (A l)), some (vI l)] [] x' = some ([vI (vE (f 61) (f 62) V (f 64 l) (f 65 l))], f') ∧ mm_jf f f' := by
        intro s x' hx' hE
        obtain ⟨f1, e1, j1⟩ := s_runE x' (f 64 l) (f 65 l) V (fun j j0 j6 => by rw [hx' 66 j (by decide)]; exact hV j j0 j6) (by omega) y4 (f 61) (f 62) (fun k _ _ => ⟨hx' 61 k (by decide), hx' 62 k (by decide)⟩) hE.2 (fun k k0 k1 => twx s (f 64 l) (f 65 l - f 64 l) hE k k0 (by omega))
        refine ⟨f1, ?_, fun c i q => (j1 c i q).trans (hx' c i q)⟩
        rw [X10_gives_47, if_pos l122, if_pos l122, hx' 64 l (by decide), hx' 65 l (by decide), e1, mm_be1, X10_gives_64]
      show ∃ f', mm_ev mX10_gives 3 7 [some (vR 47), some (vI 0), some (vI (A l)), some (vI l)] [] x = some ([vI (if f 64 l = A l ∨ ¬ vE (f 61) (f 62) V (A l) (f 64 l) = 0 then vE (f 61) (f 62) V (f 64 l) (f 65 l) else lwN (f 61) (f 62) (f 64) (f 65) V m (l + 1) (f 65 l))], f') ∧ mm_jf f f'
      rw [X10_gives_7, if_pos (by decide), w1, hx 63 0 (by decide), h63, w2, if_neg (by omega), if_pos l122, x64]
      by_cases q : f 64 l = A l
      · obtain ⟨u1, u2, u3⟩ := y6 q
        rw [if_pos q, if_pos (Or.inl q)]
        exact fin (a l) x hx (by rw [q]; exact u1)
      · obtain ⟨u1, u2, u3, u4, u5⟩ := y7 q
        obtain ⟨f1, e1, j1⟩ := s_runE x (A l) (f 64 l) V (fun j j0 j6 => by rw [hx 66 j (by decide)]; exact hV j j0 j6) y1 (by omega) (f 61) (f 62) (fun k _ _ => ⟨hx 61 k (by decide), hx 62 k (by decide)⟩) u1.2 (fun k k0 k1 => twx (a l) (A l) (f 64 l - A l) u1 k k0 (by omega))
        have hx1 : mm_jf f f1 := fun c i q => (j1 c i q).trans (hx c i q)
        rw [if_neg q, if_pos l122, e1, mm_be1, X10_gives_44]
        by_cases v : vE (f 61) (f 62) V (A l) (f 64 l) = 0
        · rw [if_pos v, if_pos l122, if_neg (fun w => w.elim q (fun w2 => w2 v)), w4, hx1 65 l (by decide), ← y5]
          exact ih (l + 1) f1 (by omega) (by omega) (by omega) hx1
        · rw [if_neg v, if_pos (Or.inr v)]
          exact fin _ f1 hx1 u3
  obtain ⟨f', e1, j1⟩ := L lm.toNat 0 f (by omega) l0 (by omega) (fun _ _ _ => rfl)
  rw [LN.2.1] at e1
  refine ⟨f', ?_, j1⟩
  rw [X10_gives_c, w1]
  exact e1
