/-! the law: a piece of code is run -/
/-- only the pile differs -/
def mm_jf (f f' : mm_M) : Prop := ∀ c i, c ≠ 67 → f' c i = f c i
theorem s_wstep (f : mm_M) (a A e n k : Int) (o : Option mm_V) (V : Int → Int) (hV : ∀ j : Int, 0 ≤ j → j < 6 → f 66 j = V j) (k0 : 0 ≤ k ∧ k < 130) (ke : k < e) (hA : a = 0) (e1 : e ≤ 120) (tw : f 61 k = 1 ∨ f 61 k = 2 ∨ f 61 k = 3 ∨ f 61 k = 4 ∨ mm_bin (f 61 k)) (hx : f 61 k = 2 → 0 ≤ f 62 k ∧ f 62 k < 6) (h1 : mm_nd (f 61 k) ≤ n) (h3 : 0 ≤ n ∧ n ≤ 64) : ∃ f' o', mm_ev mX10_worked 2 12 [some (vR 47), some (vI a), some (vI A), some (vI e), some (vI n), some (vI k), o] [] f = mm_ev mX10_worked 2 12 [some (vR 47), some (vI a), some (vI A), some (vI e), some (vI (n + 1 - mm_nd (f 61 k))), some (vI (k + 1)), o'] [] f' ∧ mm_jf f f' ∧ ∀ j, f' 67 j = if j = n - mm_nd (f 61 k) then ntop (f 61 k) (f 62 k) V (f 67) n else f 67 j := by
  subst hA
  have w1 : w32 (130 * 0) = 0 := rfl
  have w2 : w32 (0 + e) = e := by rw [w32_id (by unfold mm_r32; omega)]; omega
  have w4 : w32 (k + 1) = k + 1 := w32_id (by unfold mm_r32; omega)
  have w5 : w32 (n + 1) = n + 1 := w32_id (by unfold mm_r32; omega)
  have w6 : w32 (n - 1) = n - 1 := w32_id (by unfold mm_r32; omega)
  have w7 : w32 (n + -1) = n - 1 := by rw [w32_id (by unfold mm_r32; omega)]; omega
  have w8 : w32 (n - 1 - 1) = n - 2 := by rw [w32_id (by unfold mm_r32; omega)]; omega
  rw [X10_worked_12, w1, w2, if_neg (by omega), if_pos (by omega)]
  have up : ∀ (q v : Int), q = n - mm_nd (f 61 k) → v = ntop (f 61 k) (f 62 k) V (f 67) n → mm_jf f (mUp f 67 q v) ∧ ∀ j, (mUp f 67 q v) 67 j = if j = n - mm_nd (f 61 k) then ntop (f 61 k) (f 62 k) V (f 67) n else f 67 j := by
    intro q v hq hv
    refine ⟨fun c i q1 => by rw [mUp_ne q1], fun j => ?_⟩
    rw [← hq, ← hv]
    by_cases z : j = q
    · rw [z, mUp_self, if_pos rfl]
    · rw [mUp_nei z, if_neg z]
  rcases tw with h | h | h | h | hb
  · have nd : mm_nd (f 61 k) = 0 := by rw [h]; rfl
    obtain ⟨a1, a2⟩ := up n (f 62 k) (by rw [nd]; omega) (by rw [h]; rfl)
    refine ⟨mUp f 67 n (f 62 k), some (vI (f 61 k)), ?_, a1, a2⟩
    rw [if_pos h, X10_worked_45, if_neg (fun w => w h), if_pos (by omega), if_pos (by omega), w4, w5, nd, show n + 1 - 0 = n + 1 from by omega]
  · have nd : mm_nd (f 61 k) = 0 := by rw [h]; rfl
    obtain ⟨x0, x1⟩ := hx h
    obtain ⟨a1, a2⟩ := up n (f 66 (f 62 k)) (by rw [nd]; omega) (by rw [h, hV _ x0 x1]; rfl)
    refine ⟨mUp f 67 n (f 66 (f 62 k)), some (vI (f 61 k)), ?_, a1, a2⟩
    rw [if_neg (by omega), if_neg (fun w => w h), X10_worked_45, if_pos (by omega), if_pos (by omega), if_pos (by omega), if_pos (by omega), w4, w5, nd, show n + 1 - 0 = n + 1 from by omega]
  · have nd : mm_nd (f 61 k) = 1 := by rw [h]; rfl
    rw [nd] at h1
    by_cases q : f 67 (n - 1) = 0
    · obtain ⟨a1, a2⟩ := up (n - 1) 1 (by rw [nd]) (by rw [h]; show _ = if f 67 (n - 1) = 0 then 1 else 0; rw [if_pos q])
      refine ⟨mUp f 67 (n - 1) 1, some (vI (f 61 k)), ?_, a1, a2⟩
      rw [if_neg (by omega), if_pos (by omega), if_neg (fun w => w h), w6, if_pos (by omega), if_neg (fun w => w q), if_pos (by omega), w4, nd, show n + 1 - 1 = n from by omega]
    · obtain ⟨a1, a2⟩ := up (n - 1) 0 (by rw [nd]) (by rw [h]; show _ = if f 67 (n - 1) = 0 then 1 else 0; rw [if_neg q])
      refine ⟨mUp f 67 (n - 1) 0, some (vI (f 61 k)), ?_, a1, a2⟩
      rw [if_neg (by omega), if_pos (by omega), if_neg (fun w => w h), w6, if_pos (by omega), if_pos q, if_pos (by omega), w4, nd, show n + 1 - 1 = n from by omega]
  · have nd : mm_nd (f 61 k) = 1 := by rw [h]; rfl
    rw [nd] at h1
    obtain ⟨a1, a2⟩ := up (n - 1) (w32 (-(f 67 (n - 1)))) (by rw [nd]) (by rw [h]; rfl)
    refine ⟨mUp f 67 (n - 1) (w32 (-(f 67 (n - 1)))), some (vI (f 61 k)), ?_, a1, a2⟩
    rw [if_neg (by omega), if_pos (by omega), if_pos (by omega), if_neg (fun w => w h), w6, if_pos (by omega), if_pos (by omega), w4, nd, show n + 1 - 1 = n from by omega]
  · have nd : mm_nd (f 61 k) = 2 := by
      unfold mm_nd
      unfold mm_bin at hb
      rw [if_neg (by omega), if_neg (by omega)]
    have nt : ntop (f 61 k) (f 62 k) V (f 67) n = jn (f 61 k) (f 67 (n - 2)) (f 67 (n - 1)) := by
      unfold ntop
      unfold mm_bin at hb
      rw [if_neg (by omega), if_neg (by omega), if_neg (by omega), if_neg (by omega)]
    rw [nd] at h1
    obtain ⟨a1, a2⟩ := up (n - 2) (jn (f 61 k) (f 67 (n - 2)) (f 67 (n - 1))) (by rw [nd]) nt.symm
    refine ⟨mUp f 67 (n - 2) (jn (f 61 k) (f 67 (n - 2)) (f 67 (n - 1))), some (vI (f 61 k)), ?_, a1, a2⟩
    have b := hb
    unfold mm_bin at b
    rw [if_neg (by omega), if_pos (by omega), if_pos (by omega), if_pos (by omega), w7, w8, if_pos (by omega), if_pos (by omega), s_twoOf f _ _ _ hb, mm_be1, X10_worked_181, if_pos (by omega), w4, nd, show n + 1 - 2 = n - 1 from by omega]
theorem nd_b (w : Int) : 0 ≤ mm_nd w ∧ mm_nd w ≤ 2 := by
  unfold mm_nd
  repeat' split
  all_goals omega
theorem ht_b {w : Int → Int} {A n M : Int} (z : mm_wl w A n M) (M64 : M ≤ 64) : ∀ k : Nat, (k : Int) ≤ n → 0 ≤ mm_ht w A k ∧ mm_ht w A k ≤ 64 := by
  intro k
  induction k with
  | zero => intro _; exact ⟨Int.le_refl _, by show (0 : Int) ≤ 64; decide⟩
  | succ k ih =>
    intro hk
    have a := z.2.2 k (by omega)
    have n0 : mm_nd (w (A + (k : Int))) ≤ 2 := by
      unfold mm_nd
      repeat' split
      all_goals omega
    refine ⟨?_, by omega⟩
    show 0 ≤ mm_ht w A k + 1 - mm_nd (w (A + (k : Int)))
    omega
theorem ntop_co {w x H : Int} {V V' S S' : Int → Int} (h1 : mm_nd w ≤ H) (hV : w = 2 → V x = V' x) (hw : w = 1 ∨ w = 2 ∨ w = 3 ∨ w = 4 ∨ mm_bin w) (hS : ∀ i : Int, 0 ≤ i → i < H → S i = S' i) : ntop w x V S H = ntop w x V' S' H := by
  rcases hw with h | h | h | h | hb
  · rw [h]; rfl
  · rw [h]; exact hV h
  · have nd : mm_nd w = 1 := by rw [h]; rfl
    rw [h]
    show (if S (H - 1) = 0 then (1 : Int) else 0) = if S' (H - 1) = 0 then 1 else 0
    rw [hS (H - 1) (by omega) (by omega)]
  · have nd : mm_nd w = 1 := by rw [h]; rfl
    rw [h]
    show w32 (-(S (H - 1))) = w32 (-(S' (H - 1)))
    rw [hS (H - 1) (by omega) (by omega)]
  · have nd : mm_nd w = 2 := by
      unfold mm_nd
      unfold mm_bin at hb
      rw [if_neg (by omega), if_neg (by omega)]
    unfold ntop
    unfold mm_bin at hb
    rw [if_neg (by omega), if_neg (by omega), if_neg (by omega), if_neg (by omega), if_neg (by omega), if_neg (by omega), if_neg (by omega), if_neg (by omega), hS (H - 1) (by omega) (by omega), hS (H - 2) (by omega) (by omega)]
/-- the class runs a piece of code from an empty stack: its value lies on it -/
theorem c_runE (g : mm_M) (w p n a A m : Int) (ws xs : Int → Int) (o : Option mm_V) (hc : g 2 6 = 16 ∨ g 2 6 = 17) (a0 : 0 ≤ a) (am : a + m ≤ 120) (a7 : a + m < g 2 7) (hH : g 2 9 = 0) (hE : mm_E (g (g 2 6).toNat) a ws xs A m 64) (z : mm_lwk g w p) : ∃ g' o', mm_ev mX3_workOut 3 11 [some (vR 2), some (vR 1), some (vI w), some (vI p), some (vI n), some (vI 0), some (vI a), o] [] g = mm_ev mX3_workOut 3 11 [some (vR 2), some (vR 1), some (vI w), some (vI p), some (vI n), some (vI 0), some (vI (a + m)), o'] [] g' ∧ mm_kf g g' ∧ g' 2 9 = 1 ∧ g' 18 0 = vE ws xs (fcV g w p n) A (A + m) := by
  obtain ⟨tr, wl⟩ := hE
  have hb := ht_b wl (Int.le_refl _)
  have L : ∀ k : Nat, (k : Int) ≤ m → ∃ g' o', mm_ev mX3_workOut 3 11 [some (vR 2), some (vR 1), some (vI w), some (vI p), some (vI n), some (vI 0), some (vI a), o] [] g = mm_ev mX3_workOut 3 11 [some (vR 2), some (vR 1), some (vI w), some (vI p), some (vI n), some (vI 0), some (vI (a + k)), o'] [] g' ∧ mm_kf g g' ∧ g' 2 9 = mm_ht ws A k ∧ ∀ i : Int, 0 ≤ i → i < mm_ht ws A k → g' 18 i = stN ws xs (fcV g w p n) A k i := by
    intro k
    induction k with
    | zero =>
      intro _
      refine ⟨g, o, ?_, mm_kf.rf, hH, fun i i0 i1 => ?_⟩
      · rw [show a + ((0 : Nat) : Int) = a from by omega]
      · have i1 : i < 0 := i1
        omega
    | succ k ih =>
      intro hk
      obtain ⟨g1, o1, e1, f1, H1, S1⟩ := ih (by omega)
      have t := tr (k : Int) (by omega) (by omega)
      obtain ⟨tw, -, -⟩ := tr_w t
      have wk := wl.2.2 k (by omega)
      have hk1 := hb k (by omega)
      have hk2 := hb (k + 1) (by omega)
      have h26 : g1 2 6 = g 2 6 := f1 2 6 (by decide) (by omega)
      have nd2 : mm_ht ws A (k + 1) = mm_ht ws A k + 1 - mm_nd (ws (A + (k : Int))) := rfl
      have hcell : g1 (g1 2 6).toNat (a + k) = g (g 2 6).toNat (a + k) := by
        rw [h26]
        refine f1 _ _ ?_ ?_
        · rcases hc with q | q <;> rw [q] <;> decide
        · intro q
          rcases hc with q2 | q2 <;> rw [q2] at q <;> exact absurd q.1 (by decide)
      have g11 : ∀ i, g1 11 i = g 11 i := fun i => f1 11 i (by decide) (by omega)
      have z1 : mm_lwk g1 w p := by
        obtain ⟨y1, y2, y3, y4, y5⟩ := z
        exact ⟨y1, y2, by rw [g11]; exact y3, fun j j0 j1 => by rw [g11]; exact y4 j j0 j1, by rw [g11]; exact y5⟩
      have fc : fcV g1 w p n = fcV g w p n := by
        funext j
        unfold fcV
        rw [g11, g11, g11, g11]
      obtain ⟨g2, o2, e2, f2, H2, S2⟩ := c_wstep g1 w p n (a + k) (mm_ht ws A k) (g (g 2 6).toNat (a + k)) (ws (A + (k : Int))) (xs (A + (k : Int))) o1 (by rw [h26]; exact hc) hcell (by omega) (by rw [f1 2 7 (by decide) (by omega)]; omega) H1 t wk.1 (by omega) hk1 z1
      refine ⟨g2, o2, ?_, f1.tr f2, H2, fun i i0 i1 => ?_⟩
      · rw [e1, e2, show a + ((k + 1 : Nat) : Int) = a + (k : Int) + 1 from by omega]
      · rw [S2 i, fc]
        show _ = if i = mm_ht ws A k - mm_nd (ws (A + (k : Int))) then ntop (ws (A + (k : Int))) (xs (A + (k : Int))) (fcV g w p n) (stN ws xs (fcV g w p n) A k) (mm_ht ws A k) else stN ws xs (fcV g w p n) A k i
        by_cases q : i = mm_ht ws A k - mm_nd (ws (A + (k : Int)))
        · rw [if_pos q, if_pos q]
          exact ntop_co wk.1 (fun _ => rfl) tw S1
        · rw [if_neg q, if_neg q]
          have n0 := nd_b (ws (A + (k : Int)))
          exact S1 i i0 (by omega)
  obtain ⟨g', o', e1, f1, H1, S1⟩ := L m.toNat (by have := wl.1; omega)
  have m0 := wl.1
  rw [wl.2.1] at H1 S1
  refine ⟨g', o', ?_, f1, H1, ?_⟩
  · rw [e1, show a + (m.toNat : Int) = a + m from by omega]
  · rw [S1 0 (by decide) (by decide)]
    unfold vE
    rw [show (A + m - A).toNat = m.toNat from by omega]
/-- the reference works it out -/
theorem s_runE (f : mm_M) (A e : Int) (V : Int → Int) (hV : ∀ j : Int, 0 ≤ j → j < 6 → f 66 j = V j) (A0 : 0 ≤ A) (e1 : e ≤ 120) (ws xs : Int → Int) (hw : ∀ k : Int, A ≤ k → k < e → f 61 k = ws k ∧ f 62 k = xs k) (wl : mm_wl ws A (e - A) 64) (tw : ∀ k : Int, A ≤ k → k < e → (ws k = 1 ∨ ws k = 2 ∨ ws k = 3 ∨ ws k = 4 ∨ mm_bin (ws k)) ∧ (ws k = 2 → 0 ≤ xs k ∧ xs k < 6)) : ∃ f', mm_call mX10_worked [vR 47, vI 0, vI A, vI e] f = some ([vI (vE ws xs V A e)], f') ∧ mm_jf f f' := by
  have hb := ht_b wl (Int.le_refl _)
  have w1 : w32 (130 * 0) = 0 := rfl
  have w2 : w32 (0 + A) = A := by rw [w32_id (by unfold mm_r32; have := wl.1; omega)]; omega
  have w3 : w32 (0 + e) = e := by rw [w32_id (by unfold mm_r32; have := wl.1; omega)]; omega
  have L : ∀ k : Nat, (k : Int) ≤ e - A → ∃ f' o', mm_ev mX10_worked 2 12 [some (vR 47), some (vI 0), some (vI A), some (vI e), some (vI 0), some (vI A), none] [] f = mm_ev mX10_worked 2 12 [some (vR 47), some (vI 0), some (vI A), some (vI e), some (vI (mm_ht ws A k)), some (vI (A + k)), o'] [] f' ∧ mm_jf f f' ∧ ∀ i : Int, 0 ≤ i → i < mm_ht ws A k → f' 67 i = stN ws xs V A k i := by
    intro k
    induction k with
    | zero =>
      intro _
      refine ⟨f, none, ?_, fun _ _ _ => rfl, fun i i0 i1 => ?_⟩
      · rw [show A + ((0 : Nat) : Int) = A from by omega]
        rfl
      · have i1 : i < 0 := i1
        omega
    | succ k ih =>
      intro hk
      obtain ⟨f1, o1, e3, j1, S1⟩ := ih (by omega)
      have wk := wl.2.2 k (by omega)
      have hk1 := hb k (by omega)
      obtain ⟨t1, t2⟩ := tw (A + k) (by omega) (by omega)
      obtain ⟨u1, u2⟩ := hw (A + k) (by omega) (by omega)
      have f61 : f1 61 (A + k) = ws (A + k) := by rw [j1 61 _ (by decide)]; exact u1
      have f62 : f1 62 (A + k) = xs (A + k) := by rw [j1 62 _ (by decide)]; exact u2
      obtain ⟨f2, o2, e2, j2, S2⟩ := s_wstep f1 0 A e (mm_ht ws A k) (A + k) o1 V (fun j j0 j6 => by rw [j1 66 j (by decide)]; exact hV j j0 j6) (by omega) (by omega) rfl e1 (by rw [f61]; exact t1) (by rw [f61, f62]; exact t2) (by rw [f61]; exact wk.1) hk1
      rw [f61] at e2
      refine ⟨f2, o2, ?_, fun c i q => (j2 c i q).trans (j1 c i q), fun i i0 i1 => ?_⟩
      · rw [e3, e2, show A + ((k + 1 : Nat) : Int) = A + (k : Int) + 1 from by omega]
        rfl
      · rw [S2 i, f61, f62]
        show _ = if i = mm_ht ws A k - mm_nd (ws (A + (k : Int))) then ntop (ws (A + (k : Int))) (xs (A + (k : Int))) V (stN ws xs V A k) (mm_ht ws A k) else stN ws xs V A k i
        have nd2 : mm_ht ws A (k + 1) = mm_ht ws A k + 1 - mm_nd (ws (A + (k : Int))) := rfl
        by_cases q : i = mm_ht ws A k - mm_nd (ws (A + (k : Int)))
        · rw [if_pos q, if_pos q]
          exact ntop_co wk.1 (fun _ => rfl) t1 S1
        · rw [if_neg q, if_neg q]
          have n0 := nd_b (ws (A + (k : Int)))
          exact S1 i i0 (by omega)
  have m0 := wl.1
  obtain ⟨f', o', e3, j1, S1⟩ := L (e - A).toNat (by omega)
  rw [wl.2.1] at e3 S1
  refine ⟨f', ?_, j1⟩
  rw [X10_worked_c, w1, w2, e3, X10_worked_12, w1, w3, if_pos (by omega), if_pos (by decide), S1 0 (by decide) (by decide)]
  rfl
