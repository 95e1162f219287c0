/-! oddWord: the pair -/
theorem c_fits (y : mm_M) (p T : Int) (hp : 0 ≤ p ∧ p < 7) : mm_call mX5_fits [vR 7, vI p, vI T] y = some ([vI (if y 32 p ≤ T ∧ T ≤ y 33 p then 1 else 0)], y) := by
  rw [X5_fits_c, if_pos hp]
  by_cases q : T < y 32 p
  · rw [if_pos q, if_neg (by omega)]
  · rw [if_neg q, if_pos hp]
    by_cases q2 : y 33 p < T
    · rw [if_pos q2, if_neg (by omega)]
    · rw [if_neg q2, if_pos (by omega)]
theorem c_fitsAll (y : mm_M) (n7 : y 1 1 ≤ 7) (n0 : 0 ≤ y 1 1) (ha : 0 ≤ y 11 55 ∧ y 11 55 ≤ 999) (hb : ∀ p : Int, 0 ≤ p → p < 7 → mm_bok (bh y p)) : ∃ b, mm_call mX5_fitsAll [vR 7, vR 1, vR 4] y = some ([vI b], y) ∧ (b = 0 ∨ b = 1) ∧ (b = 1 ↔ ∀ p : Int, 0 ≤ p → p < y 1 1 → y 32 p ≤ cT (bh y p) (y 11 55) ∧ cT (bh y p) (y 11 55) ≤ y 33 p) := by
  have L : ∀ (m : Nat) (k : Int), 0 ≤ k → k ≤ y 1 1 → y 1 1 - k ≤ m → (∀ p : Int, 0 ≤ p → p < k → y 32 p ≤ cT (bh y p) (y 11 55) ∧ cT (bh y p) (y 11 55) ≤ y 33 p) → ∃ b, mm_ev mX5_fitsAll 3 2 [some (vR 7), some (vR 1), some (vR 4), some (vI k)] [] y = some ([vI b], y) ∧ (b = 0 ∨ b = 1) ∧ (b = 1 ↔ ∀ p : Int, 0 ≤ p → p < y 1 1 → y 32 p ≤ cT (bh y p) (y 11 55) ∧ cT (bh y p) (y 11 55) ≤ y 33 p) := by
    intro m
    induction m with
    | zero =>
      intro k k0 k1 km A
      refine ⟨1, ?_, Or.inr rfl, fun _ p p0 p1 => A p p0 (by omega), fun _ => rfl⟩
      rw [X5_fitsAll_2, if_pos (by omega)]
    | succ m ih =>
      intro k k0 k1 km A
      by_cases q0 : y 1 1 ≤ k
      · refine ⟨1, ?_, Or.inr rfl, fun _ p p0 p1 => A p p0 (by omega), fun _ => rfl⟩
        rw [X5_fitsAll_2, if_pos q0]
      · have k7 : 0 ≤ k ∧ k < 7 := by omega
        have w4 : w32 (k + 1) = k + 1 := w32_id (by unfold mm_r32; omega)
        rw [X5_fitsAll_2, if_neg q0, c_hearing y k k7 (hb k k7.1 k7.2) ha, mm_be1, X5_fitsAll_18, c_fits y k _ k7, mm_be1, X5_fitsAll_21, w4]
        by_cases q : y 32 k ≤ cT (bh y k) (y 11 55) ∧ cT (bh y k) (y 11 55) ≤ y 33 k
        · rw [if_pos q, if_pos (by decide)]
          refine ih (k + 1) (by omega) (by omega) (by omega) (fun p p0 p1 => ?_)
          by_cases pk : p = k
          · rw [pk]
            exact q
          · exact A p p0 (by omega)
        · rw [if_neg q, if_neg (fun w => w rfl)]
          exact ⟨0, rfl, Or.inl rfl, fun w => absurd w (by decide), fun w => absurd (w k k0 (by omega)) q⟩
  rw [X5_fitsAll_c]
  exact L 7 0 (by omega) n0 (by omega) (fun p p0 p1 => by omega)
theorem s_oddL (f : mm_M) (a : Int) (Q : Int → Prop) (r : Int) (hr : mm_ls 9 Q r) (hQ : ∀ x v, (∀ c i, ¬ (c = 47 ∧ i = 11) → x c i = f c i) → x 47 11 = v → 0 ≤ v → v ≤ 9 → ∃ b, mm_call mX10_wrongSaid [vR 47, vI (a.tmod 10)] x = some ([vI b], x) ∧ (b < 0 ↔ Q v)) : mm_ev mX10_oddWord 6 33 [some (vR 47), some (vI a), some (vI 0), some (vI (f 47 11)), some (vI (-2)), some (vI 0)] [] f = some ([vI r], f) := by
  have fin : ∀ x : mm_M, (∀ c i, ¬ (c = 47 ∧ i = 11) → x c i = f c i) → mUp x 47 11 (f 47 11) = f := fun x hx => by
    funext c i
    rw [mUp_at]
    by_cases q : c = 47 ∧ i = 11
    · rw [if_pos q, q.1, q.2]
    · rw [if_neg q, hx c i q]
  have st : ∀ (m : Nat) (v : Int) (x : mm_M), (∀ c i, ¬ (c = 47 ∧ i = 11) → x c i = f c i) → 0 ≤ v → 10 - v ≤ m → (r = -2 ∨ v ≤ r) → mm_ev mX10_oddWord 6 33 [some (vR 47), some (vI a), some (vI 0), some (vI (f 47 11)), some (vI (-2)), some (vI v)] [] x = some ([vI r], f) := by
    intro m
    induction m with
    | zero =>
      intro v x hx v0 vm hv
      rw [X10_oddWord_33, if_pos (by omega), fin x hx]
      rcases hr with ⟨a, b⟩ | ⟨a, b, c, d⟩
      · rw [a]
      · omega
    | succ m ih =>
      intro v x hx v0 vm hv
      by_cases q : 10 ≤ v
      · rw [X10_oddWord_33, if_pos q, fin x hx]
        rcases hr with ⟨a, b⟩ | ⟨a, b, c, d⟩
        · rw [a]
        · omega
      · have w4 : w32 (v + 1) = v + 1 := w32_id (by unfold mm_r32; omega)
        have hx2 : ∀ c i, ¬ (c = 47 ∧ i = 11) → mUp x 47 11 v c i = f c i := fun c i z => by
          rw [mUp_at, if_neg z]
          exact hx c i z
        obtain ⟨b, b1, b2⟩ := hQ (mUp x 47 11 v) v hx2 (mUp_self _ _ _ _) v0 (by omega)
        rw [X10_oddWord_33, if_neg q, if_neg (by decide), b1, mm_be1, X10_oddWord_59, w4]
        by_cases q2 : 0 ≤ b
        · rw [if_pos q2]
          refine ih (v + 1) _ hx2 (by omega) (by omega) ?_
          rcases hr with ⟨a, b⟩ | ⟨a, b, c, d⟩
          · exact Or.inl a
          · right
            by_cases z : v = r
            · rw [← z] at c
              have := b2.2 c
              omega
            · omega
        · have Qv := b2.1 (by omega)
          have e : r = v := by
            rcases hr with ⟨a, b⟩ | ⟨a, b, c, d⟩
            · exact absurd Qv (b v v0 (by omega))
            · by_cases z : v < r
              · exact absurd Qv (d v v0 z)
              · omega
          rw [if_neg q2, X10_oddWord_33]
          by_cases q3 : 10 ≤ v + 1
          · rw [if_pos q3, fin _ hx2, e]
          · rw [if_neg q3, if_pos v0, fin _ hx2, e]
  exact st 10 0 f (fun _ _ _ => rfl) (by omega) (by omega) (by rcases hr with ⟨a, b⟩ | ⟨a, b, c, d⟩; exact Or.inl a; exact Or.inr a)
theorem c_oddL (g : mm_M) (a : Int) (u : Int) (eu : a.tmod 10 = u) (sh : mm_sh g u) (hn : mm_nok g) (n0 : 0 ≤ g 1 1) (hb : ∀ p : Int, 0 ≤ p → p < 7 → mm_bok (bh g p)) : ∃ r y, mm_ev mX9_oddWord 6 14 [some (vR 0), some (vI a), some (vI 0), some (vI 0)] [] g = some ([vI r], y) ∧ (∀ c i, c ≠ 32 → c ≠ 33 → y c i = g c i) ∧ mm_ls 9 (fun e => ∀ k : Int, 0 ≤ k → 3 * k < g 20 u → 3 * k + 2 < g 20 u ∧ mm_va g u k ∧ rLet (mm_tH (bh g (sE g u (3 * k))) (g 11 55)) (g 11 53) e (g 11 56) (sE g u (3 * k + 1)) (sE g u (3 * k + 2))) r := by
  have L : ∀ (m : Nat) (e : Int) (x : mm_M), 0 ≤ e → 10 - e ≤ m → (∀ c i, c ≠ 32 → c ≠ 33 → x c i = g c i) → (∀ v : Int, 0 ≤ v → v < e → v ≤ 9 → ¬ ∀ k : Int, 0 ≤ k → 3 * k < g 20 u → 3 * k + 2 < g 20 u ∧ mm_va g u k ∧ rLet (mm_tH (bh g (sE g u (3 * k))) (g 11 55)) (g 11 53) v (g 11 56) (sE g u (3 * k + 1)) (sE g u (3 * k + 2))) → ∃ r y, mm_ev mX9_oddWord 6 14 [some (vR 0), some (vI a), some (vI 0), some (vI e)] [] x = some ([vI r], y) ∧ (∀ c i, c ≠ 32 → c ≠ 33 → y c i = g c i) ∧ mm_ls 9 (fun e => ∀ k : Int, 0 ≤ k → 3 * k < g 20 u → 3 * k + 2 < g 20 u ∧ mm_va g u k ∧ rLet (mm_tH (bh g (sE g u (3 * k))) (g 11 55)) (g 11 53) e (g 11 56) (sE g u (3 * k + 1)) (sE g u (3 * k + 2))) r := by
    intro m
    induction m with
    | zero =>
      intro e x e0 em hx A
      refine ⟨-2, x, ?_, hx, Or.inl ⟨rfl, fun v v0 v9 => A v v0 (by omega) v9⟩⟩
      rw [X9_oddWord_14, if_pos (by omega)]
    | succ m ih =>
      intro e x e0 em hx A
      by_cases q : 10 ≤ e
      · refine ⟨-2, x, ?_, hx, Or.inl ⟨rfl, fun v v0 v9 => A v v0 (by omega) v9⟩⟩
        rw [X9_oddWord_14, if_pos q]
      · have w4 : w32 (e + 1) = e + 1 := w32_id (by unfold mm_r32; omega)
        have x11 : ∀ i, x 11 i = g 11 i := fun i => hx 11 i (by decide) (by decide)
        have x1 : x 1 1 = g 1 1 := hx 1 1 (by decide) (by decide)
        have x20 : x 20 u = g 20 u := hx 20 u (by decide) (by decide)
        have x22 : ∀ i, x 22 i = g 22 i := fun i => hx 22 i (by decide) (by decide)
        have sx : ∀ j, sE x u j = sE g u j := fun j => by unfold sE; rw [x22]
        have bx : ∀ p, bh x p = bh g p := fun p => by
          unfold bh
          rw [hx 24 p (by decide) (by decide), hx 25 p (by decide) (by decide)]
        have shx : mm_sh x u := by
          obtain ⟨s1, s2, s3, s4, s5⟩ := sh
          refine ⟨s1, by rw [hx 19 u (by decide) (by decide)]; exact s2, by rw [x20]; exact s3, by rw [x20]; exact s4, fun j j0 j1 => ?_⟩
          rw [sx]
          exact s5 j j0 (by omega)
        have hnx : mm_nok x := by
          obtain ⟨s1, s2, s3, s4, s5⟩ := hn
          refine ⟨by rw [x11]; exact s1, by rw [x11]; exact s2, by rw [x1]; exact s3, by rw [x11]; exact s4, fun k k0 k1 => ?_⟩
          rw [x11, x11]
          exact s5 k k0 k1
        obtain ⟨y, b, y1, y2, y3⟩ := c_sread x u e shx hnx (by rw [x1]; exact n0)
        have hy : ∀ c i, c ≠ 32 → c ≠ 33 → y c i = g c i := fun c i q1 q2 => (y2 c i q1 q2).trans (hx c i q1 q2)
        have sa := said_all (y := y) (B := bh x) (a := g 11 55) shx hnx y3 hn.1 (fun p p0 p7 => by rw [bx]; exact hb p p0 p7)
        have key : (∀ k : Int, 0 ≤ k → 3 * k < g 20 u → 3 * k + 2 < g 20 u ∧ mm_va g u k ∧ rLet (mm_tH (bh g (sE g u (3 * k))) (g 11 55)) (g 11 53) e (g 11 56) (sE g u (3 * k + 1)) (sE g u (3 * k + 2))) ↔ (b = 1 ∧ ∀ p : Int, 0 ≤ p → p < g 1 1 → y 32 p ≤ cT (bh g p) (g 11 55) ∧ cT (bh g p) (g 11 55) ≤ y 33 p) := by
          rw [x20, x11, x11, x1] at sa
          constructor
          · intro w
            have := sa.1 (fun k k0 k1 => by
              obtain ⟨w1, w2, w3⟩ := w k k0 k1
              refine ⟨w1, (mm_va_co x22 x1).2 w2, ?_⟩
              rw [sx, sx, sx, bx]
              exact w3)
            exact ⟨this.1, fun p p0 p1 => by rw [← bx]; exact this.2 p p0 p1⟩
          · intro w k k0 k1
            obtain ⟨w1, w2, w3⟩ := sa.2 ⟨w.1, fun p p0 p1 => by rw [bx]; exact w.2 p p0 p1⟩ k k0 k1
            rw [sx, sx, sx, bx] at w3
            exact ⟨w1, (mm_va_co x22 x1).1 w2, w3⟩
        have nxt : (¬ ∀ k : Int, 0 ≤ k → 3 * k < g 20 u → 3 * k + 2 < g 20 u ∧ mm_va g u k ∧ rLet (mm_tH (bh g (sE g u (3 * k))) (g 11 55)) (g 11 53) e (g 11 56) (sE g u (3 * k + 1)) (sE g u (3 * k + 2))) → ∀ v : Int, 0 ≤ v → v < e + 1 → v ≤ 9 → ¬ ∀ k : Int, 0 ≤ k → 3 * k < g 20 u → 3 * k + 2 < g 20 u ∧ mm_va g u k ∧ rLet (mm_tH (bh g (sE g u (3 * k))) (g 11 55)) (g 11 53) v (g 11 56) (sE g u (3 * k + 1)) (sE g u (3 * k + 2)) := fun no v v0 v1 v9 => by
          by_cases ve : v = e
          · rw [ve]
            exact no
          · exact A v v0 (by omega) v9
        rw [X9_oddWord_14, if_neg q, eu, y1, mm_be1, X9_oddWord_40, w4]
        by_cases qb : b = 0
        · rw [if_pos qb]
          exact ih (e + 1) y (by omega) (by omega) hy (nxt (fun w => by have := (key.1 w).1; omega))
        · have by' : ∀ p, bh y p = bh g p := fun p => by
            unfold bh
            rw [hy 24 p (by decide) (by decide), hy 25 p (by decide) (by decide)]
          have y1' : y 1 1 = g 1 1 := hy 1 1 (by decide) (by decide)
          have y55 : y 11 55 = g 11 55 := hy 11 55 (by decide) (by decide)
          obtain ⟨b2, c1, c2, c3⟩ := c_fitsAll y (by rw [y1']; exact hn.2.2.1) (by rw [y1']; exact n0) (by rw [y55]; exact hn.1) (fun p p0 p7 => by rw [by']; exact hb p p0 p7)
          have c4 : b2 = 1 ↔ ∀ p : Int, 0 ≤ p → p < g 1 1 → y 32 p ≤ cT (bh g p) (g 11 55) ∧ cT (bh g p) (g 11 55) ≤ y 33 p := by
            rw [c3, y1', y55]
            constructor
            · intro w p p0 p1
              rw [← by']
              exact w p p0 p1
            · intro w p p0 p1
              rw [by']
              exact w p p0 p1
          have b1 : b = 1 := by
            rcases y3 with w | w
            · exact absurd w.1 qb
            · exact w.1
          rw [if_neg qb, c1, mm_be1, X9_oddWord_58, w4]
          by_cases q2 : b2 = 0
          · rw [if_pos q2]
            exact ih (e + 1) y (by omega) (by omega) hy (nxt (fun w => by have := c4.2 (key.1 w).2; omega))
          · rw [if_neg q2]
            exact ⟨e, y, rfl, hy, Or.inr ⟨e0, by omega, key.2 ⟨b1, c4.1 (by omega)⟩, fun v v0 v1 => A v v0 v1 (by omega)⟩⟩
  exact L 10 0 g (by omega) (by omega) (fun _ _ _ _ => rfl) (fun v v0 v1 => by omega)
theorem p_oddWord (h : mm_M) (a : Int) (hI : mm_Inv h) (ha : mm_r32 a) : mm_Pr mX9_oddWord mX10_oddWord [vI a] h mm_Inv := by
  by_cases hz : bWhy h a = 0
  · obtain ⟨z, z1, z2⟩ := bWhy0 hz
    obtain ⟨t0, t2, w1⟩ := rs_b ha z.1
    obtain ⟨g, a1, sh, a3, a4, a5, a6, a7, a8⟩ := mm_ctxB h a hI ha hz
    obtain ⟨r, y, r1, y2, r2⟩ := c_oddL g a _ rfl sh a7 a5.1.1 a6
    have yS : mm_Sm g y := fun c i w => y2 c i (fun q => w (by unfold mm_sc; omega)) (fun q => w (by unfold mm_sc; omega))
    obtain ⟨f, b1, b3, b4, b5, b6, b7, b8, b9, b81, b80⟩ := a8 y yS
    have ag := AG_of b3 b5.1 b8 b9
    have gS := a5.2.2.2.2.2.1
    have tt := (gS (a.tmod 10) t2 z.2.2).2.2.2.2.2.2.2 (by rw [sh.2.1]; decide)
    have eC : mm_call mX9_oddWord [vR 0, vI a] h = some ([vI r], y) := by
      rw [X9_oddWord_c, a1, mm_be1, X9_oddWord_5, if_pos rfl]
      exact r1
    refine mm_Pr.of eC ?_ b5
    rw [X10_oddWord_c, s_areSh y a ha, if_pos z, mm_be1, X10_oddWord_4, if_pos (by decide), b1, mm_be1, X10_oddWord_14, if_pos (by decide)]
    refine s_oddL f a _ r r2 (fun x v hx e v0 v9 => ?_)
    obtain ⟨b', k1, k2⟩ := s_wrong g x (a.tmod 10) sh gS (fun i => by rw [hx 81 i (by omega)]; exact b81 i) (by rw [hx 80 _ (by omega), b80, tt.1]) (by rw [hx 47 1 (by omega), ag.1]) ⟨a5.1.1, a5.1.2.1⟩ ⟨fun p p0 p7 => by rw [hx 69 p (by omega)]; exact b6.1 p p0 p7, by rw [hx 47 13 (by omega)]; exact b6.2.1, by rw [hx 47 13 (by omega)]; exact b6.2.2⟩
    refine ⟨b', k1, ?_⟩
    rw [mm_wr_a k2]
    have g2 : x 47 10 = g 11 53 := by rw [hx 47 10 (by omega)]; exact ag.2.1
    have g4 : x 47 13 = g 11 56 := by rw [hx 47 13 (by omega), (N11 b5.1).1, b8]
    have g7 := a7.2.2.1
    have t69 : ∀ p : Int, 0 ≤ p → p < 7 → x 69 p = mm_tH (bh g p) (g 11 55) := fun p p0 p7 => by
      rw [hx 69 p (by omega)]
      exact ag.2.2.2.2.2 p p0 p7
    constructor
    · intro w k k0 k1
      obtain ⟨w1, w2, w3⟩ := w k k0 k1
      have := w2.1
      rw [t69 _ (by omega) (by omega), g2, e, g4] at w3
      exact ⟨w1, w2, w3⟩
    · intro w k k0 k1
      obtain ⟨w1, w2, w3⟩ := w k k0 k1
      have := w2.1
      refine ⟨w1, w2, ?_⟩
      rw [t69 _ (by omega) (by omega), g2, e, g4]
      exact w3
  · have eC : mm_call mX9_oddWord [vR 0, vI a] h = some ([vI (bWhy h a)], h) := by
      rw [X9_oddWord_c, c_both h a ha, if_neg hz, mm_be1, X9_oddWord_5, if_neg hz]
    refine mm_Pr.of eC ?_ hI
    rw [X10_oddWord_c, s_areSh h a ha, mm_be1, X10_oddWord_4]
    by_cases z : 0 ≤ a ∧ a.tdiv 10 < 6 ∧ a.tmod 10 < 6
    · have ng := bWhy_neg hz
      rw [if_pos z, if_pos (by decide), s_both h a ha z hI.2.2.2.2.2.1, if_neg hz, mm_be1, X10_oddWord_14, if_neg (by omega)]
    · rw [if_neg z, if_neg (fun w => w rfl), bWhy_no z]
