/-! when, oddWord: the pairs -/
theorem WG_pB {g : mm_M} (W : mm_WG g) {p : Int} (p0 : 0 ≤ p) (p7 : p < 7) : bh g p = pB (wDi g) (g 23) (g 4 0) p := by
  unfold bh
  by_cases q : p = 0
  · rw [if_pos q, q]
    rfl
  · rw [if_neg q]
    by_cases w : ∃ j : Int, 0 ≤ j ∧ j < g 4 0 ∧ g 23 j = p
    · obtain ⟨j, j0, j1, ej⟩ := w
      obtain ⟨a, b, c⟩ := W.2.2.1 j j0 j1
      have t := pB_in (d := wDi g) (fun i i0 i1 => (W.2.2.1 i i0 i1).1.1) (fun i k i0 ik k1 => WG_d W i0 ik k1) j0 j1
      rw [ej] at t b c
      rw [b, if_pos j0, c, t]
    · have w2 : ∀ j : Int, 0 ≤ j → j < g 4 0 → ¬ g 23 j = p := fun j j0 j1 ej => w ⟨j, j0, j1, ej⟩
      rw [W.2.2.2 p p0 p7 w2, pB_out q w2, if_neg (show ¬ (0 : Int) ≤ -1 by decide)]
theorem said_all {g y : mm_M} {u e b a : Int} {B : Int → Int} (sh : mm_sh g u) (hn : mm_nok g) (hy : (b = 0 ∧ ¬ mm_rd g u e) ∨ (b = 1 ∧ mm_rd g u e ∧ ∀ n : Int, g 20 u = 3 * n → mm_ft g y u e n)) (ha : 0 ≤ a ∧ a ≤ 999) (hB : ∀ p : Int, 0 ≤ p → p < 7 → mm_bok (B p)) : (∀ k : Int, 0 ≤ k → 3 * k < g 20 u → 3 * k + 2 < g 20 u ∧ mm_va g u k ∧ rLet (mm_tH (B (sE g u (3 * k))) a) (g 11 53) e (g 11 56) (sE g u (3 * k + 1)) (sE g u (3 * k + 2))) ↔ (b = 1 ∧ ∀ p : Int, 0 ≤ p → p < g 1 1 → y 32 p ≤ cT (B p) a ∧ cT (B p) a ≤ y 33 p) := by
  have g7 := hn.2.2.1
  have hd := hn.2.1
  have z0 := sh.2.2.1
  rcases hy with ⟨b0, nr⟩ | ⟨b1, rd, ft⟩
  · constructor
    · intro w
      exfalso
      refine nr (fun k k0 k1 => ?_)
      obtain ⟨w1, w2, w3⟩ := w k k0 k1
      refine ⟨w1, w2, ?_⟩
      unfold rLet at w3
      omega
    · intro w
      omega
  · have zz : ∃ n : Int, g 20 u = 3 * n ∧ 0 ≤ n := by
      refine ⟨g 20 u / 3, ?_, by omega⟩
      apply Classical.byContradiction
      intro w
      have := (rd (g 20 u / 3) (by omega) (by omega)).1
      omega
    obtain ⟨n, zn, nn⟩ := zz
    have F := (ft n zn).2
    constructor
    · intro w
      refine ⟨b1, fun p p0 p1 => ?_⟩
      have bp := hB p p0 (by omega)
      have tb := cT_b bp ha
      rw [(F p p0 (by omega)).2.2 _ (by omega) (by omega)]
      intro k k0 k1 ek
      obtain ⟨w1, w2, w3⟩ := w k k0 (by omega)
      have v := sh.2.2.2.2 (3 * k + 1) (by omega) (by omega)
      rw [ek] at w3
      exact (let_eq bp ha (by omega) hd.1).2 w3
    · intro w k k0 k1
      obtain ⟨r1, r2, r3⟩ := rd k k0 k1
      have p7 : 0 ≤ sE g u (3 * k) ∧ sE g u (3 * k) < 7 := by have := r2.1; omega
      have bp := hB _ p7.1 p7.2
      have tb := cT_b bp ha
      have v := sh.2.2.2.2 (3 * k + 1) (by omega) (by omega)
      have t := ((F _ p7.1 p7.2).2.2 (cT (B (sE g u (3 * k))) a) (by omega) (by omega)).1 (w.2 _ r2.1.1 r2.1.2) k k0 (by omega) rfl
      exact ⟨r1, r2, (let_eq bp ha (by omega) hd.1).1 t⟩
theorem c_behind (g : mm_M) (p : Int) (hp : 0 ≤ p ∧ p < 7) : mm_call mX8_behindStart [vR 4, vI p] g = some ([vI (bh g p)], g) := by
  unfold bh
  rw [X8a_behindStart_c]
  by_cases q : p = 0
  · rw [if_neg (fun w => w q), if_pos q]
  · rw [if_pos q, if_neg q, if_pos hp]
    by_cases q2 : 0 ≤ g 24 p
    · rw [if_pos q2, if_pos q2, if_pos hp]
    · rw [if_neg q2, if_neg q2]
/-- the least of 0 .. N by which something is; -2 -/
def mm_ls (N : Int) (Q : Int → Prop) (r : Int) : Prop := (r = -2 ∧ ∀ v : Int, 0 ≤ v → v ≤ N → ¬ Q v) ∨ (0 ≤ r ∧ r ≤ N ∧ Q r ∧ ∀ v : Int, 0 ≤ v → v < r → ¬ Q v)
theorem c_least (y : mm_M) (n7 : y 1 1 ≤ 7) (n0 : 0 ≤ y 1 1) (hb : ∀ p : Int, 0 ≤ p → p < 7 → mm_bok (bh y p)) (h32 : ∀ p : Int, 0 ≤ p → p < 7 → (-1000000 ≤ y 32 p ∧ y 32 p ≤ 1000000) ∧ (0 ≤ y 33 p ∧ y 33 p ≤ 1000000)) : ∃ r, mm_call mX5_leastStart [vR 7, vR 1, vR 4] y = some ([vI r], y) ∧ mm_ls 999 (fun v => ∀ p : Int, 0 ≤ p → p < y 1 1 → y 32 p ≤ cT (bh y p) v ∧ cT (bh y p) v ≤ y 33 p) r := by
  have L : ∀ (m : Nat) (k a b : Int) (o : Option mm_V), 0 ≤ k → k ≤ y 1 1 → y 1 1 - k ≤ m → 0 ≤ a → a ≤ 1000000 → -2000000 ≤ b → b ≤ 999 → (∀ v : Int, 0 ≤ v → v ≤ 999 → ((a ≤ v ∧ v ≤ b) ↔ ∀ p : Int, 0 ≤ p → p < k → y 32 p ≤ cT (bh y p) v ∧ cT (bh y p) v ≤ y 33 p)) → ∃ r, mm_ev mX5_leastStart 2 10 [some (vR 7), some (vR 1), some (vR 4), some (vI a), some (vI b), some (vI k), o] [] y = some ([vI r], y) ∧ mm_ls 999 (fun v => ∀ p : Int, 0 ≤ p → p < y 1 1 → y 32 p ≤ cT (bh y p) v ∧ cT (bh y p) v ≤ y 33 p) r := by
    intro m
    have fin : ∀ (k a b : Int) (o : Option mm_V), k = y 1 1 → 0 ≤ a → b ≤ 999 → (∀ v : Int, 0 ≤ v → v ≤ 999 → ((a ≤ v ∧ v ≤ b) ↔ ∀ p : Int, 0 ≤ p → p < k → y 32 p ≤ cT (bh y p) v ∧ cT (bh y p) v ≤ y 33 p)) → ∃ r, mm_ev mX5_leastStart 2 10 [some (vR 7), some (vR 1), some (vR 4), some (vI a), some (vI b), some (vI k), o] [] y = some ([vI r], y) ∧ mm_ls 999 (fun v => ∀ p : Int, 0 ≤ p → p < y 1 1 → y 32 p ≤ cT (bh y p) v ∧ cT (bh y p) v ≤ y 33 p) r := by
      intro k a b o ek a0 b9 A
      subst ek
      rw [X5_leastStart_10, if_pos (Int.le_refl _)]
      by_cases q : b < a
      · rw [if_pos q]
        refine ⟨-2, rfl, Or.inl ⟨rfl, fun v v0 v9 w => ?_⟩⟩
        have := (A v v0 v9).2 w
        omega
      · rw [if_neg q]
        refine ⟨a, rfl, Or.inr ⟨a0, by omega, (A a a0 (by omega)).1 ⟨Int.le_refl _, by omega⟩, fun v v0 v1 w => ?_⟩⟩
        have := (A v v0 (by omega)).2 w
        omega
    induction m with
    | zero =>
      intro k a b o k0 k1 km a0 a1 b0 b9 A
      exact fin k a b o (by omega) a0 b9 A
    | succ m ih =>
      intro k a b o k0 k1 km a0 a1 b0 b9 A
      by_cases q0 : y 1 1 ≤ k
      · exact fin k a b o (by omega) a0 b9 A
      · have k7 : 0 ≤ k ∧ k < 7 := by omega
        have w4 : w32 (k + 1) = k + 1 := w32_id (by unfold mm_r32; omega)
        have bp := hb k k7.1 k7.2
        obtain ⟨x1, x2⟩ := h32 k k7.1 k7.2
        rw [X5_leastStart_10, if_neg q0, c_behind y k k7, mm_be1, X5_leastStart_25]
        by_cases q1 : bh y k = 1000000
        · rw [if_pos q1, if_pos k7]
          by_cases q2 : y 33 k = 1000000
          · rw [if_pos q2, w4]
            refine ih (k + 1) a b _ (by omega) (by omega) (by omega) a0 a1 b0 b9 (fun v v0 v9 => ?_)
            rw [A v v0 v9]
            constructor
            · intro w p p0 p1
              by_cases pk : p = k
              · rw [pk, cT1 q1]
                omega
              · exact w p p0 (by omega)
            · intro w p p0 p1
              exact w p p0 (by omega)
          · rw [if_neg q2]
            refine ⟨-2, rfl, Or.inl ⟨rfl, fun v v0 v9 w => ?_⟩⟩
            have := w k k0 (by omega)
            rw [cT1 q1] at this
            omega
        · have w1 : w32 (y 32 k - bh y k) = y 32 k - bh y k := w32_id (by unfold mm_r32; omega)
          have w2 : w32 (y 33 k - bh y k) = y 33 k - bh y k := w32_id (by unfold mm_r32; omega)
          rw [if_neg q1, if_pos k7, if_pos k7, w1, w2, w4]
          refine ih (k + 1) _ _ _ (by omega) (by omega) (by omega) (by split <;> omega) (by split <;> omega) (by split <;> omega) (by split <;> omega) (fun v v0 v9 => ?_)
          have e : (((if a < y 32 k - bh y k then y 32 k - bh y k else a) ≤ v ∧ v ≤ (if y 33 k - bh y k < b then y 33 k - bh y k else b)) ↔ (a ≤ v ∧ v ≤ b) ∧ y 32 k ≤ v + bh y k ∧ v + bh y k ≤ y 33 k) := by
            split <;> split <;> omega
          rw [e, A v v0 v9]
          constructor
          · intro w p p0 p1
            by_cases pk : p = k
            · rw [pk, cT2 q1]
              exact w.2
            · exact w.1 p p0 (by omega)
          · intro w
            refine ⟨fun p p0 p1 => w p p0 (by omega), ?_⟩
            have := w k k0 (by omega)
            rw [cT2 q1] at this
            exact this
  rw [X5_leastStart_c]
  exact L 7 0 0 999 none (by omega) n0 (by omega) (by omega) (by omega) (by omega) (by omega) (fun v v0 v9 => ⟨fun _ p p0 p1 => by omega, fun _ => ⟨v0, v9⟩⟩)
theorem s_whenL (f : mm_M) (a : Int) (Q : Int → Prop) (r : Int) (hr : mm_ls 999 Q r) (hQ : ∀ x v, (∀ c i, c ≠ 69 → ¬ (c = 47 ∧ i = 12) → x c i = f c i) → x 47 12 = v → 0 ≤ v → v ≤ 999 → ∃ x' b, mm_call mX10_goRoute [vR 47] x = some ([], x') ∧ (∀ c, c ≠ 69 → x' c = x c) ∧ mm_call mX10_wrongSaid [vR 47, vI (a.tmod 10)] x' = some ([vI b], x') ∧ (b < 0 ↔ Q v)) : ∃ f', mm_ev mX10_when 6 33 [some (vR 47), some (vI a), some (vI 0), some (vI (f 47 12)), some (vI (-2)), some (vI 0)] [] f = some ([vI r], f') ∧ ∀ c, c ≠ 69 → f' c = f c := by
  have fin : ∀ x : mm_M, (∀ c i, c ≠ 69 → ¬ (c = 47 ∧ i = 12) → x c i = f c i) → ∀ c, c ≠ 69 → mUp x 47 12 (f 47 12) c = f c := fun x hx c hc => by
    funext i
    rw [mUp_at]
    by_cases q : c = 47 ∧ i = 12
    · rw [if_pos q, q.1, q.2]
    · rw [if_neg q, hx c i hc q]
  have st : ∀ (m : Nat) (v : Int) (x : mm_M), (∀ c i, c ≠ 69 → ¬ (c = 47 ∧ i = 12) → x c i = f c i) → 0 ≤ v → 1000 - v ≤ m → (r = -2 ∨ v ≤ r) → ∃ f', mm_ev mX10_when 6 33 [some (vR 47), some (vI a), some (vI 0), some (vI (f 47 12)), some (vI (-2)), some (vI v)] [] x = some ([vI r], f') ∧ ∀ c, c ≠ 69 → f' c = f c := by
    intro m
    induction m with
    | zero =>
      intro v x hx v0 vm hv
      refine ⟨_, ?_, fin x hx⟩
      rw [X10_when_33, if_pos (by omega)]
      rcases hr with ⟨a, b⟩ | ⟨a, b, c, d⟩
      · rw [a]
      · omega
    | succ m ih =>
      intro v x hx v0 vm hv
      by_cases q : 999 < v
      · refine ⟨_, ?_, fin x hx⟩
        rw [X10_when_33, if_pos q]
        rcases hr with ⟨a, b⟩ | ⟨a, b, c, d⟩
        · rw [a]
        · omega
      · have w4 : w32 (v + 1) = v + 1 := w32_id (by unfold mm_r32; omega)
        have hx2 : ∀ c i, c ≠ 69 → ¬ (c = 47 ∧ i = 12) → mUp x 47 12 v c i = f c i := fun c i z z2 => by
          rw [mUp_at, if_neg z2]
          exact hx c i z z2
        obtain ⟨x', b, b1, b2, b3, b4⟩ := hQ (mUp x 47 12 v) v hx2 (mUp_self _ _ _ _) v0 (by omega)
        have hx3 : ∀ c i, c ≠ 69 → ¬ (c = 47 ∧ i = 12) → x' c i = f c i := fun c i z z2 => by
          rw [b2 c z]
          exact hx2 c i z z2
        rw [X10_when_33, if_neg q, if_neg (by decide), b1, mm_be0, X10_when_56, b3, mm_be1, X10_when_64, w4]
        by_cases q2 : 0 ≤ b
        · rw [if_pos q2]
          refine ih (v + 1) _ hx3 (by omega) (by omega) ?_
          rcases hr with ⟨a, b⟩ | ⟨a, b, c, d⟩
          · exact Or.inl a
          · right
            by_cases z : v = r
            · rw [← z] at c
              have := b4.2 c
              omega
            · omega
        · have Qv := b4.1 (by omega)
          have e : r = v := by
            rcases hr with ⟨a, b⟩ | ⟨a, b, c, d⟩
            · exact absurd Qv (b v v0 (by omega))
            · by_cases z : v < r
              · exact absurd Qv (d v v0 z)
              · omega
          rw [if_neg q2]
          refine ⟨_, ?_, fin x' hx3⟩
          rw [X10_when_33]
          by_cases q3 : 999 < v + 1
          · rw [if_pos q3, e]
          · rw [if_neg q3, if_pos v0, e]
  exact st 1000 0 f (fun _ _ _ _ => rfl) (by omega) (by omega) (by rcases hr with ⟨a, b⟩ | ⟨a, b, c, d⟩; exact Or.inl a; exact Or.inr a)
theorem p_when (h : mm_M) (a : Int) (hI : mm_Inv h) (ha : mm_r32 a) : mm_Pr mX9_when mX10_when [vI a] h mm_Inv := by
  by_cases hz : bWhy h a = 0
  · obtain ⟨z, z1, z2⟩ := bWhy0 hz
    obtain ⟨t0, t2, w1⟩ := rs_b ha z.1
    obtain ⟨g, a1, sh, a3, a4, a5, a6, a7, a8⟩ := mm_ctxB h a hI ha hz
    obtain ⟨y, b, y1, y2, y3⟩ := c_sread g (a.tmod 10) (g 11 54) sh a7 a5.1.1
    have yS : mm_Sm g y := fun c i w => y2 c i (fun q => w (by unfold mm_sc; omega)) (fun q => w (by unfold mm_sc; omega))
    obtain ⟨f, b1, b3, b4, b5, b6, b7, b8, b9, b81, b80⟩ := a8 y yS
    have bhy : ∀ p, bh y p = bh g p := fun p => by
      unfold bh
      rw [y2 24 p (by decide) (by decide), y2 25 p (by decide) (by decide)]
    have y11 : y 1 1 = g 1 1 := y2 1 1 (by decide) (by decide)
    have hr : ∃ r, mm_call mX9_when [vR 0, vI a] h = some ([vI r], y) ∧ mm_ls 999 (fun v => b = 1 ∧ ∀ p : Int, 0 ≤ p → p < g 1 1 → y 32 p ≤ cT (bh g p) v ∧ cT (bh g p) v ≤ y 33 p) r := by
      rw [X9_when_c, a1, mm_be1, X9_when_5, if_pos rfl, c_new, mm_be1, X9_when_37, y1, mm_be1, X9_when_40]
      rcases y3 with ⟨e, nr⟩ | ⟨e, rd, ft⟩
      · rw [if_neg (fun w => w e)]
        exact ⟨-2, rfl, Or.inl ⟨rfl, fun v _ _ w => by omega⟩⟩
      · have zz : ∃ n : Int, g 20 (a.tmod 10) = 3 * n := by
          refine ⟨g 20 (a.tmod 10) / 3, ?_⟩
          apply Classical.byContradiction
          intro w
          have z0 := sh.2.2.1
          have := (rd (g 20 (a.tmod 10) / 3) (by omega) (by omega)).1
          omega
        obtain ⟨n, zn⟩ := zz
        obtain ⟨r, r1, r2⟩ := c_least y (by rw [y11]; exact a7.2.2.1) (by rw [y11]; exact a5.1.1) (fun p p0 p7 => by rw [bhy]; exact a6 p p0 p7) (fun p p0 p7 => ⟨((ft n zn).2 p p0 p7).1, ((ft n zn).2 p p0 p7).2.1⟩)
        rw [if_pos (by omega), r1, mm_be1, X9_when_61]
        refine ⟨r, rfl, ?_⟩
        rcases r2 with ⟨c1, c2⟩ | ⟨c1, c2, c3, c4⟩
        · refine Or.inl ⟨c1, fun v v0 v9 w => c2 v v0 v9 (fun p p0 p1 => ?_)⟩
          rw [bhy]
          exact w.2 p p0 (by omega)
        · refine Or.inr ⟨c1, c2, ⟨e, fun p p0 p1 => ?_⟩, fun v v0 v9 w => c4 v v0 v9 (fun p p0 p1 => ?_)⟩
          · have := c3 p p0 (by omega)
            rw [bhy] at this
            exact this
          · rw [bhy]
            exact w.2 p p0 (by omega)
    obtain ⟨r, eC, hr⟩ := hr
    have ag := AG_of b3 b5.1 b8 b9
    have gS := a5.2.2.2.2.2.1
    have tt := (gS (a.tmod 10) t2 z.2.2).2.2.2.2.2.2.2 (by rw [sh.2.1]; decide)
    have W6 := a3.2.1
    have W0 := a3.1
    have e35 : f 47 35 = g 4 0 := b3.1
    obtain ⟨f', c1, c2⟩ := s_whenL f a _ r hr (fun x v hx e v0 v9 => by
      have x68 : ∀ i, x 68 i = f 68 i := fun i => hx 68 i (by decide) (by omega)
      have x35 : x 47 35 = g 4 0 := by rw [hx 47 35 (by decide) (by omega), e35]
      have xo : ∀ j : Int, 0 ≤ j → j < g 4 0 → x 68 j = g 23 j := fun j j0 j1 => by rw [x68, b3.2.1 j j0 j1]
      have xv : ∀ j : Int, 0 ≤ j → j < g 4 0 → 0 < g 23 j ∧ g 23 j < 7 := fun j j0 j1 => by
        have := (a3.2.2.1 j j0 j1).1
        have := a7.2.2.1
        omega
      have x48 : ∀ i, x 48 i = f 48 i := fun i => hx 48 i (by decide) (by omega)
      have x49 : ∀ i, x 49 i = f 49 i := fun i => hx 49 i (by decide) (by omega)
      obtain ⟨x', d1, d2, d3⟩ := s_goB x (by omega) (fun j j0 j1 => by rw [xo j j0 (by omega)]; exact xv j j0 (by omega)) (fun i j i0 ij j1 => by rw [xo i i0 (by omega), xo j (by omega) (by omega)]; exact WG_d a3 i0 ij (by omega)) (by omega) (fun i i0 i1 => by rw [x48, x49]; exact N_rxy b5.1 i i0 i1)
      have hx' : ∀ c i, c ≠ 69 → ¬ (c = 47 ∧ i = 12) → x' c i = f c i := fun c i q1 q2 => by
        rw [d2 c q1]
        exact hx c i q1 q2
      have t69 : ∀ p : Int, 0 ≤ p → p < 7 → x' 69 p = mm_tH (bh g p) v := fun p p0 p7 => by
        rw [d3 p p0 p7, e, WG_pB a3 p0 p7, x35]
        refine congrArg (fun w => mm_tH w v) (pB_co (fun a b a0 a1 b0 b1 => ?_) (fun i i0 i1 => ?_))
        · have : rDi x a b = rDi f a b := by
            unfold rDi
            rw [x48, x48, x49, x49]
          rw [this, N_di b5.1 a b ⟨a0, a1⟩ ⟨b0, b1⟩]
          unfold wDi
          rw [b8, b8, b8, b8]
        · have := xv i i0 i1
          exact ⟨xo i i0 i1, by omega, by omega⟩
      have ok : mm_rok x' := ⟨fun p p0 p7 => by rw [t69 p p0 p7]; have := tm_b (a6 p p0 p7) (a := v) ⟨v0, v9⟩; exact ⟨this.1, this.2.1⟩, by rw [hx' 47 13 (by decide) (by omega)]; exact b6.2.1, by rw [hx' 47 13 (by decide) (by omega)]; exact b6.2.2⟩
      obtain ⟨b', k1, k2⟩ := s_wrong g x' (a.tmod 10) sh gS (fun i => by rw [hx' 81 i (by decide) (by omega)]; exact b81 i) (by rw [hx' 80 _ (by decide) (by omega), b80, tt.1]) (by rw [hx' 47 1 (by decide) (by omega), ag.1]) ⟨a5.1.1, a5.1.2.1⟩ ok
      refine ⟨x', b', d1, d2, k1, ?_⟩
      rw [mm_wr_a k2, ← said_all (y := y) (B := bh g) sh a7 y3 ⟨v0, v9⟩ a6]
      have g2 : x' 47 10 = g 11 53 := by rw [hx' 47 10 (by decide) (by omega)]; exact ag.2.1
      have g3 : x' 47 11 = g 11 54 := by rw [hx' 47 11 (by decide) (by omega)]; exact ag.2.2.1
      have g4 : x' 47 13 = g 11 56 := by rw [hx' 47 13 (by decide) (by omega), (N11 b5.1).1, b8]
      have g7 := a7.2.2.1
      constructor
      · intro w k k0 k1
        obtain ⟨w1, w2, w3⟩ := w k k0 k1
        have := w2.1
        rw [t69 _ (by omega) (by omega), g2, g3, g4] at w3
        exact ⟨w1, w2, w3⟩
      · intro w k k0 k1
        obtain ⟨w1, w2, w3⟩ := w k k0 k1
        have := w2.1
        refine ⟨w1, w2, ?_⟩
        rw [t69 _ (by omega) (by omega), g2, g3, g4]
        exact w3)
    refine mm_Pr.of eC (v := vI r) (h2 := f') ?_ ?_
    · rw [X10_when_c, s_areSh y a ha, if_pos z, mm_be1, X10_when_4, if_pos (by decide), b1, mm_be1, X10_when_14, if_pos (by decide)]
      exact c1
    · refine mm_Inv_Sm (h := f) (fun c i w => ?_) b5
      rw [c2 c (fun q => w (by unfold mm_sc; omega))]
  · have eC : mm_call mX9_when [vR 0, vI a] h = some ([vI (bWhy h a)], h) := by
      rw [X9_when_c, c_both h a ha, if_neg hz, mm_be1, X9_when_5, if_neg hz]
    refine mm_Pr.of eC ?_ hI
    rw [X10_when_c, s_areSh h a ha, mm_be1, X10_when_4]
    by_cases z : 0 ≤ a ∧ a.tdiv 10 < 6 ∧ a.tmod 10 < 6
    · have ng := bWhy_neg hz
      rw [if_pos z, if_pos (by decide), s_both h a ha z hI.2.2.2.2.2.1, if_neg hz, mm_be1, X10_when_14, if_neg (by omega)]
    · rw [if_neg z, if_neg (fun w => w rfl), bWhy_no z]
