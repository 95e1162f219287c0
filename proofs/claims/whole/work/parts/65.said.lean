/-! what was said: threes of a row of shorts -/
theorem c_readE (h : mm_M) (s j : Int) (hs : 0 ≤ s ∧ s < 6) (hk : 0 ≤ h 19 s) (hj : 0 ≤ j ∧ j < h 20 s) (h60 : h 20 s ≤ 60) : mm_call mX7_read [vR 3, vI s, vI j] h = some ([vL (h 22 (s * 60 + j))], h) := by
  have w3 : w32 (s * 60) = s * 60 := w32_id (by unfold mm_r32; omega)
  have w4 : w32 (s * 60 + j) = s * 60 + j := w32_id (by unfold mm_r32; omega)
  have e : sWhy h s j = 0 := by
    unfold sWhy
    rw [if_pos hs, if_pos hk, if_pos hj]
  simp only [c_why, mm_bs, mm_ap, mm_ap0, mm_b01, Classical.not_not, and_self, and_true, true_and, not_true_eq_false, not_false_eq_true, mm_10, ↓reduceIte, X7_read_c, X7_read_6, e, w3, w4]
  rw [if_pos (by omega)]
/-- the elements of a row of shorts -/
def sE (h : mm_M) (u j : Int) : Int := h 22 (u * 60 + j)
def mm_sh (h : mm_M) (u : Int) : Prop := (0 ≤ u ∧ u < 6) ∧ h 19 u = 1 ∧ 0 ≤ h 20 u ∧ h 20 u ≤ 60 ∧ ∀ j : Int, 0 ≤ j → j < h 20 u → -32768 ≤ sE h u j ∧ sE h u j ≤ 32767
theorem mm_sh.of {h : mm_M} {u : Int} (hS : mm_RS h) (hu : 0 ≤ u ∧ u < 6) (hk : h 19 u = 1) : mm_sh h u := by
  obtain ⟨t1, t2, t3, t4, t5, t6, t7, t8⟩ := hS u hu.1 hu.2
  exact ⟨hu, hk, t5, t6, fun j j0 j1 => ((t8 (by omega)).2 j j0 j1).2.2 hk⟩
theorem c_rd (h : mm_M) (u j : Int) (z : mm_sh h u) (j0 : 0 ≤ j) (j1 : j < h 20 u) : mm_call mX7_read [vR 3, vI u, vI j] h = some ([vL (sE h u j)], h) ∧ w32 (sE h u j) = sE h u j := by
  obtain ⟨z1, z2, z3, z4, z5⟩ := z
  have := z5 j j0 j1
  exact ⟨c_readE h u j z1 (by omega) ⟨j0, j1⟩ z4, w32_id (by unfold mm_r32; omega)⟩
theorem s_at (h f : mm_M) (u j : Int) (z : mm_sh h u) (hS : mm_RS h) (e81 : ∀ i, f 81 i = h 81 i) (j0 : 0 ≤ j) (j1 : j < h 20 u) : mm_call mX10_at [vR 47, vI u, vI j] f = some ([vI (sE h u j)], f) := by
  obtain ⟨z1, z2, z3, z4, z5⟩ := z
  obtain ⟨t1, t2, t3, t4, t5, t6, t7, t8⟩ := hS u z1.1 z1.2
  have := z5 j j0 j1
  have w1 : w32 (60 * u) = 60 * u := w32_id (by unfold mm_r32; omega)
  have w2 : w32 (60 * u + j) = 60 * u + j := w32_id (by unfold mm_r32; omega)
  have w3 : w32 (h 22 (u * 60 + j)) = sE h u j := w32_id (by unfold mm_r32; exact ⟨by have := this.1; unfold sE at this; omega, by have := this.2; unfold sE at this; omega⟩)
  rw [X10_at_c, w1, w2, if_pos (by omega), e81, ((t8 (by omega)).2 j j0 j1).1, w3]
/-- a post, a minute, a word that may be -/
abbrev mm_va (h : mm_M) (u k : Int) : Prop := (0 ≤ sE h u (3 * k) ∧ sE h u (3 * k) < h 1 1) ∧ 0 ≤ sE h u (3 * k + 1) ∧ 0 ≤ sE h u (3 * k + 2) ∧ sE h u (3 * k + 2) ≤ 9
/-- the first three that isn't so; -2 -/
def mm_wr (z : Int) (So : Int → Prop) (r : Int) : Prop := (r = -2 ∧ ∀ k : Int, 0 ≤ k → 3 * k < z → 3 * k + 2 < z ∧ So k) ∨ (0 ≤ r ∧ 3 * r < z ∧ ¬ (3 * r + 2 < z ∧ So r) ∧ ∀ k : Int, 0 ≤ k → k < r → 3 * k + 2 < z ∧ So k)
theorem mm_wr_u {z : Int} {So So' : Int → Prop} {r r' : Int} (e : ∀ k : Int, 0 ≤ k → 3 * k + 2 < z → (So k ↔ So' k)) (a : mm_wr z So r) (b : mm_wr z So' r') : r = r' := by
  rcases a with ⟨a1, a2⟩ | ⟨a1, a2, a3, a4⟩
  · rcases b with ⟨b1, b2⟩ | ⟨b1, b2, b3, b4⟩
    · omega
    · have := a2 r' b1 b2
      exact absurd ⟨this.1, (e r' b1 this.1).1 this.2⟩ b3
  · rcases b with ⟨b1, b2⟩ | ⟨b1, b2, b3, b4⟩
    · have := b2 r a1 a2
      exact absurd ⟨this.1, (e r a1 this.1).2 this.2⟩ a3
    · rcases Int.lt_trichotomy r r' with q | q | q
      · have := b4 r a1 q
        exact absurd ⟨this.1, (e r a1 this.1).2 this.2⟩ a3
      · exact q
      · have := a4 r' b1 q
        exact absurd ⟨this.1, (e r' b1 this.1).1 this.2⟩ b3
theorem mm_wr_a {z : Int} {So : Int → Prop} {r : Int} (a : mm_wr z So r) : r < 0 ↔ ∀ k : Int, 0 ≤ k → 3 * k < z → 3 * k + 2 < z ∧ So k := by
  rcases a with ⟨a1, a2⟩ | ⟨a1, a2, a3, a4⟩
  · exact ⟨fun _ => a2, fun _ => by omega⟩
  · exact ⟨fun w => by omega, fun w => absurd (w r a1 a2) a3⟩
/-- the reference judges -/
abbrev rSo (h f : mm_M) (u k : Int) : Prop := mm_va h u k ∧ rLet (f 69 (sE h u (3 * k))) (f 47 10) (f 47 11) (f 47 13) (sE h u (3 * k + 1)) (sE h u (3 * k + 2))
theorem s_wrong (h f : mm_M) (u : Int) (z : mm_sh h u) (hS : mm_RS h) (e81 : ∀ i, f 81 i = h 81 i) (e80 : f 80 u = h 20 u) (e1 : f 47 1 = h 1 1) (n7 : 0 ≤ h 1 1 ∧ h 1 1 ≤ 7) (ho : mm_rok f) : ∃ r, mm_call mX10_wrongSaid [vR 47, vI u] f = some ([vI r], f) ∧ mm_wr (h 20 u) (rSo h f u) r := by
  have Z := id z
  obtain ⟨z1, z2, z3, z4, z5⟩ := z
  have L : ∀ (m : Nat) (k : Int) (o1 o2 : Option mm_V), 0 ≤ k → k ≤ 60 → 61 - k ≤ m → (∀ j : Int, 0 ≤ j → j < k → 3 * j + 2 < h 20 u ∧ rSo h f u j) → ∃ r, mm_ev mX10_wrongSaid 4 2 [some (vR 47), some (vI u), some (vI k), o1, o2] [] f = some ([vI r], f) ∧ mm_wr (h 20 u) (rSo h f u) r := by
    intro m
    induction m with
    | zero => intro k o1 o2 k0 k60 km; omega
    | succ m ih =>
      intro k o1 o2 k0 k60 km A
      have w1 : w32 (3 * k) = 3 * k := w32_id (by unfold mm_r32; omega)
      have w2 : w32 (3 * k + 2) = 3 * k + 2 := w32_id (by unfold mm_r32; omega)
      have w3 : w32 (3 * k + 1) = 3 * k + 1 := w32_id (by unfold mm_r32; omega)
      have w4 : w32 (k + 1) = k + 1 := w32_id (by unfold mm_r32; omega)
      rw [X10_wrongSaid_2, if_pos z1, e80, w1]
      by_cases q1 : h 20 u ≤ 3 * k
      · rw [if_pos q1]
        exact ⟨-2, rfl, Or.inl ⟨rfl, fun j j0 j1 => A j j0 (by omega)⟩⟩
      · rw [if_neg q1, if_pos z1, w2]
        by_cases q2 : 3 * k + 2 < h 20 u
        · have no : ¬ rSo h f u k → mm_wr (h 20 u) (rSo h f u) k := fun w => Or.inr ⟨k0, by omega, fun v => w v.2, A⟩
          have a0 := s_at h f u (3 * k) Z hS e81 (by omega) (by omega)
          have a1 := s_at h f u (3 * k + 1) Z hS e81 (by omega) (by omega)
          have a2 := s_at h f u (3 * k + 2) Z hS e81 (by omega) (by omega)
          rw [if_pos q2, a0, mm_be1, X10_wrongSaid_38, w1, w3, a1, mm_be1, X10_wrongSaid_49, s_post f _ (by omega), mm_be1, X10_wrongSaid_56, e1]
          by_cases q3 : 0 ≤ sE h u (3 * k) ∧ sE h u (3 * k) < h 1 1
          · rw [if_pos q3, if_neg (by decide)]
            by_cases q4 : sE h u (3 * k + 1) < 0
            · rw [if_pos q4]
              exact ⟨k, rfl, no (fun w => by have := w.1.2.1; omega)⟩
            · rw [if_neg q4, w1, w2, a2, mm_be1, X10_wrongSaid_74, s_isWord, mm_be1, X10_wrongSaid_77]
              by_cases q5 : 0 ≤ sE h u (3 * k + 2) ∧ sE h u (3 * k + 2) ≤ 9
              · rw [if_pos q5, if_neg (by decide), w1, w2, a2, mm_be1, X10_wrongSaid_94, s_isLetIn f _ _ _ (by omega) ho, mm_be1, X10_wrongSaid_97]
                by_cases q6 : rLet (f 69 (sE h u (3 * k))) (f 47 10) (f 47 11) (f 47 13) (sE h u (3 * k + 1)) (sE h u (3 * k + 2))
                · rw [if_pos q6, if_pos (by decide), w4]
                  refine ih (k + 1) _ _ (by omega) (by omega) (by omega) (fun j j0 j1 => ?_)
                  by_cases q7 : j = k
                  · rw [q7]
                    exact ⟨q2, ⟨q3, by omega, q5⟩, q6⟩
                  · exact A j j0 (by omega)
                · rw [if_neg q6, if_neg (fun w => w rfl)]
                  exact ⟨k, rfl, no (fun w => q6 w.2)⟩
              · rw [if_neg q5, if_pos rfl]
                exact ⟨k, rfl, no (fun w => q5 w.1.2.2)⟩
          · rw [if_neg q3, if_pos rfl]
            exact ⟨k, rfl, no (fun w => q3 w.1.1)⟩
        · rw [if_neg q2]
          exact ⟨k, rfl, Or.inr ⟨k0, by omega, fun v => q2 v.1, A⟩⟩
  rw [X10_wrongSaid_c]
  exact L 61 0 none none (by omega) (by omega) (by omega) (fun j j0 j1 => by omega)
theorem c_mayBe5 (h : mm_M) (p m w : Int) : mm_call mX5_mayBe [vR 1, vI p, vI m, vI w] h = some ([vI (if (0 ≤ p ∧ p < h 1 1) ∧ 0 ≤ m ∧ 0 ≤ w ∧ w ≤ 9 then 1 else 0)], h) := by
  rw [X5_mayBe_c, c_isPost, mm_be1, X5_mayBe_5]
  by_cases q : 0 ≤ p ∧ p < h 1 1
  · rw [if_pos q, if_neg (by decide)]
    by_cases q2 : m < 0
    · rw [if_pos q2, if_neg (by omega)]
    · rw [if_neg q2, c_word, mm_be1, X5_mayBe_19]
      by_cases q3 : 0 ≤ w ∧ w ≤ 9
      · rw [if_pos q3, if_neg (by decide), if_pos ⟨q, by omega, q3⟩]
      · rw [if_neg q3, if_pos rfl, if_neg (fun z => q3 z.2.2)]
  · rw [if_neg q, if_pos rfl, if_neg (fun z => q z.1)]
/-- the class judges -/
abbrev cSo (g : mm_M) (u k : Int) : Prop := mm_va g u k ∧ cLet (cT (bh g (sE g u (3 * k))) (g 11 55)) (g 11 53) (g 11 54) (g 11 56) (sE g u (3 * k + 1)) (sE g u (3 * k + 2))
theorem c_isSo (g : mm_M) (u k : Int) (z : mm_sh g u) (k0 : 0 ≤ k) (k1 : 3 * k + 2 < g 20 u) (hb : ∀ p : Int, 0 ≤ p → p < 7 → mm_bok (bh g p)) (hn : mm_nok g) : mm_call mX9_isSo [vR 0, vI u, vI (3 * k)] g = some ([vI (if cSo g u k then 1 else 0)], g) := by
  have z4 := z.2.2.2.1
  have g7 := hn.2.2.1
  have w2 : w32 (3 * k + 2) = 3 * k + 2 := w32_id (by unfold mm_r32; omega)
  have w3 : w32 (3 * k + 1) = 3 * k + 1 := w32_id (by unfold mm_r32; omega)
  obtain ⟨a0, b0⟩ := c_rd g u (3 * k) z (by omega) (by omega)
  obtain ⟨a1, b1⟩ := c_rd g u (3 * k + 1) z (by omega) (by omega)
  obtain ⟨a2, b2⟩ := c_rd g u (3 * k + 2) z (by omega) (by omega)
  rw [X9_isSo_c, a0, mm_be1, X9_isSo_9, w3, a1, mm_be1, X9_isSo_22, w2, a2, mm_be1, X9_isSo_36, b0, b1, b2, c_mayBe5, mm_be1, X9_isSo_51]
  by_cases q : (0 ≤ sE g u (3 * k) ∧ sE g u (3 * k) < g 1 1) ∧ 0 ≤ sE g u (3 * k + 1) ∧ 0 ≤ sE g u (3 * k + 2) ∧ sE g u (3 * k + 2) ≤ 9
  · rw [if_pos q, if_neg (by decide), c_new, mm_be1, X9_isSo_76, c_admits g _ _ _ _ (by omega) (hb _ (by omega) (by omega)) hn, mm_be1, X9_isSo_79]
    by_cases q2 : cLet (cT (bh g (sE g u (3 * k))) (g 11 55)) (g 11 53) (g 11 54) (g 11 56) (sE g u (3 * k + 1)) (sE g u (3 * k + 2))
    · rw [if_pos q2, if_neg (by decide), if_pos ⟨q, q2⟩]
    · rw [if_neg q2, if_pos rfl, if_neg (fun w => q2 w.2)]
  · rw [if_neg q, if_pos rfl, if_neg (fun w => q w.1)]
theorem c_judgeL (g : mm_M) (a u : Int) (z : mm_sh g u) (hb : ∀ p : Int, 0 ≤ p → p < 7 → mm_bok (bh g p)) (hn : mm_nok g) : ∃ r, mm_ev mX9_judge 6 34 [some (vR 0), some (vI a), some (vI 0), some (vI u), some (vI (g 20 u)), some (vI 0), some (vI 0)] [] g = some ([vI r], g) ∧ mm_wr (g 20 u) (cSo g u) r := by
  have z3 := z.2.2.1
  have z4 := z.2.2.2.1
  have L : ∀ (m : Nat) (k : Int), 0 ≤ k → k ≤ 60 → 61 - k ≤ m → (∀ j : Int, 0 ≤ j → j < k → 3 * j + 2 < g 20 u ∧ cSo g u j) → ∃ r, mm_ev mX9_judge 6 34 [some (vR 0), some (vI a), some (vI 0), some (vI u), some (vI (g 20 u)), some (vI k), some (vI (3 * k))] [] g = some ([vI r], g) ∧ mm_wr (g 20 u) (cSo g u) r := by
    intro m
    induction m with
    | zero => intro k k0 k60 km; omega
    | succ m ih =>
      intro k k0 k60 km A
      have w1 : w32 (g 20 u - 3) = g 20 u - 3 := w32_id (by unfold mm_r32; omega)
      have w2 : w32 (3 * k + 3) = 3 * (k + 1) := by
        rw [w32_id (by unfold mm_r32; omega)]
        omega
      have w4 : w32 (k + 1) = k + 1 := w32_id (by unfold mm_r32; omega)
      rw [X9_judge_34]
      by_cases q1 : g 20 u ≤ 3 * k
      · rw [if_pos q1]
        exact ⟨-2, rfl, Or.inl ⟨rfl, fun j j0 j1 => A j j0 (by omega)⟩⟩
      · rw [if_neg q1, w1]
        by_cases q2 : g 20 u - 3 < 3 * k
        · rw [if_pos q2]
          exact ⟨k, rfl, Or.inr ⟨k0, by omega, fun v => by have := v.1; omega, A⟩⟩
        · rw [if_neg q2, c_isSo g u k z k0 (by omega) hb hn, mm_be1, X9_judge_57, w2, w4]
          by_cases q3 : cSo g u k
          · rw [if_pos q3, if_pos (by decide)]
            refine ih (k + 1) (by omega) (by omega) (by omega) (fun j j0 j1 => ?_)
            by_cases q7 : j = k
            · rw [q7]
              exact ⟨by omega, q3⟩
            · exact A j j0 (by omega)
          · rw [if_neg q3, if_neg (fun w => w rfl)]
            exact ⟨k, rfl, Or.inr ⟨k0, by omega, fun v => q3 v.2, A⟩⟩
  exact L 61 0 (by omega) (by omega) (by omega) (fun j j0 j1 => by omega)
/-! both shelves -/
def bWhy (h : mm_M) (a : Int) : Int := if 0 ≤ a ∧ a.tdiv 10 < 6 ∧ a.tmod 10 < 6 then (if h 19 (a.tdiv 10) = -1 ∨ h 19 (a.tmod 10) = -1 then -11 else if ¬ h 19 (a.tdiv 10) = 0 ∨ ¬ h 19 (a.tmod 10) = 1 then -12 else 0) else -1
theorem rs_b {a : Int} (ha : mm_r32 a) (a0 : 0 ≤ a) : 0 ≤ a.tdiv 10 ∧ 0 ≤ a.tmod 10 ∧ w32 (a.tdiv 10) = a.tdiv 10 := by
  have t0 : 0 ≤ a.tdiv 10 := Int.tdiv_nonneg a0 (by decide)
  have t1 : a.tdiv 10 ≤ a := Int.tdiv_le_self 10 a0
  have t2 : 0 ≤ a.tmod 10 := Int.tmod_nonneg _ a0
  unfold mm_r32 at ha
  exact ⟨t0, t2, w32_id (by unfold mm_r32; omega)⟩
theorem c_both (h : mm_M) (a : Int) (ha : mm_r32 a) : mm_call mX9_layOutBoth [vR 0, vI a] h = if bWhy h a = 0 then (mm_call mX8_readFrom [vR 4, vR 1, vR 3, vI (a.tdiv 10)] h).bind (fun w => mm_ev mX9_layOutBoth 5 105 [some (vR 0), some (vI a), some (vI 0), some (vI 0)] (w.1 ++ []) w.2) else some ([vI (bWhy h a)], h) := by
  rw [X9_layOutBoth_c]
  by_cases a0 : a < 0
  · have e : bWhy h a = -1 := by unfold bWhy; rw [if_neg (by omega)]
    rw [if_pos a0, e, if_neg (by decide)]
  · obtain ⟨t0, t2, w1⟩ := rs_b ha (by omega)
    rw [if_neg a0, w1, c_isShelf, mm_be1, X9_layOutBoth_15]
    by_cases q1 : a.tdiv 10 < 6
    · rw [if_pos (⟨t0, q1⟩ : 0 ≤ a.tdiv 10 ∧ a.tdiv 10 < 6), if_neg (by decide), c_isShelf, mm_be1, X9_layOutBoth_29]
      by_cases q2 : a.tmod 10 < 6
      · have e : bWhy h a = (if h 19 (a.tdiv 10) = -1 ∨ h 19 (a.tmod 10) = -1 then -11 else if ¬ h 19 (a.tdiv 10) = 0 ∨ ¬ h 19 (a.tmod 10) = 1 then -12 else 0) := by unfold bWhy; rw [if_pos ⟨by omega, q1, q2⟩]
        rw [if_pos (⟨t2, q2⟩ : 0 ≤ a.tmod 10 ∧ a.tmod 10 < 6), if_pos (by decide), w1, c_refusal, mm_be1, X9_layOutBoth_46, c_refusal, mm_be1, X9_layOutBoth_59, e, w1]
        have k1 : kWhy h (a.tdiv 10) 0 = if h 19 (a.tdiv 10) = -1 then -11 else if h 19 (a.tdiv 10) = 0 then 0 else -12 := by unfold kWhy; rw [if_pos ⟨t0, q1⟩]
        have k2 : kWhy h (a.tmod 10) 1 = if h 19 (a.tmod 10) = -1 then -11 else if h 19 (a.tmod 10) = 1 then 0 else -12 := by unfold kWhy; rw [if_pos ⟨t2, q2⟩]
        by_cases y1 : h 19 (a.tdiv 10) = -1
        · rw [if_pos y1] at k1
          rw [k1, if_pos (Or.inl y1)]
          rfl
        · rw [if_neg y1] at k1
          by_cases y2 : h 19 (a.tmod 10) = -1
          · rw [if_pos y2] at k2
            rw [k2, if_pos (Or.inr y2)]
            by_cases y3 : h 19 (a.tdiv 10) = 0
            · rw [if_pos y3] at k1
              rw [k1]
              rfl
            · rw [if_neg y3] at k1
              rw [k1]
              rfl
          · rw [if_neg y2] at k2
            have y0 : ¬ (h 19 (a.tdiv 10) = -1 ∨ h 19 (a.tmod 10) = -1) := fun w => w.elim y1 y2
            rw [if_neg y0]
            by_cases y3 : h 19 (a.tdiv 10) = 0
            · rw [if_pos y3] at k1
              by_cases y4 : h 19 (a.tmod 10) = 1
              · have y5 : ¬ (¬ h 19 (a.tdiv 10) = 0 ∨ ¬ h 19 (a.tmod 10) = 1) := fun w => w.elim (fun z => z y3) (fun z => z y4)
                rw [if_pos y4] at k2
                rw [k1, k2, if_neg y5]
                rfl
              · rw [if_neg y4] at k2
                rw [k1, k2, if_pos (Or.inr y4)]
                rfl
            · rw [if_neg y3] at k1
              rw [k1, if_pos (Or.inl y3)]
              by_cases y4 : h 19 (a.tmod 10) = 1
              · rw [if_pos y4] at k2
                rw [k2]
                rfl
              · rw [if_neg y4] at k2
                rw [k2]
                rfl
      · have e : bWhy h a = -1 := by unfold bWhy; rw [if_neg (by omega)]
        rw [if_neg (fun w : 0 ≤ a.tmod 10 ∧ a.tmod 10 < 6 => q2 w.2), if_neg (fun w => w rfl), e, if_neg (by decide)]
    · have e : bWhy h a = -1 := by unfold bWhy; rw [if_neg (by omega)]
      rw [if_neg (fun w : 0 ≤ a.tdiv 10 ∧ a.tdiv 10 < 6 => q1 w.2), if_pos rfl, e, if_neg (by decide)]
theorem s_areSh (h : mm_M) (a : Int) (ha : mm_r32 a) : mm_call mX10_areShelves [vI a] h = some ([vI (if 0 ≤ a ∧ a.tdiv 10 < 6 ∧ a.tmod 10 < 6 then 1 else 0)], h) := by
  rw [X10_areShelves_c]
  by_cases a0 : a < 0
  · rw [if_pos a0, if_neg (by omega)]
  · obtain ⟨t0, t2, w1⟩ := rs_b ha (by omega)
    rw [if_neg a0, w1, s_shelf, mm_be1, X10_areShelves_11]
    by_cases q1 : a.tdiv 10 < 6
    · rw [if_pos (⟨t0, q1⟩ : 0 ≤ a.tdiv 10 ∧ a.tdiv 10 < 6), if_neg (by decide), s_shelf, mm_be1, X10_areShelves_21]
      by_cases q2 : a.tmod 10 < 6
      · rw [if_pos (⟨t2, q2⟩ : 0 ≤ a.tmod 10 ∧ a.tmod 10 < 6), if_neg (by decide), if_pos ⟨by omega, q1, q2⟩]
      · rw [if_neg (fun w : 0 ≤ a.tmod 10 ∧ a.tmod 10 < 6 => q2 w.2), if_pos rfl, if_neg (by omega)]
    · rw [if_neg (fun w : 0 ≤ a.tdiv 10 ∧ a.tdiv 10 < 6 => q1 w.2), if_pos rfl, if_neg (by omega)]
theorem s_both (h : mm_M) (a : Int) (ha : mm_r32 a) (z : 0 ≤ a ∧ a.tdiv 10 < 6 ∧ a.tmod 10 < 6) (hS : mm_RS h) : mm_call mX10_layBoth [vR 47, vI a] h = if bWhy h a = 0 then (mm_call mX10_layRoute [vR 47, vI (a.tdiv 10)] h).bind (fun w => mm_ev mX10_layBoth 5 64 [some (vR 47), some (vI a)] (w.1 ++ []) w.2) else some ([vI (bWhy h a)], h) := by
  obtain ⟨t0, t2, w1⟩ := rs_b ha z.1
  have e : bWhy h a = (if h 19 (a.tdiv 10) = -1 ∨ h 19 (a.tmod 10) = -1 then -11 else if ¬ h 19 (a.tdiv 10) = 0 ∨ ¬ h 19 (a.tmod 10) = 1 then -12 else 0) := by unfold bWhy; rw [if_pos z]
  have q1 : 0 ≤ a.tdiv 10 ∧ a.tdiv 10 < 6 := ⟨t0, z.2.1⟩
  have q2 : 0 ≤ a.tmod 10 ∧ a.tmod 10 < 6 := ⟨t2, z.2.2⟩
  have k1 : kWhy h (a.tdiv 10) 0 = if h 19 (a.tdiv 10) = -1 then -11 else if h 19 (a.tdiv 10) = 0 then 0 else -12 := by unfold kWhy; rw [if_pos q1]
  have k2 : kWhy h (a.tmod 10) 1 = if h 19 (a.tmod 10) = -1 then -11 else if h 19 (a.tmod 10) = 1 then 0 else -12 := by unfold kWhy; rw [if_pos q2]
  obtain ⟨t1, _, t3, t4, _⟩ := hS _ q1.1 q1.2
  obtain ⟨u1, _, u3, u4, _⟩ := hS _ q2.1 q2.2
  have m1 : h 79 (a.tdiv 10) = -1 ↔ h 19 (a.tdiv 10) = -1 := by
    rw [t3]
    by_cases y : h 19 (a.tdiv 10) = -1
    · rw [if_pos y]; exact ⟨fun _ => y, fun _ => rfl⟩
    · rw [if_neg y]
      by_cases y2 : h 19 (a.tdiv 10) = -2
      · rw [if_pos y2]; have := t4 y2; omega
      · rw [if_neg y2]; omega
  have m2 : h 79 (a.tmod 10) = -1 ↔ h 19 (a.tmod 10) = -1 := by
    rw [u3]
    by_cases y : h 19 (a.tmod 10) = -1
    · rw [if_pos y]; exact ⟨fun _ => y, fun _ => rfl⟩
    · rw [if_neg y]
      by_cases y2 : h 19 (a.tmod 10) = -2
      · rw [if_pos y2]; have := u4 y2; omega
      · rw [if_neg y2]; omega
  rw [X10_layBoth_c, w1, if_pos q1, e]
  by_cases y1 : h 19 (a.tdiv 10) = -1
  · rw [if_pos (m1.2 y1), if_pos (Or.inl y1)]
    rfl
  · rw [if_neg (fun w => y1 (m1.1 w)), if_pos q2]
    rw [if_neg y1] at k1
    by_cases y2 : h 19 (a.tmod 10) = -1
    · rw [if_neg (fun w => w (m2.2 y2)), if_pos (Or.inr y2)]
      rfl
    · have y0 : ¬ (h 19 (a.tdiv 10) = -1 ∨ h 19 (a.tmod 10) = -1) := fun w => w.elim y1 y2
      rw [if_neg y2] at k2
      rw [if_pos (fun w => y2 (m2.1 w)), if_neg y0, s_rowFault h _ 0 q1 (by decide) hS, mm_be1, X10_layBoth_38, k1]
      by_cases y3 : h 19 (a.tdiv 10) = 0
      · rw [if_pos y3, if_neg (by decide), s_rowFault h _ 1 q2 (by decide) hS, mm_be1, X10_layBoth_50, k2]
        by_cases y4 : h 19 (a.tmod 10) = 1
        · have y5 : ¬ (¬ h 19 (a.tdiv 10) = 0 ∨ ¬ h 19 (a.tmod 10) = 1) := fun w => w.elim (fun z => z y3) (fun z => z y4)
          rw [if_pos y4, if_neg y5, w1]
          rfl
        · rw [if_neg y4, if_pos (Or.inr y4)]
          rfl
      · rw [if_neg y3, if_pos (Or.inl y3)]
        rfl
theorem bWhy0 {h : mm_M} {a : Int} (w : bWhy h a = 0) : (0 ≤ a ∧ a.tdiv 10 < 6 ∧ a.tmod 10 < 6) ∧ h 19 (a.tdiv 10) = 0 ∧ h 19 (a.tmod 10) = 1 := by
  unfold bWhy at w
  by_cases z : 0 ≤ a ∧ a.tdiv 10 < 6 ∧ a.tmod 10 < 6
  · rw [if_pos z] at w
    refine ⟨z, ?_⟩
    by_cases y1 : h 19 (a.tdiv 10) = -1 ∨ h 19 (a.tmod 10) = -1
    · rw [if_pos y1] at w
      omega
    · rw [if_neg y1] at w
      by_cases y2 : ¬ h 19 (a.tdiv 10) = 0 ∨ ¬ h 19 (a.tmod 10) = 1
      · rw [if_pos y2] at w
        omega
      · omega
  · rw [if_neg z] at w
    omega
theorem bWhy_no {h : mm_M} {a : Int} (z : ¬ (0 ≤ a ∧ a.tdiv 10 < 6 ∧ a.tmod 10 < 6)) : bWhy h a = -1 := by unfold bWhy; rw [if_neg z]
theorem bWhy_neg {h : mm_M} {a : Int} (w : ¬ bWhy h a = 0) : bWhy h a < 0 := by
  unfold bWhy at w ⊢
  repeat' split at w
  all_goals (repeat' split) <;> omega
theorem bWhy_Sm {h h1 : mm_M} (e : mm_Sm h h1) (a : Int) : bWhy h1 a = bWhy h a := by
  unfold bWhy
  rw [e 19 (a.tdiv 10) (by unfold mm_sc; omega), e 19 (a.tmod 10) (by unfold mm_sc; omega)]
