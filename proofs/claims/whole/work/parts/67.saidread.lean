/-! what was said, read: from when to when each post may have heard -/
def mm_rd (g : mm_M) (u e : Int) : Prop := ∀ k : Int, 0 ≤ k → 3 * k < g 20 u → 3 * k + 2 < g 20 u ∧ mm_va g u k ∧ (sE g u (3 * k + 2) = g 11 53 ∨ sE g u (3 * k + 2) = e)
/-- x: what the class read of the first n threes -/
def mm_ft (g x : mm_M) (u e n : Int) : Prop := (∀ c i, c ≠ 32 → c ≠ 33 → x c i = g c i) ∧ ∀ p : Int, 0 ≤ p → p < 7 → (-1000000 ≤ x 32 p ∧ x 32 p ≤ 1000000) ∧ (0 ≤ x 33 p ∧ x 33 p ≤ 1000000) ∧ ∀ T : Int, -1000000 ≤ T → T ≤ 1000000 → ((x 32 p ≤ T ∧ T ≤ x 33 p) ↔ ∀ k : Int, 0 ≤ k → k < n → sE g u (3 * k) = p → cLet T (g 11 53) e (g 11 56) (sE g u (3 * k + 1)) (sE g u (3 * k + 2)))
theorem L_sread (g : mm_M) (u e : Int) (o1 o2 o3 o4 : Option mm_V) : ∀ (m : Nat) (k : Int) (x : mm_M), 0 ≤ k → k ≤ 7 → 7 - k ≤ m → (∀ c i, c ≠ 32 → c ≠ 33 → x c i = g c i) → (∀ p : Int, 0 ≤ p → p < k → x 32 p = -1000000 ∧ x 33 p = 1000000) → ∃ y, mm_ev mX5_read 4 3 [some (vR 7), some (vR 1), some (vR 3), some (vI u), some (vI e), some (vI k), none, none, none, none] [] x = mm_ev mX5_read 4 3 [some (vR 7), some (vR 1), some (vR 3), some (vI u), some (vI e), some (vI 7), none, none, none, none] [] y ∧ (∀ c i, c ≠ 32 → c ≠ 33 → y c i = g c i) ∧ (∀ p : Int, 0 ≤ p → p < 7 → y 32 p = -1000000 ∧ y 33 p = 1000000) := by
  intro m
  induction m with
  | zero =>
    intro k x k0 k7 km hx hp
    have : k = 7 := by omega
    subst this
    exact ⟨x, rfl, hx, hp⟩
  | succ m ih =>
    intro k x k0 k7 km hx hp
    by_cases q : k = 7
    · subst q
      exact ⟨x, rfl, hx, hp⟩
    · have w4 : w32 (k + 1) = k + 1 := w32_id (by unfold mm_r32; omega)
      obtain ⟨y, y1, y2, y3⟩ := ih (k + 1) (mUp (mUp x 32 k (-1000000)) 33 k 1000000) (by omega) (by omega) (by omega) (fun c i q1 q2 => by rw [mUp_ne q2, mUp_ne q1]; exact hx c i q1 q2) (fun p p0 p1 => by
        by_cases z : p = k
        · rw [z]
          exact ⟨by rw [mUp_ne (by decide), mUp_self], mUp_self _ _ _ _⟩
        · rw [mUp_ne (show (32 : Nat) ≠ 33 by decide), mUp_nei z, mUp_nei z, mUp_ne (show (33 : Nat) ≠ 32 by decide)]
          exact hp p p0 (by omega))
      refine ⟨y, ?_, y2, y3⟩
      rw [X5_read_3, if_neg (by omega), if_pos (by omega), if_pos (by omega), w4]
      exact y1
theorem c_narrow (g x : mm_M) (u e n p m w : Int) (hp : 0 ≤ p ∧ p < 7) (hm : 0 ≤ m ∧ m ≤ 32767) (hn : mm_nok g) (n0 : 0 ≤ n) (fx : mm_ft g x u e n) (e0 : sE g u (3 * n) = p) (e1 : sE g u (3 * n + 1) = m) (e2 : sE g u (3 * n + 2) = w) : (¬ (w = g 11 53 ∨ w = e) → mm_call mX5_narrow [vR 7, vR 1, vI p, vI m, vI w, vI e] x = some ([vI 0], x)) ∧ ((w = g 11 53 ∨ w = e) → ∃ y, mm_call mX5_narrow [vR 7, vR 1, vI p, vI m, vI w, vI e] x = some ([vI 1], y) ∧ mm_ft g y u e (n + 1)) := by
  have x11 : ∀ i, x 11 i = g 11 i := fun i => fx.1 11 i (by decide) (by decide)
  have hd := hn.2.1
  have E : mm_call mX5_narrow [vR 7, vR 1, vI p, vI m, vI w, vI e] x = if w = g 11 53 ∨ w = e then mm_ev mX5_narrow 2 24 [some (vR 7), some (vR 1), some (vI p), some (vI m), some (vI w), some (vI e), some (vI (g 11 53))] [] x else some ([vI 0], x) := by
    rw [X5_narrow_c, c_old, mm_be1, X5_narrow_6, x11]
    by_cases q1 : w = g 11 53
    · rw [if_pos q1, if_pos (Or.inl q1)]
    · rw [if_neg q1]
      by_cases q2 : w = e
      · rw [if_pos q2, if_pos (Or.inr q2)]
      · rw [if_neg q2, if_neg (fun z => z.elim q1 q2)]
  refine ⟨fun q => by rw [E, if_neg q], fun q => ?_⟩
  rw [E, if_pos q, X5_narrow_24]
  obtain ⟨F, Q⟩ := fx
  have step : ∀ (y : mm_M), (∀ c i, c ≠ 32 → c ≠ 33 → y c i = g c i) → (∀ r : Int, 0 ≤ r → r < 7 → ¬ r = p → y 32 r = x 32 r ∧ y 33 r = x 33 r) → ((-1000000 ≤ y 32 p ∧ y 32 p ≤ 1000000) ∧ (0 ≤ y 33 p ∧ y 33 p ≤ 1000000) ∧ ∀ T : Int, -1000000 ≤ T → T ≤ 1000000 → ((y 32 p ≤ T ∧ T ≤ y 33 p) ↔ (x 32 p ≤ T ∧ T ≤ x 33 p) ∧ cLet T (g 11 53) e (g 11 56) m w)) → mm_ft g y u e (n + 1) := by
    intro y y1 y2 y3
    refine ⟨y1, fun r r0 r7 => ?_⟩
    by_cases rp : r = p
    · subst rp
      refine ⟨y3.1, y3.2.1, fun T T0 T1 => ?_⟩
      rw [y3.2.2 T T0 T1, (Q r r0 r7).2.2 T T0 T1]
      constructor
      · intro z k k0 k1 ek
        by_cases kn' : k = n
        · subst kn'
          rw [e1, e2]
          exact z.2
        · exact z.1 k k0 (by omega) ek
      · intro z
        refine ⟨fun k k0 k1 ek => z k k0 (by omega) ek, ?_⟩
        have := z n n0 (by omega) e0
        rw [e1, e2] at this
        exact this
    · obtain ⟨a, b⟩ := y2 r r0 r7 rp
      rw [a, b]
      obtain ⟨c1, c2, c3⟩ := Q r r0 r7
      refine ⟨c1, c2, fun T T0 T1 => ?_⟩
      rw [c3 T T0 T1]
      constructor
      · intro z k k0 k1 ek
        by_cases kn' : k = n
        · subst kn'
          exact absurd (ek.symm.trans e0) rp
        · exact z k k0 (by omega) ek
      · intro z k k0 k1 ek
        exact z k k0 (by omega) ek
  obtain ⟨c1, c2, c3⟩ := Q p hp.1 hp.2
  by_cases q1 : w = g 11 53
  · rw [if_pos q1]
    by_cases q2 : w = e
    · rw [if_pos q2]
      refine ⟨x, rfl, step x F (fun r r0 r7 _ => ⟨rfl, rfl⟩) ⟨c1, c2, fun T T0 T1 => ?_⟩⟩
      unfold cLet
      omega
    · have w1 : w32 (m - g 11 56) = m - g 11 56 := w32_id (by unfold mm_r32; omega)
      have w2 : w32 (m - g 11 56 + 1) = m - g 11 56 + 1 := w32_id (by unfold mm_r32; omega)
      rw [if_neg q2, if_pos hp, c_holds, mm_be1, X5_narrow_75, if_pos hp, x11, w1, w2]
      refine ⟨_, rfl, step _ (fun c i z1 z2 => by rw [mUp_ne z1]; exact F c i z1 z2) (fun r r0 r7 rp => ⟨mUp_nei rp, by rw [mUp_ne (by decide)]⟩) ?_⟩
      rw [mUp_self, mUp_ne (by decide)]
      refine ⟨by split <;> omega, c2, fun T T0 T1 => ?_⟩
      unfold cLet
      split <;> omega
  · have q2 : w = e := q.elim (fun z => absurd z q1) id
    rw [if_neg q1, if_pos hp, if_pos hp]
    refine ⟨_, rfl, step _ (fun c i z1 z2 => by rw [mUp_ne z2]; exact F c i z1 z2) (fun r r0 r7 rp => ⟨by rw [mUp_ne (by decide)], mUp_nei rp⟩) ?_⟩
    rw [mUp_self, mUp_ne (by decide)]
    refine ⟨c1, by split <;> omega, fun T T0 T1 => ?_⟩
    unfold cLet
    split <;> omega
theorem c_sread (g : mm_M) (u e : Int) (sh : mm_sh g u) (hn : mm_nok g) (n0 : 0 ≤ g 1 1) : ∃ y b, mm_call mX5_read [vR 7, vR 1, vR 3, vI u, vI e] g = some ([vI b], y) ∧ (∀ c i, c ≠ 32 → c ≠ 33 → y c i = g c i) ∧ ((b = 0 ∧ ¬ mm_rd g u e) ∨ (b = 1 ∧ mm_rd g u e ∧ ∀ n : Int, g 20 u = 3 * n → mm_ft g y u e n)) := by
  obtain ⟨y, y1, y2, y3⟩ := L_sread g u e none none none none 7 0 g (by omega) (by omega) (by omega) (fun _ _ _ _ => rfl) (fun p p0 p1 => by omega)
  have SH := id sh
  obtain ⟨u6, uk, z0, z60, zs⟩ := sh
  have y20 : y 20 u = g 20 u := y2 20 u (by decide) (by decide)
  rw [X5_read_c, y1, X5_read_3, if_pos (by decide), if_pos u6, y20]
  by_cases q : (g 20 u).tmod 3 = 0
  · rw [if_pos q]
    have zz : ∃ n : Int, g 20 u = 3 * n ∧ 0 ≤ n := ⟨(g 20 u) / 3, by
      rw [Int.tmod_eq_emod_of_nonneg z0] at q
      omega, by omega⟩
    obtain ⟨n, zn, nn⟩ := zz
    have L : ∀ (m : Nat) (k : Int) (o1 o2 o3 : Option mm_V) (x : mm_M), 0 ≤ k → k ≤ n → n - k ≤ m → mm_ft g x u e k → (∀ j : Int, 0 ≤ j → j < k → mm_va g u j ∧ (sE g u (3 * j + 2) = g 11 53 ∨ sE g u (3 * j + 2) = e)) → ∃ y b, mm_ev mX5_read 4 54 [some (vR 7), some (vR 1), some (vR 3), some (vI u), some (vI e), some (vI (g 20 u)), some (vI (3 * k)), o1, o2, o3] [] x = some ([vI b], y) ∧ (∀ c i, c ≠ 32 → c ≠ 33 → y c i = g c i) ∧ ((b = 0 ∧ ¬ mm_rd g u e) ∨ (b = 1 ∧ mm_rd g u e ∧ ∀ n : Int, g 20 u = 3 * n → mm_ft g y u e n)) := by
      intro m
      have fin : ∀ (k : Int) (o1 o2 o3 : Option mm_V) (x : mm_M), 0 ≤ k → k ≤ n → n ≤ k → mm_ft g x u e k → (∀ j : Int, 0 ≤ j → j < k → mm_va g u j ∧ (sE g u (3 * j + 2) = g 11 53 ∨ sE g u (3 * j + 2) = e)) → ∃ y b, mm_ev mX5_read 4 54 [some (vR 7), some (vR 1), some (vR 3), some (vI u), some (vI e), some (vI (g 20 u)), some (vI (3 * k)), o1, o2, o3] [] x = some ([vI b], y) ∧ (∀ c i, c ≠ 32 → c ≠ 33 → y c i = g c i) ∧ ((b = 0 ∧ ¬ mm_rd g u e) ∨ (b = 1 ∧ mm_rd g u e ∧ ∀ n : Int, g 20 u = 3 * n → mm_ft g y u e n)) := by
        intro k o1 o2 o3 x k0 k1 k2 fx A
        have ek : k = n := by omega
        subst ek
        refine ⟨x, 1, ?_, fx.1, Or.inr ⟨rfl, fun j j0 j1 => ⟨by omega, A j j0 (by omega)⟩, fun n' hn' => ?_⟩⟩
        · rw [X5_read_54, if_pos (by omega)]
        · have en : n' = k := by omega
          rw [en]
          exact fx
      induction m with
      | zero =>
        intro k o1 o2 o3 x k0 k1 km fx A
        exact fin k o1 o2 o3 x k0 k1 (by omega) fx A
      | succ m ih =>
        intro k o1 o2 o3 x k0 k1 km fx A
        by_cases q0 : n ≤ k
        · exact fin k o1 o2 o3 x k0 k1 q0 fx A
        · have w1 : w32 (3 * k + 1) = 3 * k + 1 := w32_id (by unfold mm_r32; omega)
          have w2 : w32 (3 * k + 2) = 3 * k + 2 := w32_id (by unfold mm_r32; omega)
          have w3 : w32 (3 * k + 3) = 3 * (k + 1) := by
            rw [w32_id (by unfold mm_r32; omega)]
            omega
          have shx : mm_sh x u := by
            have s22 : ∀ j, sE x u j = sE g u j := fun j => by
              unfold sE
              rw [fx.1 22 _ (by decide) (by decide)]
            refine ⟨u6, by rw [fx.1 19 u (by decide) (by decide)]; exact uk, by rw [fx.1 20 u (by decide) (by decide)]; exact z0, by rw [fx.1 20 u (by decide) (by decide)]; exact z60, fun j j0 j1 => ?_⟩
            rw [fx.1 20 u (by decide) (by decide)] at j1
            rw [s22]
            exact zs j j0 j1
          have x20 : x 20 u = g 20 u := fx.1 20 u (by decide) (by decide)
          have x1 : x 1 1 = g 1 1 := fx.1 1 1 (by decide) (by decide)
          have s22 : ∀ j, sE x u j = sE g u j := fun j => by
            unfold sE
            rw [fx.1 22 _ (by decide) (by decide)]
          obtain ⟨a0, b0⟩ := c_rd x u (3 * k) shx (by omega) (by omega)
          obtain ⟨a1, b1⟩ := c_rd x u (3 * k + 1) shx (by omega) (by omega)
          obtain ⟨a2, b2⟩ := c_rd x u (3 * k + 2) shx (by omega) (by omega)
          rw [s22] at a0 b0 a1 b1 a2 b2
          have no : ¬ (mm_va g u k ∧ (sE g u (3 * k + 2) = g 11 53 ∨ sE g u (3 * k + 2) = e)) → ¬ mm_rd g u e := fun w v => w (v k k0 (by omega)).2
          rw [X5_read_54, if_neg (by omega), a0, mm_be1, X5_read_68, w1, a1, mm_be1, X5_read_80, w2, a2, mm_be1, X5_read_92, b0, b1, b2, c_mayBe5, mm_be1, X5_read_105, x1]
          by_cases q2 : (0 ≤ sE g u (3 * k) ∧ sE g u (3 * k) < g 1 1) ∧ 0 ≤ sE g u (3 * k + 1) ∧ 0 ≤ sE g u (3 * k + 2) ∧ sE g u (3 * k + 2) ≤ 9
          · have v1 := zs (3 * k + 1) (by omega) (by omega)
            have g7 := hn.2.2.1
            obtain ⟨N1, N2⟩ := c_narrow g x u e k (sE g u (3 * k)) (sE g u (3 * k + 1)) (sE g u (3 * k + 2)) (by omega) (by omega) hn k0 fx rfl rfl rfl
            rw [if_pos q2, if_neg (by decide)]
            by_cases q3 : sE g u (3 * k + 2) = g 11 53 ∨ sE g u (3 * k + 2) = e
            · obtain ⟨x', d1, d2⟩ := N2 q3
              rw [d1, mm_be1, X5_read_121, if_pos (by decide), w3]
              refine ih (k + 1) _ _ _ x' (by omega) (by omega) (by omega) d2 (fun j j0 j1 => ?_)
              by_cases jk : j = k
              · rw [jk]
                exact ⟨q2, q3⟩
              · exact A j j0 (by omega)
            · rw [N1 q3, mm_be1, X5_read_121, if_neg (fun w => w rfl)]
              exact ⟨x, 0, rfl, fx.1, Or.inl ⟨rfl, no (fun w => q3 w.2)⟩⟩
          · rw [if_neg q2, if_pos rfl]
            exact ⟨x, 0, rfl, fx.1, Or.inl ⟨rfl, no (fun w => q2 w.1)⟩⟩
    have f0 : mm_ft g y u e 0 := ⟨y2, fun p p0 p7 => by
      obtain ⟨c1, c2⟩ := y3 p p0 p7
      rw [c1, c2]
      refine ⟨by omega, by omega, fun T T0 T1 => ⟨fun _ k k0 k1 => by omega, fun _ => ⟨T0, T1⟩⟩⟩⟩
    exact L 60 0 none none none y (by omega) nn (by omega) f0 (fun j j0 j1 => by omega)
  · rw [if_neg q]
    refine ⟨y, 0, rfl, y2, Or.inl ⟨rfl, fun w => ?_⟩⟩
    rw [Int.tmod_eq_emod_of_nonneg z0] at q
    have := (w (g 20 u / 3) (by omega) (by omega)).1
    omega
