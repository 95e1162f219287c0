/-! how likely posts have it right -/
def vRt (h : mm_M) (w : Int) (e : Int → Int) (tw j : Int) : Int := if tb tw (e j) = 0 then 12 * (12 - misV h w (e j) j) else 144 - misV h w (e j) j * misV h w (e j) j
theorem sq12 {m : Int} (hm : 0 ≤ m ∧ m ≤ 12) : 0 ≤ m * m ∧ m * m ≤ 144 := by
  have : m = 0 ∨ m = 1 ∨ m = 2 ∨ m = 3 ∨ m = 4 ∨ m = 5 ∨ m = 6 ∨ m = 7 ∨ m = 8 ∨ m = 9 ∨ m = 10 ∨ m = 11 ∨ m = 12 := by omega
  rcases this with rfl | rfl | rfl | rfl | rfl | rfl | rfl | rfl | rfl | rfl | rfl | rfl | rfl <;> decide
theorem vRt_b (h : mm_M) (w : Int) (e : Int → Int) (tw j : Int) : 0 ≤ vRt h w e tw j ∧ vRt h w e tw j ≤ 144 := by
  have b := misV_b h w (e j) j
  have s := sq12 b
  unfold vRt
  split <;> omega
/-- the class has weighed -/
def mm_wt (h x : mm_M) (w : Int) (e : Int → Int) (n : Int) : Prop := (x 30 0 = 144 ∧ x 31 0 = 144) ∧ (∀ j : Int, 0 ≤ j → j < n → x 29 (e j) = misV h w (e j) j ∧ x 30 (e j) = 12 * (12 - misV h w (e j) j) ∧ x 31 (e j) = 144 - misV h w (e j) j * misV h w (e j) j) ∧ ∀ p : Int, 1 ≤ p → p < 7 → (∀ j : Int, 0 ≤ j → j < n → ¬ e j = p) → x 30 p = 0 ∧ x 31 p = 0
def mm_xf (g x : mm_M) : Prop := ∀ c i, c ≠ 29 → c ≠ 30 → c ≠ 31 → c ≠ 18 → ¬ (c = 2 ∧ i = 9) → x c i = g c i
theorem mm_xf.Sm {g x : mm_M} (f : mm_xf g x) : mm_Sm g x := fun c i w => f c i (fun q => w (by unfold mm_sc; omega)) (fun q => w (by unfold mm_sc; omega)) (fun q => w (by unfold mm_sc; omega)) (fun q => w (by unfold mm_sc; omega)) (fun q => w (by unfold mm_sc; omega))
theorem c_weigh (h g : mm_M) (hI : mm_Inv h) (m : mm_Sm h g) (W : mm_WG g) (w : Int) (hw : 0 ≤ w ∧ w < 10) : ∃ x, mm_call mX1_weigh [vR 6, vR 1, vR 2, vR 4, vI w] g = some ([], x) ∧ mm_wt h x w (g 23) (g 4 0) ∧ mm_xf g x := by
  have W0 := W.1
  have W6 := W.2.1
  have g1 : g 1 1 = h 1 1 := m 1 1 (by unfold mm_sc; omega)
  have n7 := hI.1.2.1
  have ev : ∀ j : Int, 0 ≤ j → j < g 4 0 → 0 < g 23 j ∧ g 23 j < 7 := fun j j0 j1 => by
    have := (W.2.2.1 j j0 j1).1
    omega
  have L1 : ∀ (c : Nat) (k : Int) (x : mm_M), 1 ≤ k → k ≤ 7 → 7 - k ≤ c → (∀ p : Int, 1 ≤ p → p < k → x 30 p = 0 ∧ x 31 p = 0) → mm_xf g x → ∃ y, mm_ev mX1_weigh 5 3 [some (vR 6), some (vR 1), some (vR 2), some (vR 4), some (vI w), some (vI k), none, none] [] x = mm_ev mX1_weigh 5 53 [some (vR 6), some (vR 1), some (vR 2), some (vR 4), some (vI w), some (vI 0), none, none] [] y ∧ (∀ p : Int, 1 ≤ p → p < 7 → y 30 p = 0 ∧ y 31 p = 0) ∧ y 30 0 = 144 ∧ y 31 0 = 144 ∧ mm_xf g y := by
    intro c
    have fin : ∀ (x : mm_M), (∀ p : Int, 1 ≤ p → p < 7 → x 30 p = 0 ∧ x 31 p = 0) → mm_xf g x → ∃ y, mm_ev mX1_weigh 5 3 [some (vR 6), some (vR 1), some (vR 2), some (vR 4), some (vI w), some (vI 7), none, none] [] x = mm_ev mX1_weigh 5 53 [some (vR 6), some (vR 1), some (vR 2), some (vR 4), some (vI w), some (vI 0), none, none] [] y ∧ (∀ p : Int, 1 ≤ p → p < 7 → y 30 p = 0 ∧ y 31 p = 0) ∧ y 30 0 = 144 ∧ y 31 0 = 144 ∧ mm_xf g y := by
      intro x hx fx
      refine ⟨mUp (mUp x 30 0 144) 31 0 144, ?_, fun p p1 p7 => ?_, rfl, rfl, fun c i q1 q2 q3 q4 q5 => by rw [mUp_ne q3, mUp_ne q2]; exact fx c i q1 q2 q3 q4 q5⟩
      · rw [X1_weigh_3, if_pos (by decide), if_pos (by decide), if_pos (by decide)]
      · rw [mUp_ne (show (30 : Nat) ≠ 31 by decide), mUp_nei (by omega), mUp_nei (by omega), mUp_ne (show (31 : Nat) ≠ 30 by decide)]
        exact hx p p1 p7
    induction c with
    | zero =>
      intro k x k1 k7 kc hx fx
      have : k = 7 := by omega
      subst this
      exact fin x hx fx
    | succ c ih =>
      intro k x k1 k7 kc hx fx
      by_cases q : k = 7
      · subst q
        exact fin x hx fx
      · have w4 : w32 (k + 1) = k + 1 := w32_id (by unfold mm_r32; omega)
        obtain ⟨y, y1, y2⟩ := ih (k + 1) (mUp (mUp x 30 k 0) 31 k 0) (by omega) (by omega) (by omega) (fun p p1 p2 => by
          rw [mUp_ne (show (30 : Nat) ≠ 31 by decide)]
          by_cases z : p = k
          · rw [z, mUp_self, mUp_self]
            exact ⟨rfl, rfl⟩
          · rw [mUp_nei z, mUp_nei z, mUp_ne (show (31 : Nat) ≠ 30 by decide)]
            exact hx p p1 (by omega)) (fun c i q1 q2 q3 q4 q5 => by rw [mUp_ne q3, mUp_ne q2]; exact fx c i q1 q2 q3 q4 q5)
        refine ⟨y, ?_, y2⟩
        rw [X1_weigh_3, if_neg (by omega), if_pos (by omega), if_pos (by omega), w4]
        exact y1
  obtain ⟨y, e1, y1, y2, y3, y4⟩ := L1 6 1 g (by decide) (by decide) (by decide) (fun p p1 p2 => by omega) (fun _ _ _ _ _ _ _ => rfl)
  have L2 : ∀ (c : Nat) (k : Int) (o1 o2 : Option mm_V) (x : mm_M), 0 ≤ k → k ≤ g 4 0 → g 4 0 - k ≤ c → mm_wt h x w (g 23) k → mm_xf g x → ∃ z, mm_ev mX1_weigh 5 53 [some (vR 6), some (vR 1), some (vR 2), some (vR 4), some (vI w), some (vI k), o1, o2] [] x = some ([], z) ∧ mm_wt h z w (g 23) (g 4 0) ∧ mm_xf g z := by
    intro c
    have fin : ∀ (k : Int) (o1 o2 : Option mm_V) (x : mm_M), k = g 4 0 → mm_wt h x w (g 23) k → mm_xf g x → ∃ z, mm_ev mX1_weigh 5 53 [some (vR 6), some (vR 1), some (vR 2), some (vR 4), some (vI w), some (vI k), o1, o2] [] x = some ([], z) ∧ mm_wt h z w (g 23) (g 4 0) ∧ mm_xf g z := by
      intro k o1 o2 x ek hx fx
      rw [← ek]
      refine ⟨x, ?_, hx, fx⟩
      rw [X1_weigh_53, fx 4 0 (by decide) (by decide) (by decide) (by decide) (by decide), if_pos (by omega)]
    induction c with
    | zero =>
      intro k o1 o2 x k0 kn kc hx fx
      exact fin k o1 o2 x (by omega) hx fx
    | succ c ih =>
      intro k o1 o2 x k0 kn kc hx fx
      by_cases q : k = g 4 0
      · exact fin k o1 o2 x q hx fx
      · have w4 : w32 (k + 1) = k + 1 := w32_id (by unfold mm_r32; omega)
        have x4 : x 4 0 = g 4 0 := fx 4 0 (by decide) (by decide) (by decide) (by decide) (by decide)
        have x23 : x 23 k = g 23 k := fx 23 k (by decide) (by decide) (by decide) (by decide) (by omega)
        have p7 := ev k k0 (by omega)
        obtain ⟨x', m1, m2⟩ := c_mis h x hI (m.tr fx.Sm) w (g 23 k) k hw (by omega) (by omega)
        have mb := misV_b h w (g 23 k) k
        have sq := sq12 mb
        have w5 : w32 (12 * w32 (12 - misV h w (g 23 k) k)) = 12 * (12 - misV h w (g 23 k) k) := by
          rw [w32_id (x := 12 - misV h w (g 23 k) k) (by unfold mm_r32; omega), w32_id (by unfold mm_r32; omega)]
        have w6 : w32 (144 - w32 (misV h w (g 23 k) k * misV h w (g 23 k) k)) = 144 - misV h w (g 23 k) k * misV h w (g 23 k) k := by
          rw [w32_id (x := misV h w (g 23 k) k * misV h w (g 23 k) k) (by unfold mm_r32; omega), w32_id (by unfold mm_r32; omega)]
        obtain ⟨z, z1, z2⟩ := ih (k + 1) (some (vI (g 23 k))) (some (vI (misV h w (g 23 k) k))) (mUp (mUp (mUp x' 29 (g 23 k) (misV h w (g 23 k) k)) 30 (g 23 k) (12 * (12 - misV h w (g 23 k) k))) 31 (g 23 k) (144 - misV h w (g 23 k) k * misV h w (g 23 k) k)) (by omega) (by omega) (by omega) (by
          obtain ⟨a1, a2, a3⟩ := hx
          have r29 : ∀ i, x' 29 i = x 29 i := fun i => m2 29 i (by decide) (by omega)
          have r30 : ∀ i, x' 30 i = x 30 i := fun i => m2 30 i (by decide) (by omega)
          have r31 : ∀ i, x' 31 i = x 31 i := fun i => m2 31 i (by decide) (by omega)
          refine ⟨?_, fun j j0 j1 => ?_, fun p p1 p7' pj => ?_⟩
          · rw [mUp_ne (show (30 : Nat) ≠ 31 by decide), mUp_nei (by omega), mUp_ne (show (30 : Nat) ≠ 29 by decide), mUp_nei (by omega), mUp_ne (show (31 : Nat) ≠ 30 by decide), mUp_ne (show (31 : Nat) ≠ 29 by decide), r30, r31]
            exact a1
          · rw [mUp_ne (show (29 : Nat) ≠ 31 by decide), mUp_ne (show (29 : Nat) ≠ 30 by decide), mUp_ne (show (30 : Nat) ≠ 31 by decide)]
            by_cases jk : j = k
            · rw [jk, mUp_self, mUp_self, mUp_self]
              exact ⟨rfl, rfl, rfl⟩
            · have ne : ¬ g 23 j = g 23 k := WG_d W j0 (by omega) (by omega)
              rw [mUp_nei ne, mUp_nei ne, mUp_nei ne, mUp_nei ne, mUp_nei ne, mUp_nei ne, r29, r30, r31]
              exact a2 j j0 (by omega)
          · have ne : ¬ p = g 23 k := fun z => pj k k0 (by omega) z.symm
            rw [mUp_ne (show (30 : Nat) ≠ 31 by decide), mUp_nei ne, mUp_ne (show (30 : Nat) ≠ 29 by decide), mUp_nei ne, mUp_ne (show (31 : Nat) ≠ 30 by decide), mUp_ne (show (31 : Nat) ≠ 29 by decide), r30, r31]
            exact a3 p p1 p7' (fun j j0 j1 => pj j j0 (by omega))) (fun c i q1 q2 q3 q4 q5 => by
          rw [mUp_ne q3, mUp_ne q2, mUp_ne q1, m2 c i q4 q5]
          exact fx c i q1 q2 q3 q4 q5)
        refine ⟨z, ?_, z2⟩
        rw [X1_weigh_53, x4, if_neg (by omega), if_pos (by omega), x23, m1, mm_be1, X1_weigh_82, if_pos (by omega), if_pos (by omega), if_pos (by omega), w4, w5, w6]
        exact z1
  obtain ⟨z, z1, z2, z3⟩ := L2 6 0 none none y (by decide) W0 (by omega) ⟨⟨y2, y3⟩, fun j j0 j1 => by omega, fun p p1 p7 _ => y1 p p1 p7⟩ y4
  refine ⟨z, ?_, z2, z3⟩
  rw [X1_weigh_c, e1]
  exact z1
theorem c_ofOne (x : mm_M) (p tw : Int) (hp : 0 ≤ p ∧ p < 7) : mm_call mX1_ofOne [vR 6, vI p, vI tw] x = some ([vI (if tb tw p = 0 then x 30 p else x 31 p)], x) := by
  rw [X1_ofOne_c]
  by_cases q : tb tw p = 0
  · rw [if_pos (show iAnd (iShr tw p) 1 = 0 from q), if_pos hp, if_pos q]
  · rw [if_neg (show ¬ iAnd (iShr tw p) 1 = 0 from q), if_pos hp, if_neg q]
theorem c_ofE {h x : mm_M} {w : Int} {e : Int → Int} {n tw j : Int} (wt : mm_wt h x w e n) (j0 : 0 ≤ j) (j1 : j < n) (hp : 0 ≤ e j ∧ e j < 7) : mm_call mX1_ofOne [vR 6, vI (e j), vI tw] x = some ([vI (vRt h w e tw j)], x) := by
  rw [c_ofOne x _ tw hp]
  obtain ⟨a, b, c⟩ := wt.2.1 j j0 j1
  unfold vRt
  by_cases q : tb tw (e j) = 0
  · rw [if_pos q, if_pos q, b]
  · rw [if_neg q, if_neg q, c]
theorem c_ofAll (h x : mm_M) (w : Int) (e : Int → Int) (n tw : Int) (wt : mm_wt h x w e n) (n0 : 0 ≤ n ∧ n ≤ 6) (x4 : x 4 0 = n) (x23 : ∀ j : Int, 0 ≤ j → j < n → x 23 j = e j ∧ 0 ≤ e j ∧ e j < 7) : mm_call mX1_ofAll [vR 6, vR 4, vI tw] x = some ([vL (prN (vRt h w e tw) n.toNat)], x) := by
  have L : ∀ (c : Nat) (k : Int), 0 ≤ k → k ≤ n → n - k ≤ c → mm_ev mX1_ofAll 2 5 [some (vR 6), some (vR 4), some (vI tw), some (vL (prN (vRt h w e tw) k.toNat)), none, some (vI k)] [] x = some ([vL (prN (vRt h w e tw) n.toNat)], x) := by
    intro c
    induction c with
    | zero =>
      intro k k0 kn kc
      rw [X1_ofAll_5, x4, if_pos (by omega), show k = n from by omega]
    | succ c ih =>
      intro k k0 kn kc
      by_cases q : n ≤ k
      · rw [X1_ofAll_5, x4, if_pos q, show k = n from by omega]
      · have w4 : w32 (k + 1) = k + 1 := w32_id (by unfold mm_r32; omega)
        obtain ⟨e1, e2⟩ := x23 k k0 (by omega)
        have pb := prN_6 (A := vRt h w e tw) (k + 1).toNat (by omega) (fun i i0 i1 => vRt_b h w e tw i)
        have w5 : w64 (prN (vRt h w e tw) k.toNat * vRt h w e tw k) = prN (vRt h w e tw) (k + 1).toNat := by
          rw [← prN_s k0, w64_id (by unfold mm_r64; omega)]
        rw [X1_ofAll_5, x4, if_neg q, if_pos (by omega), e1, c_ofE wt k0 (by omega) e2, mm_be1, X1_ofAll_27, w4, w5]
        exact ih (k + 1) (by omega) (by omega) (by omega)
  rw [X1_ofAll_c]
  exact L 6 0 (by decide) n0.1 (by omega)
theorem c_below (x : mm_M) (n : Int) (n0 : 0 ≤ n ∧ n ≤ 6) (x4 : x 4 0 = n) : mm_call mX1_belowAll [vR 6, vR 4] x = some ([vL (prN (fun _ => 144) n.toNat)], x) := by
  have L : ∀ (c : Nat) (k : Int), 0 ≤ k → k ≤ n → n - k ≤ c → mm_ev mX1_belowAll 1 5 [some (vR 6), some (vR 4), some (vL (prN (fun _ => 144) k.toNat)), none, some (vI k)] [] x = some ([vL (prN (fun _ => 144) n.toNat)], x) := by
    intro c
    induction c with
    | zero =>
      intro k k0 kn kc
      rw [X1_belowAll_5, x4, if_pos (by omega), show k = n from by omega]
    | succ c ih =>
      intro k k0 kn kc
      by_cases q : n ≤ k
      · rw [X1_belowAll_5, x4, if_pos q, show k = n from by omega]
      · have w4 : w32 (k + 1) = k + 1 := w32_id (by unfold mm_r32; omega)
        have pb := prN_6 (A := fun _ => 144) (k + 1).toNat (by omega) (fun i i0 i1 => by decide)
        have w5 : w64 (prN (fun _ => 144) k.toNat * 144) = prN (fun _ => 144) (k + 1).toNat := by
          have e := prN_s (A := fun _ => 144) k0
          rw [e] at pb ⊢
          exact w64_id (by unfold mm_r64; omega)
        rw [X1_belowAll_5, x4, if_neg q, w4, w5]
        exact ih (k + 1) (by omega) (by omega) (by omega)
  rw [X1_belowAll_c]
  exact L 6 0 (by decide) n0.1 (by omega)
theorem c_mean (h x : mm_M) (w : Int) (e : Int → Int) (n tw : Int) (wt : mm_wt h x w e n) (n0 : 0 ≤ n ∧ n ≤ 6) (x4 : x 4 0 = n) (x23 : ∀ j : Int, 0 ≤ j → j < n → x 23 j = e j ∧ 0 ≤ e j ∧ e j < 7) : mm_call mX1_together [vR 6, vR 4, vI tw] x = some ([vI (sm (vRt h w e tw) n.toNat)], x) := by
  have L : ∀ (c : Nat) (k : Int), 0 ≤ k → k ≤ n → n - k ≤ c → mm_ev mX1_together 2 5 [some (vR 6), some (vR 4), some (vI tw), some (vI (sm (vRt h w e tw) k.toNat)), some (vI k)] [] x = some ([vI (sm (vRt h w e tw) n.toNat)], x) := by
    intro c
    induction c with
    | zero =>
      intro k k0 kn kc
      rw [X1_together_5, x4, if_pos (by omega), show k = n from by omega]
    | succ c ih =>
      intro k k0 kn kc
      by_cases q : n ≤ k
      · rw [X1_together_5, x4, if_pos q, show k = n from by omega]
      · have w4 : w32 (k + 1) = k + 1 := w32_id (by unfold mm_r32; omega)
        obtain ⟨e1, e2⟩ := x23 k k0 (by omega)
        have sb := sm_b (A := vRt h w e tw) (c := 144) k.toNat (fun i i0 i1 => vRt_b h w e tw i)
        have vb := vRt_b h w e tw k
        have w5 : w32 (sm (vRt h w e tw) k.toNat + vRt h w e tw k) = sm (vRt h w e tw) (k + 1).toNat := by
          rw [sm_s k0, w32_id (by unfold mm_r32; omega)]
        rw [X1_together_5, x4, if_neg q, if_pos (by omega), e1, c_ofE wt k0 (by omega) e2, mm_be1, X1_together_27, w4, w5]
        exact ih (k + 1) (by omega) (by omega) (by omega)
  rw [X1_together_c]
  exact L 6 0 (by decide) n0.1 (by omega)
/-! the reference -/
def mm_rr (h f : mm_M) (w : Int) (e : Int → Int) (n : Int) : Prop := mm_S11 h f w ∧ f 47 35 = n ∧ ∀ j : Int, 0 ≤ j → j < n → f 68 j = e j
def mm_rx (f f' : mm_M) : Prop := ∀ c, c ≠ 66 → c ≠ 67 → f' c = f c
theorem mm_rx.rf {f : mm_M} : mm_rx f f := fun _ _ _ => rfl
theorem mm_rx.tr {a b c : mm_M} (x : mm_rx a b) (y : mm_rx b c) : mm_rx a c := fun k q1 q2 => (y k q1 q2).trans (x k q1 q2)
theorem mm_rr.fr {h f f' : mm_M} {w : Int} {e : Int → Int} {n : Int} (z : mm_rr h f w e n) (x : mm_rx f f') : mm_rr h f' w e n := by
  obtain ⟨⟨z1, z2⟩, z3, z4⟩ := z
  refine ⟨⟨fun c k q1 q2 => ?_, by rw [x 47 (by decide) (by decide)]; exact z2⟩, by rw [x 47 (by decide) (by decide)]; exact z3, fun j j0 j1 => by rw [x 68 (by decide) (by decide)]; exact z4 j j0 j1⟩
  rw [x c (fun q => q1 (by unfold mm_sc; omega)) (fun q => q1 (by unfold mm_sc; omega))]
  exact z1 c k q1 q2
theorem s_rightOf (h f : mm_M) (hI : mm_Inv h) (w : Int) (e : Int → Int) (n tw j : Int) (R : mm_rr h f w e n) (hw : 0 ≤ w ∧ w < 10) (n6 : n ≤ 6) (j0 : 0 ≤ j) (j1 : j < n) (he : 0 ≤ e j ∧ e j < 7) (ht : 0 ≤ tw ∧ tw < 128) : ∃ f', mm_call mX10_rightOf [vR 47, vI j, vI tw] f = some ([vL (vRt h w e tw j)], f') ∧ mm_rx f f' := by
  obtain ⟨R1, R2, R3⟩ := R
  obtain ⟨f', a1, a2⟩ := s_mis h f hI w (e j) j R1 hw he (by omega)
  have mb := misV_b h w (e j) j
  have sq := sq12 mb
  have w5 : w32 (12 * w32 (12 - misV h w (e j) j)) = 12 * (12 - misV h w (e j) j) := by
    rw [w32_id (x := 12 - misV h w (e j) j) (by unfold mm_r32; omega), w32_id (by unfold mm_r32; omega)]
  have w6 : w32 (144 - w32 (misV h w (e j) j * misV h w (e j) j)) = 144 - misV h w (e j) j * misV h w (e j) j := by
    rw [w32_id (x := misV h w (e j) j * misV h w (e j) j) (by unfold mm_r32; omega), w32_id (by unfold mm_r32; omega)]
  have t := (tb_s (u := tw) (p := e j) (q := e j) ht he he).2.2
  refine ⟨f', ?_, a2⟩
  rw [X10_rightOf_c, if_pos (by omega), R3 j j0 j1, a1, mm_be1, X10_rightOf_13, w5, w6]
  unfold vRt
  by_cases q : tb tw (e j) = 0
  · rw [if_pos (show ¬ iAnd (iShr tw (e j)) 1 = 1 from fun z => by have z : tb tw (e j) = 1 := z; omega), if_pos q]
  · rw [if_neg (show ¬ ¬ iAnd (iShr tw (e j)) 1 = 1 from fun z => z (show tb tw (e j) = 1 by omega)), if_neg q]
theorem s_rightAll (h : mm_M) (hI : mm_Inv h) (w : Int) (e : Int → Int) (n tw : Int) (hw : 0 ≤ w ∧ w < 10) (n0 : 0 ≤ n ∧ n ≤ 6) (he : ∀ j : Int, 0 ≤ j → j < n → 0 ≤ e j ∧ e j < 7) (ht : 0 ≤ tw ∧ tw < 128) (f : mm_M) (R : mm_rr h f w e n) : ∃ f', mm_call mX10_rightAll [vR 47, vI tw] f = some ([vL (prN (vRt h w e tw) n.toNat)], f') ∧ mm_rx f f' := by
  have L : ∀ (c : Nat) (k : Int) (x : mm_M), 0 ≤ k → k ≤ n → n - k ≤ c → mm_rx f x → ∃ f', mm_ev mX10_rightAll 6 5 [some (vR 47), some (vI tw), some (vL (prN (vRt h w e tw) k.toNat)), none, some (vI k)] [] x = some ([vL (prN (vRt h w e tw) n.toNat)], f') ∧ mm_rx f f' := by
    intro c
    induction c with
    | zero =>
      intro k x k0 kn kc fx
      refine ⟨x, ?_, fx⟩
      rw [X10_rightAll_5, (R.fr fx).2.1, if_pos (by omega), show k = n from by omega]
    | succ c ih =>
      intro k x k0 kn kc fx
      have Rx := R.fr fx
      by_cases q : n ≤ k
      · refine ⟨x, ?_, fx⟩
        rw [X10_rightAll_5, Rx.2.1, if_pos q, show k = n from by omega]
      · have w4 : w32 (k + 1) = k + 1 := w32_id (by unfold mm_r32; omega)
        obtain ⟨x', a1, a2⟩ := s_rightOf h x hI w e n tw k Rx hw n0.2 k0 (by omega) (he k k0 (by omega)) ht
        have pb := prN_6 (A := vRt h w e tw) (k + 1).toNat (by omega) (fun i i0 i1 => vRt_b h w e tw i)
        have w5 : w64 (prN (vRt h w e tw) k.toNat * vRt h w e tw k) = prN (vRt h w e tw) (k + 1).toNat := by
          rw [← prN_s k0, w64_id (by unfold mm_r64; omega)]
        rw [X10_rightAll_5, Rx.2.1, if_neg q, a1, mm_be1, X10_rightAll_22, w4, w5]
        exact ih (k + 1) x' (by omega) (by omega) (by omega) (fx.tr a2)
  rw [X10_rightAll_c]
  exact L 6 0 f (by decide) n0.1 (by omega) mm_rx.rf
theorem s_ofAll (f : mm_M) (n : Int) (n0 : 0 ≤ n ∧ n ≤ 6) (x4 : f 47 35 = n) : mm_call mX10_ofAll [vR 47] f = some ([vL (prN (fun _ => 144) n.toNat)], f) := by
  have L : ∀ (c : Nat) (k : Int), 0 ≤ k → k ≤ n → n - k ≤ c → mm_ev mX10_ofAll 1 4 [some (vR 47), some (vL (prN (fun _ => 144) k.toNat)), none, some (vI k)] [] f = some ([vL (prN (fun _ => 144) n.toNat)], f) := by
    intro c
    induction c with
    | zero =>
      intro k k0 kn kc
      rw [X10_ofAll_4, x4, if_pos (by omega), show k = n from by omega]
    | succ c ih =>
      intro k k0 kn kc
      by_cases q : n ≤ k
      · rw [X10_ofAll_4, x4, if_pos q, show k = n from by omega]
      · have w4 : w32 (k + 1) = k + 1 := w32_id (by unfold mm_r32; omega)
        have pb := prN_6 (A := fun _ => 144) (k + 1).toNat (by omega) (fun i i0 i1 => by decide)
        have w5 : w64 (prN (fun _ => 144) k.toNat * 144) = prN (fun _ => 144) (k + 1).toNat := by
          have e := prN_s (A := fun _ => 144) k0
          rw [e] at pb ⊢
          exact w64_id (by unfold mm_r64; omega)
        rw [X10_ofAll_4, x4, if_neg q, w4, w5]
        exact ih (k + 1) (by omega) (by omega) (by omega)
  rw [X10_ofAll_c]
  exact L 6 0 (by decide) n0.1 (by omega)
