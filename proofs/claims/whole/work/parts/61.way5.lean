/-! the way: cleared, one post further -/
theorem L_clear5 : ∀ (m : Nat) (k : Int) (h : mm_M), 0 ≤ k → 7 - k ≤ m → ∃ g, mm_ev mX8_clear 1 7 [some (vR 5), some (vI k)] [] h = some ([], g) ∧ (∀ c, c ≠ 27 → g c = h c) ∧ (∀ p, k ≤ p → p < 7 → g 27 p = -1) ∧ ∀ p, p < k → g 27 p = h 27 p := by
  intro m
  induction m with
  | zero =>
    intro k h k0 hm
    refine ⟨h, ?_, fun _ _ => rfl, fun p a b => ?_, fun _ _ => rfl⟩
    · rw [X8b_clear_7, if_pos (by omega)]
    · omega
  | succ m ih =>
    intro k h k0 hm
    by_cases z : 7 ≤ k
    · refine ⟨h, ?_, fun _ _ => rfl, fun p a b => ?_, fun _ _ => rfl⟩
      · rw [X8b_clear_7, if_pos z]
      · omega
    · have w4 : w32 (k + 1) = k + 1 := w32_id (by unfold mm_r32; omega)
      obtain ⟨g, e1, e2, e3, e4⟩ := ih (k + 1) (mUp h 27 k (-1)) (by omega) (by omega)
      refine ⟨g, ?_, fun c hc => ?_, fun p a b => ?_, fun p hp => ?_⟩
      · rw [X8b_clear_7, if_neg z, w4, if_pos (by omega)]
        exact e1
      · rw [e2 c hc, mUp_ne hc]
      · by_cases q : p = k
        · rw [q, e4 k (by omega), mUp_self]
        · exact e3 p (by omega) b
      · rw [e4 p (by omega), mUp_nei (by omega)]
theorem c_clear5 (h : mm_M) : ∃ g, mm_call mX8_clear [vR 5] h = some ([], g) ∧ (∀ c i, c ≠ 27 → ¬ (c = 5 ∧ i = 0) → g c i = h c i) ∧ g 5 0 = 0 ∧ ∀ p, 0 ≤ p → p < 7 → g 27 p = -1 := by
  obtain ⟨g, e1, e2, e3, e4⟩ := L_clear5 7 0 (mUp h 5 0 0) (by omega) (by omega)
  refine ⟨g, by rw [X8b_clear_c]; exact e1, fun c i q1 q2 => ?_, ?_, e3⟩
  · rw [e2 c q1, mUp_at, if_neg q2]
  · rw [e2 5 (by decide)]
    rfl
/-- where the way stands, and when it left there -/
def wAt5 (h : mm_M) : Int := if h 5 0 = 0 then 0 else h 26 (h 5 0 - 1)
def wOff5 (h : mm_M) : Int := if h 5 0 = 0 then 0 else h 28 (wAt5 h) + 1
theorem c_goTo5 (h : mm_M) (p : Int) (hp : 0 ≤ p ∧ p < 7) (n : 0 ≤ h 5 0 ∧ h 5 0 < 6) (ha : 0 ≤ wAt5 h ∧ wAt5 h < 7) (ho : 0 ≤ wOff5 h ∧ wOff5 h ≤ 10000) (hb : ∀ i : Int, 0 ≤ i → i < 14 → 0 ≤ h 11 i ∧ h 11 i ≤ 99) : mm_call mX8_goTo [vR 5, vR 1, vI p] h = some ([], mUp (mUp (mUp (mUp h 28 p (wOff5 h + wDi h (wAt5 h) p)) 27 p (h 5 0)) 26 (h 5 0) p) 5 0 (h 5 0 + 1)) := by
  have d : 0 ≤ wDi h (wAt5 h) p ∧ wDi h (wAt5 h) p ≤ 198 := by
    obtain ⟨a1, a2, a3, a4⟩ := dd_w (hb (wAt5 h) ha.1 (by omega)) (hb p hp.1 (by omega))
    obtain ⟨b1, b2, b3, b4⟩ := dd_w (hb (7 + wAt5 h) (by omega) (by omega)) (hb (7 + p) (by omega) (by omega))
    unfold wDi
    omega
  have w1 : w32 (wOff5 h + wDi h (wAt5 h) p) = wOff5 h + wDi h (wAt5 h) p := w32_id (by unfold mm_r32; omega)
  have w2 : w32 (h 5 0 + 1) = h 5 0 + 1 := w32_id (by unfold mm_r32; omega)
  have e : mm_ev mX8_goTo 3 22 [some (vR 5), some (vR 1), some (vI p), none] [vI (wAt5 h)] h = some ([], mUp (mUp (mUp (mUp h 28 p (wOff5 h + wDi h (wAt5 h) p)) 27 p (h 5 0)) 26 (h 5 0) p) 5 0 (h 5 0 + 1)) := by
    have t : mm_ev mX8_goTo 3 53 [some (vR 5), some (vR 1), some (vI p), some (vI (wAt5 h))] [vI (wDi h (wAt5 h) p), vI (wOff5 h), vI p, vR 28] h = some ([], mUp (mUp (mUp (mUp h 28 p (wOff5 h + wDi h (wAt5 h) p)) 27 p (h 5 0)) 26 (h 5 0) p) 5 0 (h 5 0 + 1)) := by
      refine (X8b_goTo_53 _ _ _ _ _ _).trans ?_
      rw [w1, if_pos hp, if_pos hp]
      show (if 0 ≤ h 5 0 ∧ h 5 0 < 6 then some ([], mUp (mUp (mUp (mUp h 28 p (wOff5 h + wDi h (wAt5 h) p)) 27 p (h 5 0)) 26 (h 5 0) p) 5 0 (w32 (h 5 0 + 1))) else none) = _
      rw [if_pos n, w2]
    rw [X8b_goTo_22]
    by_cases z : h 5 0 = 0
    · rw [if_neg (fun w => w z), c_apart h _ _ ha hp hb, mm_bs]
      have o : wOff5 h = 0 := by unfold wOff5; rw [if_pos z]
      rw [o] at t ⊢
      exact t
    · have o : h 28 (wAt5 h) + 1 = wOff5 h := by unfold wOff5; rw [if_neg z]
      have w3 : w32 (h 28 (wAt5 h) + 1) = wOff5 h := by rw [o]; exact w32_id (by unfold mm_r32; omega)
      rw [if_pos z, if_pos ha, c_apart h _ _ ha hp hb, mm_bs, w3]
      exact t
  rw [X8b_goTo_c]
  by_cases z : h 5 0 = 0
  · rw [if_neg (fun w => w z)]
    have a : wAt5 h = 0 := by unfold wAt5; rw [if_pos z]
    rw [a] at e ⊢
    exact e
  · have a : wAt5 h = h 26 (h 5 0 - 1) := by unfold wAt5; rw [if_neg z]
    have w3 : w32 (h 5 0 - 1) = h 5 0 - 1 := w32_id (by unfold mm_r32; omega)
    rw [if_pos z, w3, if_pos (by omega), ← a]
    exact e

def mm_WG5 (g : mm_M) : Prop := 0 ≤ g 5 0 ∧ g 5 0 ≤ 6 ∧ (∀ j : Int, 0 ≤ j → j < g 5 0 → (0 < g 26 j ∧ g 26 j < g 1 1) ∧ g 27 (g 26 j) = j ∧ g 28 (g 26 j) = ar (wDi g) (g 26) j) ∧ ∀ p : Int, 0 ≤ p → p < 7 → (∀ j : Int, 0 ≤ j → j < g 5 0 → ¬ g 26 j = p) → g 27 p = -1
/-- minutes behind AT; 1000000: never -/
def bh5 (g : mm_M) (p : Int) : Int := if p = 0 then 0 else if 0 ≤ g 27 p then g 28 p else 1000000
theorem WG_d5 {g : mm_M} (z : mm_WG5 g) {i j : Int} (i0 : 0 ≤ i) (ij : i < j) (j1 : j < g 5 0) : ¬ g 26 i = g 26 j := fun w => by
  have a := (z.2.2.1 i i0 (by omega)).2.1
  have b := (z.2.2.1 j (by omega) j1).2.1
  rw [w] at a
  omega
theorem WG_in5 {g : mm_M} (z : mm_WG5 g) {p : Int} (p0 : 0 ≤ p) (p7 : p < 7) (w : 0 ≤ g 27 p) : g 27 p < g 5 0 ∧ g 26 (g 27 p) = p := by
  apply Classical.byContradiction
  intro q
  have : g 27 p = -1 := z.2.2.2 p p0 p7 (fun j j0 j1 e => by
    have t := (z.2.2.1 j j0 j1).2.1
    rw [e] at t
    exact q (by rw [t]; exact ⟨j1, e⟩))
  omega
theorem bh_at5 {g : mm_M} (z : mm_WG5 g) {j : Int} (j0 : 0 ≤ j) (j1 : j < g 5 0) : bh5 g (g 26 j) = ar (wDi g) (g 26) j := by
  obtain ⟨⟨a, b⟩, c, d⟩ := z.2.2.1 j j0 j1
  unfold bh5
  rw [if_neg (by omega), if_pos (by omega), d]
theorem WG_ab5 {g : mm_M} (z : mm_WG5 g) (n7 : g 1 1 ≤ 7) (hb : ∀ i : Int, 0 ≤ i → i < 14 → 0 ≤ g 11 i ∧ g 11 i ≤ 99) {j : Int} (j0 : 0 ≤ j) (j1 : j < g 5 0) : 0 ≤ ar (wDi g) (g 26) j ∧ ar (wDi g) (g 26) j ≤ 1392 := by
  have := ar_b (d := wDi g) (e := g 26) (fun p q p0 p1 q0 q1 => wDi_b ⟨p0, p1⟩ ⟨q0, q1⟩ hb) j.toNat (fun i i0 i1 => by
    have := (z.2.2.1 i i0 (by omega)).1
    omega)
  rw [show ((j.toNat : Nat) : Int) = j from by omega] at this
  have := z.2.1
  omega
theorem bh_b5 {g : mm_M} (z : mm_WG5 g) (n7 : g 1 1 ≤ 7) (hb : ∀ i : Int, 0 ≤ i → i < 14 → 0 ≤ g 11 i ∧ g 11 i ≤ 99) {p : Int} (p0 : 0 ≤ p) (p7 : p < 7) : bh5 g p = 1000000 ∨ (0 ≤ bh5 g p ∧ bh5 g p ≤ 1392) := by
  by_cases w : p = 0
  · right
    unfold bh5
    rw [if_pos w]
    omega
  · by_cases q : 0 ≤ g 27 p
    · right
      obtain ⟨a, b⟩ := WG_in5 z p0 p7 q
      have t := bh_at5 z q a
      rw [b] at t
      have := WG_ab5 z n7 hb q a
      omega
    · left
      unfold bh5
      rw [if_neg w, if_neg q]

/-! who hears when, who is let in, by a way -/
theorem c_hearing5 (g : mm_M) (p : Int) (hp : 0 ≤ p ∧ p < 7) (hb : mm_bok (bh5 g p)) (ha : 0 ≤ g 11 55 ∧ g 11 55 ≤ 999) : mm_call mX8_hearing [vR 5, vR 1, vI p] g = some ([vI (cT (bh5 g p) (g 11 55))], g) := by
  have e : mm_call mX8_behindStart [vR 5, vI p] g = some ([vI (bh5 g p)], g) := by
    unfold bh5
    rw [X8b_behindStart_c]
    by_cases q : p = 0
    · rw [if_neg (fun w => w q), if_pos q]
    · rw [if_pos q, if_neg q, if_pos hp]
      by_cases q2 : 0 ≤ g 27 p
      · rw [if_pos q2, if_pos q2, if_pos hp]
      · rw [if_neg q2, if_neg q2]
  rw [X8b_hearing_c, e, mm_bs]
  refine (X8b_hearing_5 _ _ _).trans ?_
  by_cases q : bh5 g p = 1000000
  · rw [if_neg (fun w => w q), cT1 q]
  · rw [if_pos q, c_at, mm_bs, cT2 q]
    refine (X8b_hearing_23 _ _ _ _).trans ?_
    have w1 : w32 (g 11 55 + bh5 g p) = g 11 55 + bh5 g p := w32_id (by unfold mm_r32; omega)
    exact congrArg (fun v => some ([vI v], g)) w1
theorem c_admits5 (g : mm_M) (p m w e : Int) (hp : 0 ≤ p ∧ p < 7) (hb : mm_bok (bh5 g p)) (hn : mm_nok g) : mm_call mX8_admits [vR 5, vR 1, vI p, vI m, vI w, vI e] g = some ([vI (if cLet (cT (bh5 g p) (g 11 55)) (g 11 53) e (g 11 56) m w then 1 else 0)], g) := by
  obtain ⟨n1, n2, n3⟩ := hn
  rw [X8b_admits_c, c_hearing5 g p hp hb n1, mm_bs]
  refine (X8b_admits_6 _ _ _ _ _ _).trans ?_
  have hT : ∃ T, T = cT (bh5 g p) (g 11 55) := ⟨_, rfl⟩
  obtain ⟨T, hT⟩ := hT
  have bT : 0 ≤ T ∧ T ≤ 1000000 := by
    rw [hT]
    exact cT_b hb n1
  rw [← hT, c_old, mm_bs]
  refine (X8b_admits_16 _ _ _ _ _ _ _ _).trans ?_
  have w1 : w32 (T + g 11 56) = T + g 11 56 := w32_id (by unfold mm_r32; omega)
  have e34 : ∀ (q : ¬ (w = g 11 53 ∧ m < T + g 11 56)), mm_ev mX8_admits 3 34 [some (vR 5), some (vR 1), some (vI p), some (vI m), some (vI w), some (vI e), some (vI T)] [] g = some ([vI (if cLet T (g 11 53) e (g 11 56) m w then 1 else 0)], g) := fun q => by
    rw [X8b_admits_34]
    by_cases q1 : w = e
    · rw [if_neg (fun z => z q1)]
      by_cases q2 : m < T
      · rw [if_pos q2, if_neg (by omega)]
      · rw [if_neg q2, if_pos (by omega)]
    · rw [if_pos q1, if_neg (by omega)]
  by_cases q : w = g 11 53
  · rw [if_neg (fun z => z q), c_holds, mm_bs]
    refine (X8b_admits_28 _ _ _ _ _ _ _ _ _).trans ?_
    rw [w1]
    by_cases q2 : T + g 11 56 ≤ m
    · rw [if_pos q2]
      exact e34 (by omega)
    · rw [if_neg q2, if_pos (by omega)]
  · rw [if_pos q]
    exact e34 (by omega)
abbrev cGo5 (g : mm_M) (k e : Int) : Prop := g 11 (49 + k) < g 1 1 ∧ cLet (cT (bh5 g (g 11 (49 + k))) (g 11 55)) (g 11 53) e (g 11 56) (g 11 (45 + k)) (kn g k)
theorem c_goesIn5 (g : mm_M) (k e : Int) (hk : 0 ≤ k ∧ k < 4) (hb : ∀ p : Int, 0 ≤ p → p < 7 → mm_bok (bh5 g p)) (hn : mm_nok g) : mm_call mX8_goesIn [vR 5, vR 1, vI k, vI e] g = some ([vI (if cGo5 g k e then 1 else 0)], g) := by
  obtain ⟨n1, n2, n3, n4, n5⟩ := id hn
  obtain ⟨m1, m2, m3, m4⟩ := n5 k hk.1 hk.2
  rw [X8b_goesIn_c, g_by g k hk, mm_bs]
  refine (X8b_goesIn_7 _ _ _ _).trans ?_
  rw [c_isPost, mm_bs]
  refine (X8b_goesIn_15 _ _ _ _ _).trans ?_
  by_cases q : g 11 (49 + k) < g 1 1
  · rw [if_pos (⟨m3, q⟩ : 0 ≤ g 11 (49 + k) ∧ g 11 (49 + k) < g 1 1), if_neg (by decide), g_home g k hk, mm_bs]
    refine (X8b_goesIn_29 _ _ _ _ _ _).trans ?_
    rw [c_known g k hk, mm_bs]
    refine (X8b_goesIn_34 _ _ _ _ _ _ _).trans ?_
    rw [c_admits5 g _ _ _ _ ⟨m3, by omega⟩ (hb _ m3 (by omega)) hn, mm_bs]
    refine (X8b_goesIn_38 _ _ _ _ _).trans ?_
    by_cases q2 : cLet (cT (bh5 g (g 11 (49 + k))) (g 11 55)) (g 11 53) e (g 11 56) (g 11 (45 + k)) (kn g k)
    · rw [if_pos q2, if_neg (by decide), if_pos ⟨q, q2⟩]
    · rw [if_neg q2, if_pos rfl, if_neg (fun w => q2 w.2)]
  · rw [if_neg (fun w : 0 ≤ g 11 (49 + k) ∧ g 11 (49 + k) < g 1 1 => q w.2), if_pos rfl, if_neg (fun w => q w.1)]
def cPat5 (g : mm_M) (mis k : Int) : Int := if cGo5 g k (if iAnd (iShr mis (g 11 (49 + k))) 1 = 0 then g 11 54 else g 11 (31 + g 11 54)) then 1 else 0
theorem L_pat5 (g : mm_M) (mis a k : Int) (o : Option mm_V) (hk : 0 ≤ k ∧ k < 4) (ha : 0 ≤ a ∧ a ≤ k) (hb : ∀ p : Int, 0 ≤ p → p < 7 → mm_bok (bh5 g p)) (hn : mm_nok g) : (∃ o', mm_ev mX8_patrolsIn 5 21 [some (vR 5), some (vR 1), some (vI mis), some (vI (g 11 54)), some (vI (g 11 (31 + g 11 54))), some (vI a), some (vI k), o] [] g = mm_ev mX8_patrolsIn 5 21 [some (vR 5), some (vR 1), some (vI mis), some (vI (g 11 54)), some (vI (g 11 (31 + g 11 54))), some (vI (a + cPat5 g mis k)), some (vI (k + 1)), o'] [] g) ∧ 0 ≤ cPat5 g mis k ∧ cPat5 g mis k ≤ 1 := by
  have w1 : w32 (k + 1) = k + 1 := w32_id (by unfold mm_r32; omega)
  have w2 : w32 (a + 1) = a + 1 := w32_id (by unfold mm_r32; omega)
  have b : 0 ≤ cPat5 g mis k ∧ cPat5 g mis k ≤ 1 := by
    unfold cPat5
    split <;> omega
  refine ⟨?_, b⟩
  rw [X8b_patrolsIn_21, if_neg (by omega), g_by g k hk, mm_bs]
  have key : ∀ s0 : Int, (s0 = 0 ∨ s0 = 1) → (s0 = 0 ↔ iAnd (iShr mis (g 11 (49 + k))) 1 = 0) → ∃ o', mm_ev mX8_patrolsIn 5 47 [some (vR 5), some (vR 1), some (vI mis), some (vI (g 11 54)), some (vI (g 11 (31 + g 11 54))), some (vI a), some (vI k), o] [vI s0] g = mm_ev mX8_patrolsIn 5 21 [some (vR 5), some (vR 1), some (vI mis), some (vI (g 11 54)), some (vI (g 11 (31 + g 11 54))), some (vI (a + cPat5 g mis k)), some (vI (k + 1)), o'] [] g := by
    intro s0 _ h2
    have fin : ∀ e : Int, e = (if iAnd (iShr mis (g 11 (49 + k))) 1 = 0 then g 11 54 else g 11 (31 + g 11 54)) → (mm_call mX8_goesIn [vR 5, vR 1, vI k, vI e] g).bind (fun w => mm_ev mX8_patrolsIn 5 67 [some (vR 5), some (vR 1), some (vI mis), some (vI (g 11 54)), some (vI (g 11 (31 + g 11 54))), some (vI a), some (vI k), some (vI s0)] (w.1 ++ []) w.2) = mm_ev mX8_patrolsIn 5 21 [some (vR 5), some (vR 1), some (vI mis), some (vI (g 11 54)), some (vI (g 11 (31 + g 11 54))), some (vI (a + cPat5 g mis k)), some (vI (k + 1)), some (vI s0)] [] g := by
      intro e he
      rw [c_goesIn5 g k e hk hb hn, mm_bs]
      refine (X8b_patrolsIn_67 _ _ _ _ _ _ _ _).trans ?_
      unfold cPat5
      rw [← he]
      by_cases q : cGo5 g k e
      · rw [if_pos q, if_neg (by decide), w1, w2]
      · rw [if_neg q, if_pos rfl, w1, show a + 0 = a from by omega]
    refine ⟨some (vI s0), ?_⟩
    rw [X8b_patrolsIn_47]
    by_cases q : s0 = 0
    · rw [if_pos q]
      exact fin _ (by rw [if_pos (h2.1 q)])
    · rw [if_neg q]
      exact fin _ (by rw [if_neg (fun w => q (h2.2 w))])
  refine Exists.imp (fun o' he => (X8b_patrolsIn_36 _ _ _ _ _ _ _ _ _).trans he) ?_
  by_cases q : iAnd (iShr mis (g 11 (49 + k))) 1 = 0
  · rw [if_pos q]
    exact key 0 (Or.inl rfl) ⟨fun _ => q, fun _ => rfl⟩
  · rw [if_neg q]
    exact key 1 (Or.inr rfl) ⟨fun w => absurd w (by decide), fun w => absurd w q⟩
theorem c_patrolsIn5 (g : mm_M) (mis : Int) (hb : ∀ p : Int, 0 ≤ p → p < 7 → mm_bok (bh5 g p)) (hn : mm_nok g) : mm_call mX8_patrolsIn [vR 5, vR 1, vI mis] g = some ([vI (cPat5 g mis 0 + cPat5 g mis 1 + cPat5 g mis 2 + cPat5 g mis 3)], g) := by
  obtain ⟨n1, n2, n3, n4, n5⟩ := id hn
  rw [X8b_patrolsIn_c, c_new, mm_bs]
  refine (X8b_patrolsIn_6 _ _ _).trans ?_
  rw [g_like g _ ⟨n4.1, by omega⟩, mm_bs]
  refine (X8b_patrolsIn_13 _ _ _ _).trans ?_
  obtain ⟨⟨o1, e1⟩, b1⟩ := L_pat5 g mis 0 0 none (by decide) (by decide) hb hn
  obtain ⟨⟨o2, e2⟩, b2⟩ := L_pat5 g mis (0 + cPat5 g mis 0) (0 + 1) o1 (by decide) (by omega) hb hn
  obtain ⟨⟨o3, e3⟩, b3⟩ := L_pat5 g mis (0 + cPat5 g mis 0 + cPat5 g mis (0 + 1)) (0 + 1 + 1) o2 (by decide) (by omega) hb hn
  obtain ⟨⟨o4, e4⟩, b4⟩ := L_pat5 g mis (0 + cPat5 g mis 0 + cPat5 g mis (0 + 1) + cPat5 g mis (0 + 1 + 1)) (0 + 1 + 1 + 1) o3 (by decide) (by omega) hb hn
  rw [e1, e2, e3, e4, X8b_patrolsIn_21, if_pos (by decide)]
  rw [show 0 + cPat5 g mis 0 + cPat5 g mis (0 + 1) + cPat5 g mis (0 + 1 + 1) + cPat5 g mis (0 + 1 + 1 + 1) = cPat5 g mis 0 + cPat5 g mis 1 + cPat5 g mis 2 + cPat5 g mis 3 from by
    rw [show (0 : Int) + 1 = 1 from rfl, show (1 : Int) + 1 = 2 from rfl, show (2 : Int) + 1 = 3 from rfl]
    omega]
theorem cPat05 (g : mm_M) (k : Int) (hk : 0 ≤ k ∧ k < 4) (hn : mm_nok g) : cPat5 g 0 k = if cGo5 g k (g 11 54) then 1 else 0 := by
  obtain ⟨m1, m2, m3, m4⟩ := hn.2.2.2.2 k hk.1 hk.2
  unfold cPat5
  rw [if_pos (iShr0 _ ⟨m3, m4⟩)]
