/-! who hears when, who is let in, by a way -/
theorem c_hearing (g : mm_M) (p : Int) (hp : 0 ≤ p ∧ p < 7) (hb : mm_bok (bh g p)) (ha : 0 ≤ g 11 55 ∧ g 11 55 ≤ 999) : mm_call mX8_hearing [vR 4, vR 1, vI p] g = some ([vI (cT (bh g p) (g 11 55))], g) := by
  have e : mm_call mX8_behindStart [vR 4, vI p] g = some ([vI (bh g p)], g) := by
    unfold bh
    rw [X8a_behindStart_c]
    by_cases q : p = 0
    · rw [if_neg (fun w => w q), if_pos q]
    · rw [if_pos q, if_neg q, if_pos hp]
      by_cases q2 : 0 ≤ g 24 p
      · rw [if_pos q2, if_pos q2, if_pos hp]
      · rw [if_neg q2, if_neg q2]
  rw [X8a_hearing_c, e, mm_bs]
  refine (X8a_hearing_5 _ _ _).trans ?_
  by_cases q : bh g p = 1000000
  · rw [if_neg (fun w => w q), cT1 q]
  · rw [if_pos q, c_at, mm_bs, cT2 q]
    refine (X8a_hearing_23 _ _ _ _).trans ?_
    have w1 : w32 (g 11 55 + bh g p) = g 11 55 + bh g p := w32_id (by unfold mm_r32; omega)
    exact congrArg (fun v => some ([vI v], g)) w1
theorem c_admits (g : mm_M) (p m w e : Int) (hp : 0 ≤ p ∧ p < 7) (hb : mm_bok (bh g p)) (hn : mm_nok g) : mm_call mX8_admits [vR 4, vR 1, vI p, vI m, vI w, vI e] g = some ([vI (if cLet (cT (bh g p) (g 11 55)) (g 11 53) e (g 11 56) m w then 1 else 0)], g) := by
  obtain ⟨n1, n2, n3⟩ := hn
  rw [X8a_admits_c, c_hearing g p hp hb n1, mm_bs]
  refine (X8a_admits_6 _ _ _ _ _ _).trans ?_
  have hT : ∃ T, T = cT (bh g p) (g 11 55) := ⟨_, rfl⟩
  obtain ⟨T, hT⟩ := hT
  have bT : 0 ≤ T ∧ T ≤ 1000000 := by
    rw [hT]
    exact cT_b hb n1
  rw [← hT, c_old, mm_bs]
  refine (X8a_admits_16 _ _ _ _ _ _ _ _).trans ?_
  have w1 : w32 (T + g 11 56) = T + g 11 56 := w32_id (by unfold mm_r32; omega)
  have e34 : ∀ (q : ¬ (w = g 11 53 ∧ m < T + g 11 56)), mm_ev mX8_admits 3 34 [some (vR 4), some (vR 1), some (vI p), some (vI m), some (vI w), some (vI e), some (vI T)] [] g = some ([vI (if cLet T (g 11 53) e (g 11 56) m w then 1 else 0)], g) := fun q => by
    rw [X8a_admits_34]
    by_cases q1 : w = e
    · rw [if_neg (fun z => z q1)]
      by_cases q2 : m < T
      · rw [if_pos q2, if_neg (by omega)]
      · rw [if_neg q2, if_pos (by omega)]
    · rw [if_pos q1, if_neg (by omega)]
  by_cases q : w = g 11 53
  · rw [if_neg (fun z => z q), c_holds, mm_bs]
    refine (X8a_admits_28 _ _ _ _ _ _ _ _ _).trans ?_
    rw [w1]
    by_cases q2 : T + g 11 56 ≤ m
    · rw [if_pos q2]
      exact e34 (by omega)
    · rw [if_neg q2, if_pos (by omega)]
  · rw [if_pos q]
    exact e34 (by omega)
abbrev cGo (g : mm_M) (k e : Int) : Prop := g 11 (49 + k) < g 1 1 ∧ cLet (cT (bh g (g 11 (49 + k))) (g 11 55)) (g 11 53) e (g 11 56) (g 11 (45 + k)) (kn g k)
theorem c_goesIn (g : mm_M) (k e : Int) (hk : 0 ≤ k ∧ k < 4) (hb : ∀ p : Int, 0 ≤ p → p < 7 → mm_bok (bh g p)) (hn : mm_nok g) : mm_call mX8_goesIn [vR 4, vR 1, vI k, vI e] g = some ([vI (if cGo g k e then 1 else 0)], g) := by
  obtain ⟨n1, n2, n3, n4, n5⟩ := id hn
  obtain ⟨m1, m2, m3, m4⟩ := n5 k hk.1 hk.2
  rw [X8a_goesIn_c, g_by g k hk, mm_bs]
  refine (X8a_goesIn_7 _ _ _ _).trans ?_
  rw [c_isPost, mm_bs]
  refine (X8a_goesIn_15 _ _ _ _ _).trans ?_
  by_cases q : g 11 (49 + k) < g 1 1
  · rw [if_pos (⟨m3, q⟩ : 0 ≤ g 11 (49 + k) ∧ g 11 (49 + k) < g 1 1), if_neg (by decide), g_home g k hk, mm_bs]
    refine (X8a_goesIn_29 _ _ _ _ _ _).trans ?_
    rw [c_known g k hk, mm_bs]
    refine (X8a_goesIn_34 _ _ _ _ _ _ _).trans ?_
    rw [c_admits g _ _ _ _ ⟨m3, by omega⟩ (hb _ m3 (by omega)) hn, mm_bs]
    refine (X8a_goesIn_38 _ _ _ _ _).trans ?_
    by_cases q2 : cLet (cT (bh g (g 11 (49 + k))) (g 11 55)) (g 11 53) e (g 11 56) (g 11 (45 + k)) (kn g k)
    · rw [if_pos q2, if_neg (by decide), if_pos ⟨q, q2⟩]
    · rw [if_neg q2, if_pos rfl, if_neg (fun w => q2 w.2)]
  · rw [if_neg (fun w : 0 ≤ g 11 (49 + k) ∧ g 11 (49 + k) < g 1 1 => q w.2), if_pos rfl, if_neg (fun w => q w.1)]
def cPat (g : mm_M) (mis k : Int) : Int := if cGo g k (if iAnd (iShr mis (g 11 (49 + k))) 1 = 0 then g 11 54 else g 11 (31 + g 11 54)) then 1 else 0
theorem L_pat (g : mm_M) (mis a k : Int) (o : Option mm_V) (hk : 0 ≤ k ∧ k < 4) (ha : 0 ≤ a ∧ a ≤ k) (hb : ∀ p : Int, 0 ≤ p → p < 7 → mm_bok (bh g p)) (hn : mm_nok g) : (∃ o', mm_ev mX8_patrolsIn 5 21 [some (vR 4), some (vR 1), some (vI mis), some (vI (g 11 54)), some (vI (g 11 (31 + g 11 54))), some (vI a), some (vI k), o] [] g = mm_ev mX8_patrolsIn 5 21 [some (vR 4), some (vR 1), some (vI mis), some (vI (g 11 54)), some (vI (g 11 (31 + g 11 54))), some (vI (a + cPat g mis k)), some (vI (k + 1)), o'] [] g) ∧ 0 ≤ cPat g mis k ∧ cPat g mis k ≤ 1 := by
  have w1 : w32 (k + 1) = k + 1 := w32_id (by unfold mm_r32; omega)
  have w2 : w32 (a + 1) = a + 1 := w32_id (by unfold mm_r32; omega)
  have b : 0 ≤ cPat g mis k ∧ cPat g mis k ≤ 1 := by
    unfold cPat
    split <;> omega
  refine ⟨?_, b⟩
  rw [X8a_patrolsIn_21, if_neg (by omega), g_by g k hk, mm_bs]
  have key : ∀ s0 : Int, (s0 = 0 ∨ s0 = 1) → (s0 = 0 ↔ iAnd (iShr mis (g 11 (49 + k))) 1 = 0) → ∃ o', mm_ev mX8_patrolsIn 5 47 [some (vR 4), some (vR 1), some (vI mis), some (vI (g 11 54)), some (vI (g 11 (31 + g 11 54))), some (vI a), some (vI k), o] [vI s0] g = mm_ev mX8_patrolsIn 5 21 [some (vR 4), some (vR 1), some (vI mis), some (vI (g 11 54)), some (vI (g 11 (31 + g 11 54))), some (vI (a + cPat g mis k)), some (vI (k + 1)), o'] [] g := by
    intro s0 _ h2
    have fin : ∀ e : Int, e = (if iAnd (iShr mis (g 11 (49 + k))) 1 = 0 then g 11 54 else g 11 (31 + g 11 54)) → (mm_call mX8_goesIn [vR 4, vR 1, vI k, vI e] g).bind (fun w => mm_ev mX8_patrolsIn 5 67 [some (vR 4), some (vR 1), some (vI mis), some (vI (g 11 54)), some (vI (g 11 (31 + g 11 54))), some (vI a), some (vI k), some (vI s0)] (w.1 ++ []) w.2) = mm_ev mX8_patrolsIn 5 21 [some (vR 4), some (vR 1), some (vI mis), some (vI (g 11 54)), some (vI (g 11 (31 + g 11 54))), some (vI (a + cPat g mis k)), some (vI (k + 1)), some (vI s0)] [] g := by
      intro e he
      rw [c_goesIn g k e hk hb hn, mm_bs]
      refine (X8a_patrolsIn_67 _ _ _ _ _ _ _ _).trans ?_
      unfold cPat
      rw [← he]
      by_cases q : cGo g k e
      · rw [if_pos q, if_neg (by decide), w1, w2]
      · rw [if_neg q, if_pos rfl, w1, show a + 0 = a from by omega]
    refine ⟨some (vI s0), ?_⟩
    rw [X8a_patrolsIn_47]
    by_cases q : s0 = 0
    · rw [if_pos q]
      exact fin _ (by rw [if_pos (h2.1 q)])
    · rw [if_neg q]
      exact fin _ (by rw [if_neg (fun w => q (h2.2 w))])
  refine Exists.imp (fun o' he => (X8a_patrolsIn_36 _ _ _ _ _ _ _ _ _).trans he) ?_
  by_cases q : iAnd (iShr mis (g 11 (49 + k))) 1 = 0
  · rw [if_pos q]
    exact key 0 (Or.inl rfl) ⟨fun _ => q, fun _ => rfl⟩
  · rw [if_neg q]
    exact key 1 (Or.inr rfl) ⟨fun w => absurd w (by decide), fun w => absurd w q⟩
theorem c_patrolsIn (g : mm_M) (mis : Int) (hb : ∀ p : Int, 0 ≤ p → p < 7 → mm_bok (bh g p)) (hn : mm_nok g) : mm_call mX8_patrolsIn [vR 4, vR 1, vI mis] g = some ([vI (cPat g mis 0 + cPat g mis 1 + cPat g mis 2 + cPat g mis 3)], g) := by
  obtain ⟨n1, n2, n3, n4, n5⟩ := id hn
  rw [X8a_patrolsIn_c, c_new, mm_bs]
  refine (X8a_patrolsIn_6 _ _ _).trans ?_
  rw [g_like g _ ⟨n4.1, by omega⟩, mm_bs]
  refine (X8a_patrolsIn_13 _ _ _ _).trans ?_
  obtain ⟨⟨o1, e1⟩, b1⟩ := L_pat g mis 0 0 none (by decide) (by decide) hb hn
  obtain ⟨⟨o2, e2⟩, b2⟩ := L_pat g mis (0 + cPat g mis 0) (0 + 1) o1 (by decide) (by omega) hb hn
  obtain ⟨⟨o3, e3⟩, b3⟩ := L_pat g mis (0 + cPat g mis 0 + cPat g mis (0 + 1)) (0 + 1 + 1) o2 (by decide) (by omega) hb hn
  obtain ⟨⟨o4, e4⟩, b4⟩ := L_pat g mis (0 + cPat g mis 0 + cPat g mis (0 + 1) + cPat g mis (0 + 1 + 1)) (0 + 1 + 1 + 1) o3 (by decide) (by omega) hb hn
  rw [e1, e2, e3, e4, X8a_patrolsIn_21, if_pos (by decide)]
  rw [show 0 + cPat g mis 0 + cPat g mis (0 + 1) + cPat g mis (0 + 1 + 1) + cPat g mis (0 + 1 + 1 + 1) = cPat g mis 0 + cPat g mis 1 + cPat g mis 2 + cPat g mis 3 from by
    rw [show (0 : Int) + 1 = 1 from rfl, show (1 : Int) + 1 = 2 from rfl, show (2 : Int) + 1 = 3 from rfl]
    omega]
