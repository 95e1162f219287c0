/-! the law: what a text works out, step by step -/
def jn (w a b : Int) : Int := if w = 38 then (if a = 0 then 0 else if b = 0 then 0 else 1) else if w = 42 then w32 (a * b) else if w = 43 then w32 (a + b) else if w = 45 then w32 (a - b) else if w = 47 then (if b = 0 then 0 else w32 (a.tdiv b)) else if w = 60 then (if a < b then 1 else 0) else if w = 61 then (if a = b then 1 else 0) else if w = 62 then (if b < a then 1 else 0) else if w = 124 then (if ¬ a = 0 then 1 else if b = 0 then 0 else 1) else (if b = 0 then 0 else a.tmod b)
def ntop (w x : Int) (V S : Int → Int) (H : Int) : Int := if w = 1 then x else if w = 2 then V x else if w = 3 then (if S (H - 1) = 0 then 1 else 0) else if w = 4 then w32 (-(S (H - 1))) else jn w (S (H - 2)) (S (H - 1))
/-- what is on the pile behind k steps -/
def stN (w x V : Int → Int) (A : Int) : Nat → Int → Int
  | 0 => fun _ => 0
  | k + 1 => fun i => if i = mm_ht w A k - mm_nd (w (A + (k : Int))) then ntop (w (A + (k : Int))) (x (A + (k : Int))) V (stN w x V A k) (mm_ht w A k) else stN w x V A k i
def vE (w x V : Int → Int) (A e : Int) : Int := stN w x V A (e - A).toNat 0
/-- what the lines from l on give -/
def lwN (w x t e V : Int → Int) : Nat → Int → Int → Int
  | 0, _, _ => 0
  | m + 1, l, first => if t l = first ∨ ¬ vE w x V first (t l) = 0 then vE w x V (t l) (e l) else lwN w x t e V m (l + 1) (e l)
theorem jn_bin {w a b : Int} (h : mm_bin w) : w = 124 ∨ w = 38 ∨ w = 60 ∨ w = 61 ∨ w = 62 ∨ w = 43 ∨ w = 45 ∨ w = 42 ∨ w = 47 ∨ w = 37 := h
theorem c_joined (g : mm_M) (w a b : Int) (h : mm_bin w) : mm_call mX3_joined [vI w, vI a, vI b] g = some ([vI (jn w a b)], g) := by
  rcases h with rfl | rfl | rfl | rfl | rfl | rfl | rfl | rfl | rfl | rfl
  all_goals
    rw [X3_joined_c]
    simp [jn]
    try (repeat' split) <;> first | rfl | (exfalso; omega)
theorem s_twoOf (g : mm_M) (w a b : Int) (h : mm_bin w) : mm_call mX10_twoOf [vI w, vI a, vI b] g = some ([vI (jn w a b)], g) := by
  rcases h with rfl | rfl | rfl | rfl | rfl | rfl | rfl | rfl | rfl | rfl
  all_goals
    rw [X10_twoOf_c]
    simp [jn]
    try (repeat' split) <;> first | rfl | (exfalso; omega) | (subst_vars; simp [Int.tdiv_neg, Int.tmod_neg])
theorem c_push (g : mm_M) (v H : Int) (hH : g 2 9 = H) (b : 0 ≤ H ∧ H < 64) : mm_call mX3_push [vR 2, vI v] g = some ([], mUp (mUp g 18 H v) 2 9 (H + 1)) := by
  have w1 : w32 (H + 1) = H + 1 := w32_id (by unfold mm_r32; omega)
  rw [X3_push_c, mUp_ne (show (2 : Nat) ≠ 18 by decide), hH, if_neg (by omega), if_pos b, w1]
theorem c_pop (g : mm_M) (H : Int) (hH : g 2 9 = H) (b : 1 ≤ H ∧ H ≤ 64) : mm_call mX3_pop [vR 2] g = some ([vI (g 18 (H - 1))], mUp g 2 9 (H - 1)) := by
  have w1 : w32 (H - 1) = H - 1 := w32_id (by unfold mm_r32; omega)
  rw [X3_pop_c, hH, w1, mUp_self, if_pos (by omega), if_pos (by omega), mUp_ne (show (18 : Nat) ≠ 2 by decide)]
/-- the facts -/
def fcV (h : mm_M) (w p n : Int) (j : Int) : Int := if j = 0 then h 11 (21 + w) else if j = 1 then n else if j = 2 then h 11 (14 + p) else if j = 3 then p else if j = 4 then w else dd (h 11 (21 + w)) (h 11 (21 + h 11 (31 + w)))
/-- what is asked of the numbers for a law -/
def mm_lwk (h : mm_M) (w p : Int) : Prop := (0 ≤ w ∧ w < 10) ∧ (0 ≤ p ∧ p < 7) ∧ (0 ≤ h 11 (31 + w) ∧ h 11 (31 + w) < 10) ∧ (∀ k : Int, 0 ≤ k → k < 10 → 1 ≤ h 11 (21 + k) ∧ h 11 (21 + k) ≤ 9) ∧ 0 ≤ h 11 (14 + p) ∧ h 11 (14 + p) ≤ 12
theorem c_valueOf (g : mm_M) (c w p n j : Int) (z : mm_lwk g w p) (hc : (c = 121 ∧ j = 0) ∨ (c = 110 ∧ j = 1) ∨ (c = 99 ∧ j = 2) ∨ (c = 112 ∧ j = 3) ∨ (c = 119 ∧ j = 4) ∨ (c = 108 ∧ j = 5)) : mm_call mX3_valueOf [vI c, vR 1, vI w, vI p, vI n] g = some ([vI (fcV g w p n j)], g) := by
  obtain ⟨z1, z2, z3, z4, z5⟩ := z
  rw [X3_valueOf_c, g_long g w z1, mm_be1, X3_valueOf_6]
  rcases hc with ⟨rfl, rfl⟩ | ⟨rfl, rfl⟩ | ⟨rfl, rfl⟩ | ⟨rfl, rfl⟩ | ⟨rfl, rfl⟩ | ⟨rfl, rfl⟩
  · rw [if_neg (by decide), if_neg (by decide), if_neg (by decide), if_neg (by decide), if_pos rfl]
    rfl
  · rw [if_neg (by decide), if_pos rfl]
    rfl
  · rw [if_pos rfl, g_cold g p z2, mm_be1, X3_valueOf_72]
    rfl
  · rw [if_neg (by decide), if_neg (by decide), if_pos rfl]
    rfl
  · rw [if_neg (by decide), if_neg (by decide), if_neg (by decide), if_pos rfl]
    rfl
  · have a1 := z4 w z1.1 z1.2
    have a2 := z4 _ z3.1 z3.2
    have w1 : w32 (g 11 (21 + w) - g 11 (21 + g 11 (31 + w))) = g 11 (21 + w) - g 11 (21 + g 11 (31 + w)) := w32_id (by unfold mm_r32; omega)
    rw [if_neg (by decide), if_neg (by decide), if_neg (by decide), if_neg (by decide), if_neg (by decide), g_like g w z1, mm_be1, X3_valueOf_87, g_long g _ z3, mm_be1, X3_valueOf_90, w1]
    show _ = some ([vI (dd (g 11 (21 + w)) (g 11 (21 + g 11 (31 + w))))], g)
    unfold dd
    by_cases q : 0 ≤ g 11 (21 + w) - g 11 (21 + g 11 (31 + w))
    · rw [if_pos q, if_pos q]
    · rw [if_neg q, if_neg q, w32_id (by unfold mm_r32; omega)]
      rw [show 0 - (g 11 (21 + w) - g 11 (21 + g 11 (31 + w))) = g 11 (21 + g 11 (31 + w)) - g 11 (21 + w) from by omega]
/-- only the stack differs -/
def mm_kf (g g' : mm_M) : Prop := ∀ c i, c ≠ 18 → ¬ (c = 2 ∧ i = 9) → g' c i = g c i
theorem mm_kf.rf {g : mm_M} : mm_kf g g := fun _ _ _ _ => rfl
theorem mm_kf.tr {a b c : mm_M} (x : mm_kf a b) (y : mm_kf b c) : mm_kf a c := fun k i q1 q2 => (y k i q1 q2).trans (x k i q1 q2)
theorem tr_w {s w x : Int} (h : mm_tr s w x) : (w = 1 ∨ w = 2 ∨ w = 3 ∨ w = 4 ∨ mm_bin w) ∧ ¬ s = -59 ∧ ¬ s = -63 := by
  unfold mm_tr mm_bin at *
  omega
theorem c_wstep (g : mm_M) (w p n i H s W X : Int) (o : Option mm_V) (hc : g 2 6 = 16 ∨ g 2 6 = 17) (hs : g (g 2 6).toNat i = s) (i0 : 0 ≤ i ∧ i < 121) (i7 : i < g 2 7) (hH : g 2 9 = H) (ht : mm_tr s W X) (h1 : mm_nd W ≤ H) (h2 : H + 1 - mm_nd W ≤ 64) (h3 : 0 ≤ H ∧ H ≤ 64) (z : mm_lwk g w p) : ∃ g' o', mm_ev mX3_workOut 3 11 [some (vR 2), some (vR 1), some (vI w), some (vI p), some (vI n), some (vI 0), some (vI i), o] [] g = mm_ev mX3_workOut 3 11 [some (vR 2), some (vR 1), some (vI w), some (vI p), some (vI n), some (vI 0), some (vI (i + 1)), o'] [] g' ∧ mm_kf g g' ∧ g' 2 9 = H + 1 - mm_nd W ∧ ∀ j, g' 18 j = if j = H - mm_nd W then ntop W X (fcV g w p n) (g 18) H else g 18 j := by
  have hk : mm_ak (g 2 6).toNat = 1 ∧ mm_an (g 2 6).toNat = 121 := by
    rcases hc with w | w
    · rw [w]
      exact ⟨rfl, rfl⟩
    · rw [w]
      exact ⟨rfl, rfl⟩
  have w4 : w32 (i + 1) = i + 1 := w32_id (by unfold mm_r32; omega)
  obtain ⟨tw, n59, n63⟩ := tr_w ht
  rw [X3_workOut_11 _ _ _ _ _ _ _ hk.1 hk.2, hs, if_neg (by omega), if_pos i0, if_pos rfl, if_pos n59, if_pos n63]
  have psh : ∀ v : Int, mm_nd W = 0 → v = ntop W X (fcV g w p n) (g 18) H → ∃ g', mm_call mX3_push [vR 2, vI v] g = some ([], g') ∧ mm_kf g g' ∧ g' 2 9 = H + 1 - mm_nd W ∧ ∀ j, g' 18 j = if j = H - mm_nd W then ntop W X (fcV g w p n) (g 18) H else g 18 j := by
    intro v nd hv
    rw [nd] at h2
    refine ⟨_, c_push g v H hH (by omega), fun c k q1 q2 => by rw [mUp_at, if_neg q2, mUp_ne q1], ?_, fun j => ?_⟩
    · rw [mUp_self, nd]
      omega
    · rw [mUp_ne (by decide), nd, show H - 0 = H from by omega, hv]
      by_cases q : j = H
      · rw [q, mUp_self, if_pos rfl]
      · rw [mUp_nei q, if_neg q]
  have nam : ∀ (c j : Int), s = -c → W = 2 → X = j → ((c = 121 ∧ j = 0) ∨ (c = 110 ∧ j = 1) ∨ (c = 99 ∧ j = 2) ∨ (c = 112 ∧ j = 3) ∨ (c = 119 ∧ j = 4) ∨ (c = 108 ∧ j = 5)) → ∃ g' o', (if s < 0 then (mm_call mX3_isName [vI (w32 (-s))] g).bind (fun z => mm_ev mX3_workOut 3 107 [some (vR 2), some (vR 1), some (vI w), some (vI p), some (vI n), some (vI 0), some (vI i), some (vI s)] (z.1 ++ []) z.2) else (mm_call mX3_push [vR 2, vI s] g).bind (fun z => mm_ev mX3_workOut 3 98 [some (vR 2), some (vR 1), some (vI w), some (vI p), some (vI n), some (vI 0), some (vI i), some (vI s)] (z.1 ++ []) z.2)) = mm_ev mX3_workOut 3 11 [some (vR 2), some (vR 1), some (vI w), some (vI p), some (vI n), some (vI 0), some (vI (i + 1)), o'] [] g' ∧ mm_kf g g' ∧ g' 2 9 = H + 1 - mm_nd W ∧ ∀ j, g' 18 j = if j = H - mm_nd W then ntop W X (fcV g w p n) (g 18) H else g 18 j := by
    intro c j hs2 hW hX hcj
    have wn : w32 (-s) = c := by
      rw [hs2, w32_id (by unfold mm_r32; omega)]
      omega
    have isn : mm_call mX3_isName [vI c] g = some ([vI 1], g) := by
      rw [X3_isName_c]
      rcases hcj with ⟨rfl, _⟩ | ⟨rfl, _⟩ | ⟨rfl, _⟩ | ⟨rfl, _⟩ | ⟨rfl, _⟩ | ⟨rfl, _⟩ <;> simp
    obtain ⟨g', a1, a2, a3, a4⟩ := psh (fcV g w p n j) (by rw [hW]; rfl) (by rw [hW, hX]; rfl)
    refine ⟨g', some (vI s), ?_, a2, a3, a4⟩
    rw [if_pos (by omega), wn, isn, mm_be1, X3_workOut_107, if_neg (by decide), wn, c_valueOf g c w p n j z hcj, mm_be1, X3_workOut_122, a1, mm_be0, X3_workOut_125, X3_workOut_134, w4]
  have una : ∀ (v : Int), mm_nd W = 1 → v = ntop W X (fcV g w p n) (g 18) H → mm_kf g (mUp (mUp (mUp g 2 9 (H - 1)) 18 (H - 1) v) 2 9 (H - 1 + 1)) ∧ (mUp (mUp (mUp g 2 9 (H - 1)) 18 (H - 1) v) 2 9 (H - 1 + 1)) 2 9 = H + 1 - mm_nd W ∧ ∀ j, (mUp (mUp (mUp g 2 9 (H - 1)) 18 (H - 1) v) 2 9 (H - 1 + 1)) 18 j = if j = H - mm_nd W then ntop W X (fcV g w p n) (g 18) H else g 18 j := by
    intro v nd hv
    refine ⟨fun c k q1 q2 => by rw [mUp_at, if_neg q2, mUp_ne q1, mUp_at, if_neg q2], by rw [mUp_self, nd]; omega, fun j => ?_⟩
    rw [mUp_ne (show (18 : Nat) ≠ 2 by decide), nd, hv]
    by_cases q : j = H - 1
    · rw [q, mUp_self, if_pos rfl]
    · rw [mUp_nei q, if_neg q, mUp_ne (by decide)]
  have dos : s = -1 ∨ s = -33 ∨ (s = -W ∧ mm_bin W) → (s < 0 ∧ mm_call mX3_isName [vI (w32 (-s))] g = some ([vI 0], g)) := by
    intro hh
    have r : -124 ≤ s ∧ s < 0 := by unfold mm_bin at hh; omega
    refine ⟨r.2, ?_⟩
    rw [w32_id (by unfold mm_r32; omega), X3_isName_c, if_neg (by unfold mm_bin at hh; omega), if_neg (by unfold mm_bin at hh; omega), if_neg (by unfold mm_bin at hh; omega), if_neg (by unfold mm_bin at hh; omega), if_neg (by unfold mm_bin at hh; omega), if_pos (by unfold mm_bin at hh; omega)]
  rcases ht with ⟨s0, hW, hX⟩ | ⟨hs1, hW⟩ | ⟨hs1, hW⟩ | ⟨hs1, hW, hX⟩ | ⟨hs1, hW, hX⟩ | ⟨hs1, hW, hX⟩ | ⟨hs1, hW, hX⟩ | ⟨hs1, hW, hX⟩ | ⟨hs1, hW, hX⟩ | ⟨hs1, hb⟩
  · obtain ⟨g', a1, a2, a3, a4⟩ := psh s (by rw [hW]; rfl) (by rw [hW, hX]; rfl)
    refine ⟨g', some (vI s), ?_, a2, a3, a4⟩
    rw [if_neg (by omega), a1, mm_be0, X3_workOut_98, X3_workOut_134, w4]
  · obtain ⟨d1, d2⟩ := dos (Or.inl hs1)
    have nd : mm_nd W = 1 := by rw [hW]; rfl
    rw [nd] at h1 h2
    obtain ⟨a2, a3, a4⟩ := una (w32 (-(g 18 (H - 1)))) nd (by rw [hW]; rfl)
    refine ⟨_, some (vI s), ?_, a2, a3, a4⟩
    rw [if_pos d1, d2, mm_be1, X3_workOut_107, if_pos rfl, X3_doStep_c, c_pop g H hH (by omega), mm_be1, X3_doStep_4, if_neg (by omega), c_push (mUp g 2 9 (H - 1)) _ (H - 1) (mUp_self _ _ _ _) (by omega), mm_be0, X3_doStep_16, X3_doStep_55, mm_be0, X3_workOut_134, w4]
  · obtain ⟨d1, d2⟩ := dos (Or.inr (Or.inl hs1))
    have nd : mm_nd W = 1 := by rw [hW]; rfl
    rw [nd] at h1 h2
    by_cases q : g 18 (H - 1) = 0
    · obtain ⟨a2, a3, a4⟩ := una 1 nd (by rw [hW]; show _ = if g 18 (H - 1) = 0 then 1 else 0; rw [if_pos q])
      refine ⟨_, some (vI s), ?_, a2, a3, a4⟩
      rw [if_pos d1, d2, mm_be1, X3_workOut_107, if_pos rfl, X3_doStep_c, c_pop g H hH (by omega), mm_be1, X3_doStep_4, if_pos (by omega), if_neg (by omega), if_neg (fun w => w q), c_push (mUp g 2 9 (H - 1)) _ (H - 1) (mUp_self _ _ _ _) (by omega), mm_be0, X3_doStep_38, X3_doStep_55, mm_be0, X3_workOut_134, w4]
    · obtain ⟨a2, a3, a4⟩ := una 0 nd (by rw [hW]; show _ = if g 18 (H - 1) = 0 then 1 else 0; rw [if_neg q])
      refine ⟨_, some (vI s), ?_, a2, a3, a4⟩
      rw [if_pos d1, d2, mm_be1, X3_workOut_107, if_pos rfl, X3_doStep_c, c_pop g H hH (by omega), mm_be1, X3_doStep_4, if_pos (by omega), if_neg (by omega), if_pos q, c_push (mUp g 2 9 (H - 1)) _ (H - 1) (mUp_self _ _ _ _) (by omega), mm_be0, X3_doStep_38, X3_doStep_55, mm_be0, X3_workOut_134, w4]
  · exact nam 121 0 hs1 hW hX (by omega)
  · exact nam 110 1 hs1 hW hX (by omega)
  · exact nam 99 2 hs1 hW hX (by omega)
  · exact nam 112 3 hs1 hW hX (by omega)
  · exact nam 119 4 hs1 hW hX (by omega)
  · exact nam 108 5 hs1 hW hX (by omega)
  · obtain ⟨d1, d2⟩ := dos (Or.inr (Or.inr ⟨hs1, hb⟩))
    have nd : mm_nd W = 2 := by
      unfold mm_nd
      unfold mm_bin at hb
      rw [if_neg (by omega), if_neg (by omega)]
    have nt : ntop W X (fcV g w p n) (g 18) H = jn W (g 18 (H - 2)) (g 18 (H - 1)) := by
      unfold ntop
      unfold mm_bin at hb
      rw [if_neg (by omega), if_neg (by omega), if_neg (by omega), if_neg (by omega)]
    rw [nd] at h1 h2
    have wn : w32 (-s) = W := by
      unfold mm_bin at hb
      rw [hs1, w32_id (by unfold mm_r32; omega)]
      omega
    have e18 : (mUp g 2 9 (H - 1)) 18 (H - 1 - 1) = g 18 (H - 2) := by
      rw [mUp_ne (by decide), show H - 1 - 1 = H - 2 from by omega]
    refine ⟨mUp (mUp (mUp (mUp g 2 9 (H - 1)) 2 9 (H - 1 - 1)) 18 (H - 1 - 1) (jn W (g 18 (H - 2)) (g 18 (H - 1)))) 2 9 (H - 1 - 1 + 1), some (vI s), ?_, ?_⟩
    · rw [if_pos d1, d2, mm_be1, X3_workOut_107, if_pos rfl, X3_doStep_c, c_pop g H hH (by omega), mm_be1, X3_doStep_4, if_pos (by unfold mm_bin at hb; omega), if_pos (by unfold mm_bin at hb; omega), c_pop (mUp g 2 9 (H - 1)) (H - 1) (mUp_self _ _ _ _) (by omega), mm_be1, X3_doStep_48, wn, e18, c_joined _ W _ _ hb, mm_be1, X3_doStep_52, c_push (mUp (mUp g 2 9 (H - 1)) 2 9 (H - 1 - 1)) _ (H - 1 - 1) (mUp_self _ _ _ _) (by omega), mm_be0, X3_doStep_55, mm_be0, X3_workOut_134, w4]
    · refine ⟨fun c k q1 q2 => by rw [mUp_at, if_neg q2, mUp_ne q1, mUp_at, if_neg q2, mUp_at, if_neg q2], by rw [mUp_self, nd]; omega, fun j => ?_⟩
      rw [mUp_ne (show (18 : Nat) ≠ 2 by decide), nd, nt]
      by_cases q : j = H - 2
      · rw [if_pos q, show H - 1 - 1 = j from by omega, mUp_self]
      · rw [if_neg q, mUp_nei (by omega), mUp_ne (by decide), mUp_ne (by decide)]
