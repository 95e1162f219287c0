/-! acts: what runs, and what it gives -/
def rC (x : mm_M) (c : Int) : mm_M := mUp (if x 10 1 < 24 then mUp x 45 (x 10 1) c else x) 10 1 (w32 (x 10 1 + 1))
def tC (h : mm_M) : List Int → mm_M
  | [] => h
  | c :: l => rC (tC h l) c
def rR (x : mm_M) (c : Int) : mm_M := mUp (if x 47 51 < 24 then mUp x 78 (x 47 51) c else x) 47 51 (w32 (x 47 51 + 1))
def tR (h : mm_M) : List Int → mm_M
  | [] => h
  | c :: l => rR (tR h l) c
theorem rC_fr (x : mm_M) (c : Int) (k : Nat) (i : Int) (q1 : k ≠ 45) (q2 : ¬ (k = 10 ∧ i = 1)) : rC x c k i = x k i := by
  unfold rC
  rw [mUp_at, if_neg q2]
  split
  · rw [mUp_ne q1]
  · rfl
theorem rR_fr (x : mm_M) (c : Int) (k : Nat) (i : Int) (q1 : k ≠ 78) (q2 : ¬ (k = 47 ∧ i = 51)) : rR x c k i = x k i := by
  unfold rR
  rw [mUp_at, if_neg q2]
  split
  · rw [mUp_ne q1]
  · rfl
theorem tC_fr (h : mm_M) (k : Nat) (i : Int) (q1 : k ≠ 45) (q2 : ¬ (k = 10 ∧ i = 1)) : ∀ l : List Int, tC h l k i = h k i := by
  intro l
  induction l with
  | nil => rfl
  | cons c l ih => exact (rC_fr _ _ _ _ q1 q2).trans ih
theorem tR_fr (h : mm_M) (k : Nat) (i : Int) (q1 : k ≠ 78) (q2 : ¬ (k = 47 ∧ i = 51)) : ∀ l : List Int, tR h l k i = h k i := by
  intro l
  induction l with
  | nil => rfl
  | cons c l ih => exact (rR_fr _ _ _ _ q1 q2).trans ih
theorem tC_n (h : mm_M) (h0 : h 10 1 = 0) : ∀ l : List Int, l.length ≤ 1000 → tC h l 10 1 = l.length := by
  intro l
  induction l with
  | nil => intro _; exact h0
  | cons c l ih =>
    intro n
    simp only [List.length_cons] at n ⊢
    have e := ih (by omega)
    show rC (tC h l) c 10 1 = _
    unfold rC
    rw [mUp_self, e, w32_id (by unfold mm_r32; omega)]
    omega
theorem tR_n (h : mm_M) (h0 : h 47 51 = 0) : ∀ l : List Int, l.length ≤ 1000 → tR h l 47 51 = l.length := by
  intro l
  induction l with
  | nil => intro _; exact h0
  | cons c l ih =>
    intro n
    simp only [List.length_cons] at n ⊢
    have e := ih (by omega)
    show rR (tR h l) c 47 51 = _
    unfold rR
    rw [mUp_self, e, w32_id (by unfold mm_r32; omega)]
    omega
/-- both keep the same traces -/
theorem t_both (h f : mm_M) (h0 : h 10 1 = 0) (f0 : f 47 51 = 0) : ∀ l : List Int, l.length ≤ 1000 → ∀ i : Int, 0 ≤ i → i < l.length → i < 24 → tR f l 78 i = tC h l 45 i := by
  intro l
  induction l with
  | nil => intro _ i i0 i1; simp at i1; omega
  | cons c l ih =>
    intro n i i0 i1 i2
    simp only [List.length_cons] at n i1
    have e1 := tC_n h h0 l (by omega)
    have e2 := tR_n f f0 l (by omega)
    show rR (tR f l) c 78 i = rC (tC h l) c 45 i
    unfold rR rC
    rw [mUp_ne (by decide), mUp_ne (by decide), e1, e2]
    by_cases q : (l.length : Int) < 24
    · rw [if_pos q, if_pos q]
      by_cases w : i = l.length
      · rw [w, mUp_self, mUp_self]
      · rw [mUp_nei w, mUp_nei w]
        exact ih (by omega) i i0 (by omega) i2
    · rw [if_neg q, if_neg q]
      exact ih (by omega) i i0 (by omega) i2
/-! the class: which body runs -/
def nx (k a : Int) : Int := if ¬ mm_ct 105 (k * 4 + a) = 0 then k else if ¬ mm_ct 105 (mm_ct 104 k * 4 + a) = 0 then mm_ct 104 k else if ¬ mm_ct 105 (mm_ct 104 (mm_ct 104 k) * 4 + a) = 0 then mm_ct 104 (mm_ct 104 k) else mm_ct 104 (mm_ct 104 (mm_ct 104 k))
theorem c_scan (h : mm_M) (r : Nat) (k a x d : Int) (hk : 0 ≤ k ∧ k < 8) (ha : 0 ≤ a ∧ a < 4) : ∃ s, mm_ev mX0_runFrom r 6 [some (vR 10), some (vI k), some (vI a), some (vI x), some (vI d), some (vI k), some (vI 0)] [] h = mm_ev mX0_runFrom r 45 [some (vR 10), some (vI k), some (vI a), some (vI x), some (vI d), some (vI (nx k a)), some (vI s)] [] h := by
  have st : ∀ k0 s0 : Int, 0 ≤ k0 ∧ k0 < 8 → 0 ≤ s0 ∧ s0 < 8 → mm_ev mX0_runFrom r 6 [some (vR 10), some (vI k), some (vI a), some (vI x), some (vI d), some (vI k0), some (vI s0)] [] h = if ¬ mm_ct 105 (k0 * 4 + a) = 0 then mm_ev mX0_runFrom r 45 [some (vR 10), some (vI k), some (vI a), some (vI x), some (vI d), some (vI k0), some (vI s0)] [] h else mm_ev mX0_runFrom r 6 [some (vR 10), some (vI k), some (vI a), some (vI x), some (vI d), some (vI (mm_ct 104 k0)), some (vI (s0 + 1))] [] h := by
    intro k0 s0 hk0 hs0
    have w1 : w32 (k0 * 4) = k0 * 4 := w32_id (by unfold mm_r32; omega)
    have w2 : w32 (k0 * 4 + a) = k0 * 4 + a := w32_id (by unfold mm_r32; omega)
    have w3 : w32 (s0 + 1) = s0 + 1 := w32_id (by unfold mm_r32; omega)
    rw [X0_runFrom_6, if_neg (by omega), if_neg (by omega), w1, w2, w3, if_pos (by omega), if_pos hk0]
  have kk : k = 0 ∨ k = 1 ∨ k = 2 ∨ k = 3 ∨ k = 4 ∨ k = 5 ∨ k = 6 ∨ k = 7 := by omega
  have aa : a = 0 ∨ a = 1 ∨ a = 2 ∨ a = 3 := by omega
  have t1 : ∀ j : Int, 0 ≤ j ∧ j < 8 → ¬ mm_ct 105 (j * 4 + a) = 0 ∨ (0 ≤ mm_ct 104 j ∧ mm_ct 104 j < 8) := by
    intro j hj
    have jj : j = 0 ∨ j = 1 ∨ j = 2 ∨ j = 3 ∨ j = 4 ∨ j = 5 ∨ j = 6 ∨ j = 7 := by omega
    rcases jj with rfl | rfl | rfl | rfl | rfl | rfl | rfl | rfl <;> rcases aa with rfl | rfl | rfl | rfl <;> decide
  have t2 : ¬ mm_ct 105 (k * 4 + a) = 0 ∨ ¬ mm_ct 105 (mm_ct 104 k * 4 + a) = 0 ∨ ¬ mm_ct 105 (mm_ct 104 (mm_ct 104 k) * 4 + a) = 0 ∨ ¬ mm_ct 105 (mm_ct 104 (mm_ct 104 (mm_ct 104 k)) * 4 + a) = 0 := by
    rcases kk with rfl | rfl | rfl | rfl | rfl | rfl | rfl | rfl <;> rcases aa with rfl | rfl | rfl | rfl <;> decide
  unfold nx
  by_cases q1 : mm_ct 105 (k * 4 + a) = 0
  · have r1 : 0 ≤ mm_ct 104 k ∧ mm_ct 104 k < 8 := (t1 k hk).resolve_left (fun w => w q1)
    rw [st k 0 hk (by decide), if_neg (fun w => w q1), if_neg (fun w => w q1)]
    by_cases q2 : mm_ct 105 (mm_ct 104 k * 4 + a) = 0
    · have r2 := (t1 _ r1).resolve_left (fun w => w q2)
      rw [st _ (0 + 1) r1 (by decide), if_neg (fun w => w q2), if_neg (fun w => w q2)]
      by_cases q3 : mm_ct 105 (mm_ct 104 (mm_ct 104 k) * 4 + a) = 0
      · have r3 := (t1 _ r2).resolve_left (fun w => w q3)
        have q4 : ¬ mm_ct 105 (mm_ct 104 (mm_ct 104 (mm_ct 104 k)) * 4 + a) = 0 := by
          rcases t2 with w | w | w | w
          · exact absurd q1 w
          · exact absurd q2 w
          · exact absurd q3 w
          · exact w
        rw [st _ (0 + 1 + 1) r2 (by decide), if_neg (fun w => w q3), if_neg (fun w => w q3), st _ (0 + 1 + 1 + 1) r3 (by decide), if_pos q4]
        exact ⟨_, rfl⟩
      · rw [st _ (0 + 1 + 1) r2 (by decide), if_pos q3, if_pos q3]
        exact ⟨_, rfl⟩
    · rw [st _ (0 + 1) r1 (by decide), if_pos q2, if_pos q2]
      exact ⟨_, rfl⟩
  · rw [st k 0 hk (by decide), if_pos q1, if_pos q1]
    exact ⟨_, rfl⟩
theorem c_rf (h : mm_M) (k a x d k' c : Int) (v : mm_V) (h' : mm_M) (hk : 0 ≤ k ∧ k < 8) (ha : 0 ≤ a ∧ a < 4) (hd : 0 ≤ d ∧ d < 40) (hn : nx k a = k') (k0 : 0 ≤ k' ∧ k' < 8) (hc : mm_ct 105 (k' * 4 + a) = c) (h1 : 0 ≤ h 10 1) (e : (if k' = 0 then mm_call mX0_runOfWord [vR 10, vI c, vI x, vI (d + 1)] (rC h c) else mm_call mX0_runUnderWord [vR 10, vI c, vI (mm_ct 104 k'), vI x, vI (d + 1)] (rC h c)) = some ([v], h')) (hv : ∃ z, v = vI z) : mm_call mX0_runFrom [vR 10, vI k, vI a, vI x, vI d] h = some ([v], h') := by
  obtain ⟨z, hv⟩ := hv
  subst hv
  obtain ⟨s, hs⟩ := c_scan h (10 + (3 * (42 - d) + 1 : Int).toNat) k a x d hk ha
  have w1 : w32 (k' * 4) = k' * 4 := w32_id (by unfold mm_r32; omega)
  have w2 : w32 (k' * 4 + a) = k' * 4 + a := w32_id (by unfold mm_r32; omega)
  have w3 : w32 (d + 1) = d + 1 := w32_id (by unfold mm_r32; omega)
  rw [X0_runFrom_c, X0_runFrom_0, hs, hn, X0_runFrom_45, if_neg (by omega), if_pos (by omega), w1, w2, if_pos (by omega), hc]
  have r1 : 10 + (3 * (42 - (d + 1)) + 3 : Int).toNat < 10 + (3 * (42 - d) + 1 : Int).toNat := by omega
  have key : ∀ g : mm_M, mUp g 10 1 (w32 (g 10 1 + 1)) = rC h c → mm_ev mX0_runFrom (10 + (3 * (42 - d) + 1 : Int).toNat) 91 [some (vR 10), some (vI k), some (vI a), some (vI x), some (vI d), some (vI k'), some (vI c)] [] g = some ([vI z], h') := by
    intro g hg
    rw [X0_runFrom_91, w3, hg]
    by_cases q : k' = 0
    · rw [if_pos q] at e
      rw [if_neg (fun w => w q), if_pos r1, e, mm_be1, X0_runFrom_117, X0_runFrom_137]
    · rw [if_neg q] at e
      rw [if_pos q, if_pos (by omega), if_pos r1, e, mm_be1, X0_runFrom_137]
  by_cases q : 24 ≤ h 10 1
  · rw [if_pos q]
    refine key h ?_
    unfold rC
    rw [if_neg (by omega)]
  · rw [if_neg q, if_pos (by omega)]
    refine key _ ?_
    unfold rC
    rw [if_pos (by omega), mUp_ne (by decide)]
theorem c_own (h : mm_M) (k b a x d : Int) (v : mm_V) (h' : mm_M) (hb : h 10 4 = b) (hb0 : 0 ≤ b ∧ b < h 10 0 ∧ b < 50) (hk : h 46 b = k) (hd : 0 ≤ d ∧ d < 40) (e : mm_call mX0_runFrom [vR 10, vI k, vI a, vI x, vI d] h = some ([v], h')) (hv : ∃ z, v = vI z) : mm_call mX0_own [vR 10, vI a, vI x, vI d] h = some ([v], h') := by
  obtain ⟨z, hv⟩ := hv
  subst hv
  rw [X0_own_c, X0_own_0, if_pos (by omega), X0_kindOf_c, hb, if_neg (by omega), if_neg (by omega), if_pos (by omega), hk, mm_be1, X0_own_9, if_pos (by omega), e, mm_be1, X0_own_15]
/-! what the acts give, by kinds: k runs, K is the kind of the one whose act it is, b its number -/
def vS (k b x : Int) : Int := if k = 1 ∨ k = 4 then w32 (w32 (x + b) + 3) else if k = 7 then w32 (w32 (w32 (x + b) * 2) - 1) else if k = 6 then w32 (w32 (x + b) * 2) else w32 (x + b)
def tS (k : Int) : List Int := if k = 1 ∨ k = 4 then [1, 20] else if k = 7 then [1, 70, 81] else if k = 6 then [1, 70] else [1]
def vO (K k b x : Int) : Int := if k = 5 then w32 (w32 (iXor x b * 3) - vS K b 2) else if k = 3 then w32 (iXor x b * 3) else iXor x b
def tO (K k : Int) : List Int := if k = 5 then tS K ++ [11, 40, 60] else if k = 3 then [11, 40] else [11]
def vH (K k b x : Int) : Int := if k = 3 ∨ k = 5 then w32 (-(w32 (vS K b (w32 (x + 1)) * 2))) else if k = 7 then w32 (w32 (vS K b x * 2) + vO K K b 2) else if k = 2 then w32 (-(w32 (vS K b x * 2))) else w32 (vS K b x * 2)
def tH' (K k : Int) : List Int := if k = 3 ∨ k = 5 then tS K ++ [10, 30, 41] else if k = 7 then tO K K ++ (tS K ++ [10, 80]) else if k = 2 then tS K ++ [10, 30] else tS K ++ [10]
def vP (K b x : Int) : Int := w32 (vH K K b x - vO K K b 1)
def tP (K : Int) : List Int := tO K K ++ (tH' K K ++ [2])
def vT (K k b x : Int) : Int := if k = 4 then iXor (vP K b x) 5 else if k = 5 then w32 (vP K b x + 1) else vP K b x
def tT (K k : Int) : List Int := if k = 4 then tP K ++ [50] else if k = 5 then tP K ++ [61] else tP K
theorem kd8 {k : Int} (h : 0 ≤ k ∧ k < 8) : k = 0 ∨ k = 1 ∨ k = 2 ∨ k = 3 ∨ k = 4 ∨ k = 5 ∨ k = 6 ∨ k = 7 := by omega
theorem tS_l (k : Int) : (tS k).length ≤ 3 := by
  unfold tS
  repeat' split
  all_goals simp
theorem tO_l (K k : Int) : (tO K k).length ≤ 6 := by
  have := tS_l K
  unfold tO
  repeat' split
  all_goals simp
  all_goals omega
theorem tH_l (K k : Int) : (tH' K k).length ≤ 11 := by
  have := tS_l K
  have := tO_l K K
  unfold tH'
  repeat' split
  all_goals simp
  all_goals omega
theorem tP_l (K : Int) : (tP K).length ≤ 18 := by
  have := tO_l K K
  have := tH_l K K
  unfold tP
  simp
  omega
theorem tT_l (K k : Int) : (tT K k).length ≤ 19 := by
  have := tP_l K
  unfold tT
  repeat' split
  all_goals simp
  all_goals omega
/-- whose act it is -/
def mm_ac (h : mm_M) (K b : Int) : Prop := h 10 4 = b ∧ (0 ≤ b ∧ b < h 10 0 ∧ b < 50) ∧ h 46 b = K ∧ (0 ≤ K ∧ K < 8) ∧ h 10 1 = 0
theorem tC_cons (h : mm_M) (c : Int) (l : List Int) : rC (tC h l) c = tC h (c :: l) := rfl
section CA
variable {h : mm_M} {K b : Int} (A : mm_ac h K b)
theorem ca_n (A : mm_ac h K b) (l : List Int) (hl : l.length ≤ 900) : 0 ≤ tC h l 10 1 := by
  rw [tC_n h A.2.2.2.2 l (by omega)]
  omega
theorem ca_b (A : mm_ac h K b) (l : List Int) : tC h l 10 4 = b := by
  rw [tC_fr h 10 4 (by decide) (by decide)]
  exact A.1
theorem ca_own (A : mm_ac h K b) (l : List Int) (a x d z : Int) (h' : mm_M) (hd : 0 ≤ d ∧ d < 40) (e : mm_call mX0_runFrom [vR 10, vI K, vI a, vI x, vI d] (tC h l) = some ([vI z], h')) : mm_call mX0_own [vR 10, vI a, vI x, vI d] (tC h l) = some ([vI z], h') :=
  c_own (tC h l) K b a x d (vI z) h' (ca_b A l) (by rw [tC_fr h 10 0 (by decide) (by decide)]; exact A.2.1) (by rw [tC_fr h 46 b (by decide) (by omega)]; exact A.2.2.1) hd e ⟨z, rfl⟩
theorem ca_w1 (A : mm_ac h K b) (l : List Int) (x d : Int) : mm_call mX0_runOfWord [vR 10, vI 1, vI x, vI d] (tC h l) = some ([vI (w32 (x + b))], tC h l) := by
  rw [X0_runOfWord_c, X0_runOfWord_0, if_pos rfl, ca_b A l]
theorem ca_w11 (A : mm_ac h K b) (l : List Int) (x d : Int) : mm_call mX0_runOfWord [vR 10, vI 11, vI x, vI d] (tC h l) = some ([vI (iXor x b)], tC h l) := by
  rw [X0_runOfWord_c, X0_runOfWord_0, if_neg (by decide), if_neg (by decide), if_pos rfl, ca_b A l]
/-- says -/
theorem ca_S0 (A : mm_ac h K b) (l : List Int) (hl : l.length ≤ 890) (k x d : Int) (hk : k = 0 ∨ k = 2 ∨ k = 3 ∨ k = 5) (hd : 0 ≤ d ∧ d < 40) : mm_call mX0_runFrom [vR 10, vI k, vI 0, vI x, vI d] (tC h l) = some ([vI (w32 (x + b))], tC h (1 :: l)) := by
  refine c_rf (tC h l) k 0 x d 0 1 _ _ (by omega) (by decide) hd (by rcases hk with rfl | rfl | rfl | rfl <;> decide) (by decide) (by decide) (ca_n A l (by omega)) ?_ ⟨_, rfl⟩
  rw [if_pos rfl, tC_cons]
  exact ca_w1 A _ _ _
theorem ca_S (A : mm_ac h K b) (l : List Int) (hl : l.length ≤ 880) (k x d : Int) (hk : 0 ≤ k ∧ k < 8) (hd : 0 ≤ d ∧ d < 36) : mm_call mX0_runFrom [vR 10, vI k, vI 0, vI x, vI d] (tC h l) = some ([vI (vS k b x)], tC h (tS k ++ l)) := by
  have c6 : ∀ (l : List Int) (d : Int), l.length ≤ 885 → 0 ≤ d ∧ d < 38 → mm_call mX0_runFrom [vR 10, vI 6, vI 0, vI x, vI d] (tC h l) = some ([vI (w32 (w32 (x + b) * 2))], tC h (1 :: 70 :: l)) := by
    intro l d hl hd
    refine c_rf (tC h l) 6 0 x d 6 70 _ _ (by decide) (by decide) (by omega) (by decide) (by decide) (by decide) (ca_n A l (by omega)) ?_ ⟨_, rfl⟩
    rw [if_neg (by decide), tC_cons, X0_runUnderWord_c, X0_runUnderWord_0]
    rw [if_neg (by decide), if_neg (by decide), if_neg (by decide), if_neg (by decide), if_neg (by decide), if_neg (by decide), if_neg (by decide), if_pos rfl, if_pos (by omega), show mm_ct 104 6 = 0 from by decide, ca_S0 A (70 :: l) (by simp; omega) 0 x (d + 1) (by decide) (by omega), mm_be1, X0_runUnderWord_183]
  rcases kd8 hk with rfl | rfl | rfl | rfl | rfl | rfl | rfl | rfl
  · exact ca_S0 A l (by omega) 0 x d (by decide) (by omega)
  · refine c_rf (tC h l) 1 0 x d 1 20 _ _ (by decide) (by decide) (by omega) (by decide) (by decide) (by decide) (ca_n A l (by omega)) ?_ ⟨_, rfl⟩
    rw [if_neg (by decide), tC_cons, X0_runUnderWord_c, X0_runUnderWord_0, if_pos rfl, if_pos (by omega), show mm_ct 104 1 = 0 from by decide, ca_S0 A (20 :: l) (by simp; omega) 0 x (d + 1) (by decide) (by omega), mm_be1, X0_runUnderWord_93]
    rfl
  · exact ca_S0 A l (by omega) 2 x d (by decide) (by omega)
  · exact ca_S0 A l (by omega) 3 x d (by decide) (by omega)
  · refine c_rf (tC h l) 4 0 x d 1 20 _ _ (by decide) (by decide) (by omega) (by decide) (by decide) (by decide) (ca_n A l (by omega)) ?_ ⟨_, rfl⟩
    rw [if_neg (by decide), tC_cons, X0_runUnderWord_c, X0_runUnderWord_0, if_pos rfl, if_pos (by omega), show mm_ct 104 1 = 0 from by decide, ca_S0 A (20 :: l) (by simp; omega) 0 x (d + 1) (by decide) (by omega), mm_be1, X0_runUnderWord_93]
    rfl
  · exact ca_S0 A l (by omega) 5 x d (by decide) (by omega)
  · exact c6 l d (by omega) (by omega)
  · refine c_rf (tC h l) 7 0 x d 7 81 _ _ (by decide) (by decide) (by omega) (by decide) (by decide) (by decide) (ca_n A l (by omega)) ?_ ⟨_, rfl⟩
    rw [if_neg (by decide), tC_cons, X0_runUnderWord_c, X0_runUnderWord_0]
    rw [if_neg (by decide), if_neg (by decide), if_neg (by decide), if_neg (by decide), if_neg (by decide), if_neg (by decide), if_neg (by decide), if_neg (by decide), if_neg (by decide), if_pos (by omega), show mm_ct 104 7 = 6 from by decide, c6 (81 :: l) (d + 1) (by simp; omega) (by omega), mm_be1, X0_runUnderWord_214]
    rfl
/-- holds -/
theorem ca_O (A : mm_ac h K b) (l : List Int) (hl : l.length ≤ 860) (k x d : Int) (hk : 0 ≤ k ∧ k < 8) (hd : 0 ≤ d ∧ d < 32) : mm_call mX0_runFrom [vR 10, vI k, vI 2, vI x, vI d] (tC h l) = some ([vI (vO K k b x)], tC h (tO K k ++ l)) := by
  have c0 : ∀ (k : Int) (l : List Int) (d : Int), nx k 2 = 0 → 0 ≤ k ∧ k < 8 → l.length ≤ 880 → 0 ≤ d ∧ d < 36 → mm_call mX0_runFrom [vR 10, vI k, vI 2, vI x, vI d] (tC h l) = some ([vI (iXor x b)], tC h (11 :: l)) := by
    intro k l d hn hk hl hd
    refine c_rf (tC h l) k 2 x d 0 11 _ _ hk (by decide) (by omega) hn (by decide) (by decide) (ca_n A l (by omega)) ?_ ⟨_, rfl⟩
    rw [if_pos rfl, tC_cons]
    exact ca_w11 A _ _ _
  have c3 : ∀ (l : List Int) (d : Int), l.length ≤ 870 → 0 ≤ d ∧ d < 34 → mm_call mX0_runFrom [vR 10, vI 3, vI 2, vI x, vI d] (tC h l) = some ([vI (w32 (iXor x b * 3))], tC h (11 :: 40 :: l)) := by
    intro l d hl hd
    refine c_rf (tC h l) 3 2 x d 3 40 _ _ (by decide) (by decide) (by omega) (by decide) (by decide) (by decide) (ca_n A l (by omega)) ?_ ⟨_, rfl⟩
    rw [if_neg (by decide), tC_cons, X0_runUnderWord_c, X0_runUnderWord_0, if_neg (by decide), if_neg (by decide), if_pos rfl, if_pos (by omega), show mm_ct 104 3 = 2 from by decide, c0 2 (40 :: l) (d + 1) (by decide) (by decide) (by simp; omega) (by omega), mm_be1, X0_runUnderWord_116]
  rcases kd8 hk with rfl | rfl | rfl | rfl | rfl | rfl | rfl | rfl
  · exact c0 0 l d (by decide) hk (by omega) (by omega)
  · exact c0 1 l d (by decide) hk (by omega) (by omega)
  · exact c0 2 l d (by decide) hk (by omega) (by omega)
  · exact c3 l d (by omega) (by omega)
  · exact c0 4 l d (by decide) hk (by omega) (by omega)
  · refine c_rf (tC h l) 5 2 x d 5 60 _ _ (by decide) (by decide) (by omega) (by decide) (by decide) (by decide) (ca_n A l (by omega)) ?_ ⟨_, rfl⟩
    rw [if_neg (by decide), tC_cons, X0_runUnderWord_c, X0_runUnderWord_0, if_neg (by decide), if_neg (by decide), if_neg (by decide), if_neg (by decide), if_neg (by decide), if_pos rfl, if_pos (by omega), show mm_ct 104 5 = 3 from by decide, c3 (60 :: l) (d + 1) (by simp; omega) (by omega), mm_be1, X0_runUnderWord_152, if_pos (by omega), ca_own A (11 :: 40 :: 60 :: l) 0 2 (d + 1) (vS K b 2) _ (by omega) (ca_S A (11 :: 40 :: 60 :: l) (by simp; omega) K 2 (d + 1) A.2.2.2.1 (by omega)), mm_be1, X0_runUnderWord_160]
    unfold vO tO
    rw [if_pos rfl, if_pos rfl, List.append_assoc]
    rfl
  · exact c0 6 l d (by decide) hk (by omega) (by omega)
  · exact c0 7 l d (by decide) hk (by omega) (by omega)
/-- hears -/
theorem ca_H (A : mm_ac h K b) (l : List Int) (hl : l.length ≤ 820) (k x d : Int) (hk : 0 ≤ k ∧ k < 8) (hd : 0 ≤ d ∧ d < 24) : mm_call mX0_runFrom [vR 10, vI k, vI 1, vI x, vI d] (tC h l) = some ([vI (vH K k b x)], tC h (tH' K k ++ l)) := by
  have c0 : ∀ (k x : Int) (l : List Int) (d : Int), nx k 1 = 0 → 0 ≤ k ∧ k < 8 → l.length ≤ 850 → 0 ≤ d ∧ d < 32 → mm_call mX0_runFrom [vR 10, vI k, vI 1, vI x, vI d] (tC h l) = some ([vI (w32 (vS K b x * 2))], tC h (tS K ++ (10 :: l))) := by
    intro k x l d hn hk hl hd
    refine c_rf (tC h l) k 1 x d 0 10 _ _ hk (by decide) (by omega) hn (by decide) (by decide) (ca_n A l (by omega)) ?_ ⟨_, rfl⟩
    rw [if_pos rfl, tC_cons, X0_runOfWord_c, X0_runOfWord_0, if_neg (by decide), if_pos rfl, if_pos (by omega), ca_own A (10 :: l) 0 x (d + 1) (vS K b x) _ (by omega) (ca_S A (10 :: l) (by simp; omega) K x (d + 1) A.2.2.2.1 (by omega)), mm_be1, X0_runOfWord_50]
  have c2 : ∀ (x : Int) (l : List Int) (d : Int), l.length ≤ 840 → 0 ≤ d ∧ d < 30 → mm_call mX0_runFrom [vR 10, vI 2, vI 1, vI x, vI d] (tC h l) = some ([vI (w32 (-(w32 (vS K b x * 2))))], tC h (tS K ++ (10 :: 30 :: l))) := by
    intro x l d hl hd
    refine c_rf (tC h l) 2 1 x d 2 30 _ _ (by decide) (by decide) (by omega) (by decide) (by decide) (by decide) (ca_n A l (by omega)) ?_ ⟨_, rfl⟩
    rw [if_neg (by decide), tC_cons, X0_runUnderWord_c, X0_runUnderWord_0, if_neg (by decide), if_pos rfl, if_pos (by omega), show mm_ct 104 2 = 0 from by decide, c0 0 x (30 :: l) (d + 1) (by decide) (by decide) (by simp; omega) (by omega), mm_be1, X0_runUnderWord_105]
  have c3 : ∀ (k : Int) (l : List Int) (d : Int), nx k 1 = 3 → 0 ≤ k ∧ k < 8 → l.length ≤ 830 → 0 ≤ d ∧ d < 28 → mm_call mX0_runFrom [vR 10, vI k, vI 1, vI x, vI d] (tC h l) = some ([vI (w32 (-(w32 (vS K b (w32 (x + 1)) * 2))))], tC h (tS K ++ (10 :: 30 :: 41 :: l))) := by
    intro k l d hn hk hl hd
    refine c_rf (tC h l) k 1 x d 3 41 _ _ hk (by decide) (by omega) hn (by decide) (by decide) (ca_n A l (by omega)) ?_ ⟨_, rfl⟩
    rw [if_neg (by decide), tC_cons, X0_runUnderWord_c, X0_runUnderWord_0, if_neg (by decide), if_neg (by decide), if_neg (by decide), if_pos rfl, if_pos (by omega), show mm_ct 104 3 = 2 from by decide, c2 (w32 (x + 1)) (41 :: l) (d + 1) (by simp; omega) (by omega), mm_be1, X0_runUnderWord_130]
  have ap : ∀ a b c : List Int, tC h ((a ++ b) ++ c) = tC h (a ++ (b ++ c)) := fun a b c => by rw [List.append_assoc]
  rcases kd8 hk with rfl | rfl | rfl | rfl | rfl | rfl | rfl | rfl
  · rw [c0 0 x l d (by decide) hk (by omega) (by omega)]
    exact congrArg (fun g => some ([vI (w32 (vS K b x * 2))], g)) (ap (tS K) [10] l).symm
  · rw [c0 1 x l d (by decide) hk (by omega) (by omega)]
    exact congrArg (fun g => some ([vI (w32 (vS K b x * 2))], g)) (ap (tS K) [10] l).symm
  · rw [c2 x l d (by omega) (by omega)]
    exact congrArg (fun g => some ([vI _], g)) (ap (tS K) [10, 30] l).symm
  · rw [c3 3 l d (by decide) hk (by omega) (by omega)]
    exact congrArg (fun g => some ([vI _], g)) (ap (tS K) [10, 30, 41] l).symm
  · rw [c0 4 x l d (by decide) hk (by omega) (by omega)]
    exact congrArg (fun g => some ([vI (w32 (vS K b x * 2))], g)) (ap (tS K) [10] l).symm
  · rw [c3 5 l d (by decide) hk (by omega) (by omega)]
    exact congrArg (fun g => some ([vI _], g)) (ap (tS K) [10, 30, 41] l).symm
  · rw [c0 6 x l d (by decide) hk (by omega) (by omega)]
    exact congrArg (fun g => some ([vI (w32 (vS K b x * 2))], g)) (ap (tS K) [10] l).symm
  · have sl := tS_l K
    refine c_rf (tC h l) 7 1 x d 7 80 _ _ (by decide) (by decide) (by omega) (by decide) (by decide) (by decide) (ca_n A l (by omega)) ?_ ⟨_, rfl⟩
    rw [if_neg (by decide), tC_cons, X0_runUnderWord_c, X0_runUnderWord_0]
    rw [if_neg (by decide), if_neg (by decide), if_neg (by decide), if_neg (by decide), if_neg (by decide), if_neg (by decide), if_neg (by decide), if_neg (by decide), if_pos rfl, if_pos (by omega), show mm_ct 104 7 = 6 from by decide, c0 6 x (80 :: l) (d + 1) (by decide) (by decide) (by simp; omega) (by omega), mm_be1, X0_runUnderWord_195, if_pos (by omega), ca_own A (tS K ++ (10 :: 80 :: l)) 2 2 (d + 1) (vO K K b 2) _ (by omega) (ca_O A (tS K ++ (10 :: 80 :: l)) (by simp; omega) K 2 (d + 1) A.2.2.2.1 (by omega)), mm_be1, X0_runUnderWord_203]
    show some ([vI (w32 (w32 (vS K b x * 2) + vO K K b 2))], tC h (tO K K ++ (tS K ++ (10 :: 80 :: l)))) = some ([vI (w32 (w32 (vS K b x * 2) + vO K K b 2))], tC h ((tO K K ++ (tS K ++ [10, 80])) ++ l))
    rw [List.append_assoc, List.append_assoc]
    rfl
/-- tells -/
theorem ca_T (A : mm_ac h K b) (l : List Int) (hl : l.length ≤ 700) (k x d : Int) (hk : 0 ≤ k ∧ k < 8) (hd : 0 ≤ d ∧ d < 8) : mm_call mX0_runFrom [vR 10, vI k, vI 3, vI x, vI d] (tC h l) = some ([vI (vT K k b x)], tC h (tT K k ++ l)) := by
  have hH := tH_l K K
  have c0 : ∀ (k : Int) (l : List Int) (d : Int), nx k 3 = 0 → 0 ≤ k ∧ k < 8 → l.length ≤ 720 → 0 ≤ d ∧ d < 16 → mm_call mX0_runFrom [vR 10, vI k, vI 3, vI x, vI d] (tC h l) = some ([vI (vP K b x)], tC h (tP K ++ l)) := by
    intro k l d hn hk hl hd
    refine c_rf (tC h l) k 3 x d 0 2 _ _ hk (by decide) (by omega) hn (by decide) (by decide) (ca_n A l (by omega)) ?_ ⟨_, rfl⟩
    rw [if_pos rfl, tC_cons, X0_runOfWord_c, X0_runOfWord_0, if_neg (by decide), if_neg (by decide), if_neg (by decide), if_pos (by omega), ca_own A (2 :: l) 1 x (d + 1) (vH K K b x) _ (by omega) (ca_H A (2 :: l) (by simp; omega) K x (d + 1) A.2.2.2.1 (by omega)), mm_be1, X0_runOfWord_67, if_pos (by omega), ca_own A (tH' K K ++ (2 :: l)) 2 1 (d + 1) (vO K K b 1) _ (by omega) (ca_O A (tH' K K ++ (2 :: l)) (by simp; omega) K 1 (d + 1) A.2.2.2.1 (by omega)), mm_be1, X0_runOfWord_74]
    show some ([vI (vP K b x)], tC h (tO K K ++ (tH' K K ++ (2 :: l)))) = some ([vI (vP K b x)], tC h ((tO K K ++ (tH' K K ++ [2])) ++ l))
    rw [List.append_assoc, List.append_assoc]
    rfl
  have ap : ∀ a b c : List Int, tC h ((a ++ b) ++ c) = tC h (a ++ (b ++ c)) := fun a b c => by rw [List.append_assoc]
  rcases kd8 hk with rfl | rfl | rfl | rfl | rfl | rfl | rfl | rfl
  · exact c0 0 l d (by decide) hk (by omega) (by omega)
  · exact c0 1 l d (by decide) hk (by omega) (by omega)
  · exact c0 2 l d (by decide) hk (by omega) (by omega)
  · exact c0 3 l d (by decide) hk (by omega) (by omega)
  · refine c_rf (tC h l) 4 3 x d 4 50 _ _ (by decide) (by decide) (by omega) (by decide) (by decide) (by decide) (ca_n A l (by omega)) ?_ ⟨_, rfl⟩
    rw [if_neg (by decide), tC_cons, X0_runUnderWord_c, X0_runUnderWord_0, if_neg (by decide), if_neg (by decide), if_neg (by decide), if_neg (by decide), if_pos rfl, if_pos (by omega), show mm_ct 104 4 = 1 from by decide, c0 1 (50 :: l) (d + 1) (by decide) (by decide) (by simp; omega) (by omega), mm_be1, X0_runUnderWord_140]
    exact congrArg (fun g => some ([vI _], g)) (ap (tP K) [50] l).symm
  · refine c_rf (tC h l) 5 3 x d 5 61 _ _ (by decide) (by decide) (by omega) (by decide) (by decide) (by decide) (ca_n A l (by omega)) ?_ ⟨_, rfl⟩
    rw [if_neg (by decide), tC_cons, X0_runUnderWord_c, X0_runUnderWord_0, if_neg (by decide), if_neg (by decide), if_neg (by decide), if_neg (by decide), if_neg (by decide), if_neg (by decide), if_pos rfl, if_pos (by omega), show mm_ct 104 5 = 3 from by decide, c0 3 (61 :: l) (d + 1) (by decide) (by decide) (by simp; omega) (by omega), mm_be1, X0_runUnderWord_171]
    exact congrArg (fun g => some ([vI _], g)) (ap (tP K) [61] l).symm
  · exact c0 6 l d (by decide) hk (by omega) (by omega)
  · exact c0 7 l d (by decide) hk (by omega) (by omega)
end CA
