/-! fractions in lowest terms -/
theorem lCmp_z {v : Int} : (lCmp v 0 = 0) ↔ v = 0 := by
  unfold lCmp
  repeat' split
  all_goals omega
theorem lCmp_p {v : Int} : 0 < lCmp v 0 ↔ 0 < v := by
  unfold lCmp
  repeat' split
  all_goals omega
theorem tmod_half {y r : Int} (r0 : 0 < r) (ry : r < y) : 0 ≤ y.tmod r ∧ y.tmod r < r ∧ 2 * y.tmod r < y := by
  have a := Int.tmod_nonneg (a := y) r (by omega)
  have b := Int.tmod_lt_of_pos y r0
  refine ⟨a, b, ?_⟩
  rw [Int.tmod_eq_emod_of_nonneg (by omega)] at a b ⊢
  have e := Int.mul_ediv_add_emod y r
  have q1 : 1 ≤ y / r := by
    apply Classical.byContradiction
    intro w
    have : r * (y / r) ≤ r * 0 := Int.mul_le_mul_of_nonneg_left (by omega) (by omega)
    omega
  have : r * 1 ≤ r * (y / r) := Int.mul_le_mul_of_nonneg_left q1 (by omega)
  omega
theorem gcd_both : ∀ (m : Nat) (x y : Int), 0 ≤ x → 0 ≤ y → y < 2 ^ m → (0 < x ∨ 0 < y) → ∃ G, 0 < G ∧ (∀ (h : mm_M) (a0 a2 s : Int) (o : Option mm_V), 0 ≤ s → s + 2 * m + 2 ≤ 200 → mm_ev mX9_commonDivisor 1 9 [some (vL a0), none, some (vL a2), none, some (vL x), none, some (vL y), none, some (vI s), o, none] [] h = some ([vL G], h)) ∧ ∀ (f : mm_M) (a0 a2 p : Int) (o : Option mm_V), ∃ o', mm_ev mX10_asPart 1 6 [some (vL a0), none, some (vL a2), none, some (vI p), some (vL x), none, some (vL y), none, o, none] [] f = mm_ev mX10_asPart 1 6 [some (vL a0), none, some (vL a2), none, some (vI p), some (vL G), none, some (vL 0), none, o', none] [] f := by
  have fin : ∀ x : Int, 0 < x → (∀ (h : mm_M) (a0 a2 s : Int) (o : Option mm_V), 0 ≤ s → s ≤ 200 → mm_ev mX9_commonDivisor 1 9 [some (vL a0), none, some (vL a2), none, some (vL x), none, some (vL 0), none, some (vI s), o, none] [] h = some ([vL x], h)) := by
    intro x x0 h a0 a2 s o s0 s2
    rw [X9_commonDivisor_9]
    by_cases q : 200 ≤ s
    · rw [if_pos q]
    · rw [if_neg q, if_pos (lCmp_z.2 rfl)]
  have stepC : ∀ (x y : Int) (h : mm_M) (a0 a2 s : Int) (o : Option mm_V), 0 ≤ s → s < 200 → ¬ y = 0 → mm_ev mX9_commonDivisor 1 9 [some (vL a0), none, some (vL a2), none, some (vL x), none, some (vL y), none, some (vI s), o, none] [] h = mm_ev mX9_commonDivisor 1 9 [some (vL a0), none, some (vL a2), none, some (vL y), none, some (vL (x.tmod y)), none, some (vI (s + 1)), some (vL (x.tmod y)), none] [] h := by
    intro x y h a0 a2 s o s0 s2 y0
    have w4 : w32 (s + 1) = s + 1 := w32_id (by unfold mm_r32; omega)
    rw [X9_commonDivisor_9, if_neg (by omega), if_neg (fun w => y0 (lCmp_z.1 w)), if_neg y0, w4]
  have stepR : ∀ (x y : Int) (f : mm_M) (a0 a2 p : Int) (o : Option mm_V), ¬ y = 0 → mm_ev mX10_asPart 1 6 [some (vL a0), none, some (vL a2), none, some (vI p), some (vL x), none, some (vL y), none, o, none] [] f = mm_ev mX10_asPart 1 6 [some (vL a0), none, some (vL a2), none, some (vI p), some (vL y), none, some (vL (x.tmod y)), none, some (vL (x.tmod y)), none] [] f := by
    intro x y f a0 a2 p o y0
    rw [X10_asPart_6, if_neg (fun w => y0 (lCmp_z.1 w)), if_neg y0]
  intro m
  induction m with
  | zero =>
    intro x y x0 y0 ym hxy
    have : y = 0 := by
      have : (2 : Int) ^ 0 = 1 := rfl
      omega
    subst this
    exact ⟨x, by omega, fun h a0 a2 s o s0 s2 => fin x (by omega) h a0 a2 s o s0 (by omega), fun f a0 a2 p o => ⟨o, rfl⟩⟩
  | succ m ih =>
    intro x y x0 y0 ym hxy
    have P : (2 : Int) ^ (m + 1) = 2 ^ m * 2 := Int.pow_succ 2 m
    by_cases q : y = 0
    · subst q
      exact ⟨x, by omega, fun h a0 a2 s o s0 s2 => fin x (by omega) h a0 a2 s o s0 (by omega), fun f a0 a2 p o => ⟨o, rfl⟩⟩
    · have r0 := Int.tmod_nonneg (a := x) y x0
      have r1 := Int.tmod_lt_of_pos x (show 0 < y by omega)
      by_cases qr : x.tmod y = 0
      · refine ⟨y, by omega, fun h a0 a2 s o s0 s2 => ?_, fun f a0 a2 p o => ⟨_, (stepR x y f a0 a2 p o q).trans (by rw [qr])⟩⟩
        rw [stepC x y h a0 a2 s o s0 (by omega) q, qr]
        exact fin y (by omega) h a0 a2 (s + 1) _ (by omega) (by omega)
      · obtain ⟨t0, t1, t2⟩ := tmod_half (show 0 < x.tmod y by omega) r1
        obtain ⟨G, G0, A, B⟩ := ih (x.tmod y) (y.tmod (x.tmod y)) (by omega) t0 (by omega) (Or.inl (by omega))
        refine ⟨G, G0, fun h a0 a2 s o s0 s2 => ?_, fun f a0 a2 p o => ?_⟩
        · rw [stepC x y h a0 a2 s o s0 (by omega) q, stepC y _ h a0 a2 (s + 1) _ (by omega) (by omega) qr]
          exact A h a0 a2 (s + 1 + 1) _ (by omega) (by omega)
        · obtain ⟨o', e⟩ := B f a0 a2 p (some (vL (y.tmod (x.tmod y))))
          refine ⟨o', ?_⟩
          rw [stepR x y f a0 a2 p o q, stepR y _ f a0 a2 p _ qr]
          exact e
/-- above and below the line, on both sides -/
theorem part_both (u d p : Int) (u0 : 0 ≤ u) (d0 : 0 < d) (d1 : d < 2 ^ 50) : ∃ v, (∀ h : mm_M, mm_call mX9_partOf [vL u, vL d, vI p] h = some ([vL v], h)) ∧ ∀ f : mm_M, mm_call mX10_asPart [vL u, vL d, vI p] f = some ([vL v], f) := by
  obtain ⟨G, G0, A, B⟩ := gcd_both 50 u d u0 (by omega) d1 (Or.inr d0)
  refine ⟨if p = 0 then w64 (u.tdiv G) else w64 (d.tdiv G), fun h => ?_, fun f => ?_⟩
  · rw [X9_partOf_c, X9_commonDivisor_c, A h u d 0 none (by decide) (by decide), mm_be1, X9_partOf_5, if_pos (lCmp_p.2 G0)]
    by_cases q : p = 0
    · rw [if_neg (fun w => w q), if_neg (by omega), if_pos q]
    · rw [if_pos q, if_neg (by omega), if_neg q]
  · obtain ⟨o', e⟩ := B f u d p none
    rw [X10_asPart_c, e, X10_asPart_6, if_pos (lCmp_z.2 rfl)]
    by_cases q : p = 0
    · rw [if_neg (fun w => w q), if_neg (by omega), if_pos q]
    · rw [if_pos q, if_neg (by omega), if_neg q]
theorem part_one (p : Int) (h : mm_M) : mm_call mX9_partOf [vL 144, vL 144, vI p] h = some ([vL 1], h) := by
  have cd : mm_call mX9_commonDivisor [vL 144, vL 144] h = some ([vL 144], h) := by
    rw [X9_commonDivisor_c, X9_commonDivisor_9, if_neg (by decide), if_neg (by decide), if_neg (by decide), show (144 : Int).tmod 144 = 0 from by decide, show w32 (0 + 1) = 1 from by decide, X9_commonDivisor_9, if_neg (by decide), if_pos (by decide)]
  rw [X9_partOf_c, cd, mm_be1, X9_partOf_5, if_pos (by decide)]
  by_cases q : p = 0
  · rw [if_neg (fun w => w q), if_neg (by decide)]
    rfl
  · rw [if_pos q, if_neg (by decide)]
    rfl
/-! products -/
def prN (A : Int → Int) : Nat → Int
  | 0 => 1
  | j + 1 => prN A j * A (j : Int)
theorem prN_b {A : Int → Int} : ∀ j : Nat, (∀ i : Int, 0 ≤ i → i < j → 0 ≤ A i ∧ A i ≤ 144) → 0 ≤ prN A j ∧ prN A j ≤ 144 ^ j := by
  intro j
  induction j with
  | zero => intro _; exact ⟨by show (0 : Int) ≤ 1; decide, by show (1 : Int) ≤ 1; decide⟩
  | succ j ih =>
    intro h
    obtain ⟨a, b⟩ := ih (fun i i0 i1 => h i i0 (by omega))
    obtain ⟨c, d⟩ := h j (by omega) (by omega)
    refine ⟨Int.mul_nonneg a c, ?_⟩
    show prN A j * A (j : Int) ≤ 144 ^ (j + 1)
    rw [Int.pow_succ]
    exact Int.mul_le_mul b d c (by omega)
theorem prN_6 {A : Int → Int} (j : Nat) (j6 : j ≤ 6) (h : ∀ i : Int, 0 ≤ i → i < j → 0 ≤ A i ∧ A i ≤ 144) : 0 ≤ prN A j ∧ prN A j ≤ 8916100448256 := by
  obtain ⟨a, b⟩ := prN_b j h
  refine ⟨a, ?_⟩
  have jj : j = 0 ∨ j = 1 ∨ j = 2 ∨ j = 3 ∨ j = 4 ∨ j = 5 ∨ j = 6 := by omega
  rcases jj with rfl | rfl | rfl | rfl | rfl | rfl | rfl
  all_goals
    refine Int.le_trans b ?_
    decide
theorem prN_s {A : Int → Int} {k : Int} (k0 : 0 ≤ k) : prN A (k + 1).toNat = prN A k.toNat * A k := by
  rw [show (k + 1).toNat = k.toNat + 1 from by omega]
  show prN A k.toNat * A (k.toNat : Int) = _
  rw [show (k.toNat : Int) = k from by omega]
theorem prN_co {A B : Int → Int} : ∀ j : Nat, (∀ i : Int, 0 ≤ i → i < j → A i = B i) → prN A j = prN B j := by
  intro j
  induction j with
  | zero => intro _; rfl
  | succ j ih =>
    intro h
    show prN A j * A (j : Int) = prN B j * B (j : Int)
    rw [ih (fun i i0 i1 => h i i0 (by omega)), h j (by omega) (by omega)]
theorem prN_144 (j : Nat) (j6 : j ≤ 6) : 0 < prN (fun _ => 144) j ∧ prN (fun _ => 144) j < 2 ^ 50 := by
  have jj : j = 0 ∨ j = 1 ∨ j = 2 ∨ j = 3 ∨ j = 4 ∨ j = 5 ∨ j = 6 := by omega
  rcases jj with rfl | rfl | rfl | rfl | rfl | rfl | rfl <;> decide
