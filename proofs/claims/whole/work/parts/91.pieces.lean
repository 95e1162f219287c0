/-! the law: pieces of code -/
theorem ht_add (w : Int → Int) (A : Int) (n : Nat) : ∀ k : Nat, mm_ht w A (n + k) = mm_ht w A n + mm_ht w (A + n) k := by
  intro k
  induction k with
  | zero => exact (Int.add_zero _).symm
  | succ k ih =>
    have e1 : mm_ht w A (n + (k + 1)) = mm_ht w A (n + k) + 1 - mm_nd (w (A + ((n + k : Nat) : Int))) := rfl
    have e2 : mm_ht w (A + n) (k + 1) = mm_ht w (A + n) k + 1 - mm_nd (w (A + (n : Int) + (k : Int))) := rfl
    have e3 : A + ((n + k : Nat) : Int) = A + (n : Int) + (k : Int) := by omega
    rw [e1, e2, ih, e3]
    omega
theorem ht_co {w w' : Int → Int} {A A' : Int} {n : Nat} (h : ∀ k : Nat, k < n → w (A + (k : Int)) = w' (A' + (k : Int))) : ∀ k : Nat, k ≤ n → mm_ht w A k = mm_ht w' A' k := by
  intro k
  induction k with
  | zero => intro _; rfl
  | succ k ih =>
    intro hk
    have e1 : mm_ht w A (k + 1) = mm_ht w A k + 1 - mm_nd (w (A + (k : Int))) := rfl
    have e2 : mm_ht w' A' (k + 1) = mm_ht w' A' k + 1 - mm_nd (w' (A' + (k : Int))) := rfl
    rw [e1, e2, ih (by omega), h k (by omega)]
theorem mm_E_co {c c' w w' x x' : Int → Int} {a a' A A' n M : Int} (h : ∀ k : Int, 0 ≤ k → k < n → c (a + k) = c' (a' + k) ∧ w (A + k) = w' (A' + k) ∧ x (A + k) = x' (A' + k)) (z : mm_E c a w x A n M) : mm_E c' a' w' x' A' n M := by
  obtain ⟨z1, z2, z3, z4⟩ := z
  have hw : ∀ k : Nat, k < n.toNat → w (A + (k : Int)) = w' (A' + (k : Int)) := fun k hk => (h k (by omega) (by omega)).2.1
  refine ⟨fun k k0 k1 => ?_, z2, ?_, fun k hk => ?_⟩
  · obtain ⟨e1, e2, e3⟩ := h k k0 k1
    rw [← e1, ← e2, ← e3]
    exact z1 k k0 k1
  · rw [← ht_co hw n.toNat (Nat.le_refl _)]
    exact z3
  · have a1 := z4 k hk
    rw [ht_co hw k (by omega), ht_co hw (k + 1) (by omega), hw k (by omega)] at a1
    exact a1
theorem mm_E_M {c w x : Int → Int} {a A n M M' : Int} (h : M ≤ M') (z : mm_E c a w x A n M) : mm_E c a w x A n M' := by
  obtain ⟨z1, z2, z3, z4⟩ := z
  refine ⟨z1, z2, z3, fun k hk => ?_⟩
  have := z4 k hk
  omega
theorem mm_E_1 {c w x : Int → Int} {a A M : Int} (t : mm_tr (c a) (w A) (x A)) (n0 : mm_nd (w A) = 0) (hM : 1 ≤ M) : mm_E c a w x A 1 M := by
  have e1 : mm_ht w A 1 = 1 := by
    show (0 : Int) + 1 - mm_nd (w (A + ((0 : Nat) : Int))) = 1
    rw [show A + ((0 : Nat) : Int) = A from Int.add_zero _, n0]
    rfl
  refine ⟨fun k k0 k1 => ?_, by decide, e1, fun k hk => ?_⟩
  · have : k = 0 := by omega
    subst this
    rw [Int.add_zero, Int.add_zero]
    exact t
  · have : k = 0 := by omega
    subst this
    rw [e1, show A + ((0 : Nat) : Int) = A from Int.add_zero _, n0]
    exact ⟨Int.le_refl _, hM⟩
theorem mm_E_top {c w x : Int → Int} {a A n M : Int} (z : mm_E c a w x A n M) : 1 ≤ M := by
  obtain ⟨z1, z2, z3, z4⟩ := z
  have := (z4 (n.toNat - 1) (by omega)).2
  rw [show n.toNat - 1 + 1 = n.toNat from by omega, z3] at this
  exact this
theorem mm_E_u {c w x : Int → Int} {a A n M : Int} (z : mm_E c a w x A n M) (t : mm_tr (c (a + n)) (w (A + n)) (x (A + n))) (n1 : mm_nd (w (A + n)) = 1) : mm_E c a w x A (n + 1) M := by
  have top := mm_E_top z
  obtain ⟨z1, z2, z3, z4⟩ := z
  have en : ((n.toNat : Nat) : Int) = n := by omega
  have e1 : mm_ht w A (n.toNat + 1) = 1 := by
    show mm_ht w A n.toNat + 1 - mm_nd (w (A + (n.toNat : Int))) = 1
    rw [en, z3, n1]
    rfl
  refine ⟨fun k k0 k1 => ?_, by omega, ?_, fun k hk => ?_⟩
  · by_cases q : k = n
    · rw [q]
      exact t
    · exact z1 k k0 (by omega)
  · rw [show (n + 1).toNat = n.toNat + 1 from by omega]
    exact e1
  · by_cases q : (k : Int) = n
    · have qk : k = n.toNat := by omega
      rw [qk, e1, en, n1, z3]
      exact ⟨Int.le_refl _, top⟩
    · exact z4 k (by omega)
theorem mm_E_b {c w x : Int → Int} {a A n n2 M M2 : Int} (z : mm_E c a w x A n M) (y : mm_E c (a + n) w x (A + n) n2 M2) (hM : M2 + 1 ≤ M) (t : mm_tr (c (a + (n + n2))) (w (A + (n + n2))) (x (A + (n + n2)))) (n1 : mm_nd (w (A + (n + n2))) = 2) : mm_E c a w x A (n + n2 + 1) M := by
  have top := mm_E_top z
  obtain ⟨z1, z2, z3, z4⟩ := z
  obtain ⟨y1, y2, y3, y4⟩ := y
  have en : ((n.toNat : Nat) : Int) = n := by omega
  have add : ∀ k : Nat, mm_ht w A (n.toNat + k) = 1 + mm_ht w (A + n) k := fun k => by
    rw [ht_add, z3, en]
  have e1 : mm_ht w A (n.toNat + n2.toNat) = 2 := by
    rw [add, y3]
    rfl
  have e2 : mm_ht w A (n.toNat + n2.toNat + 1) = 1 := by
    show mm_ht w A (n.toNat + n2.toNat) + 1 - mm_nd (w (A + ((n.toNat + n2.toNat : Nat) : Int))) = 1
    rw [e1, show ((n.toNat + n2.toNat : Nat) : Int) = n + n2 from by omega, n1]
    rfl
  refine ⟨fun k k0 k1 => ?_, by omega, ?_, fun k hk => ?_⟩
  · by_cases q : k < n
    · exact z1 k k0 q
    · by_cases q2 : k < n + n2
      · have t := y1 (k - n) (by omega) (by omega)
        rw [show a + n + (k - n) = a + k from by omega, show A + n + (k - n) = A + k from by omega] at t
        exact t
      · rw [show k = n + n2 from by omega]
        exact t
  · rw [show (n + n2 + 1).toNat = n.toNat + n2.toNat + 1 from by omega]
    exact e2
  · by_cases q : (k : Int) < n
    · exact z4 k q
    · by_cases q2 : (k : Int) < n + n2
      · obtain ⟨j, hj⟩ : ∃ j : Nat, k = n.toNat + j := ⟨k - n.toNat, by omega⟩
        have t := y4 j (by omega)
        rw [hj, add j, show n.toNat + j + 1 = n.toNat + (j + 1) from rfl, add (j + 1), show A + ((n.toNat + j : Nat) : Int) = A + n + (j : Int) from by omega]
        omega
      · have qk : k = n.toNat + n2.toNat := by omega
        rw [qk, e1, e2, show ((n.toNat + n2.toNat : Nat) : Int) = n + n2 from by omega, n1]
        exact ⟨Int.le_refl _, top⟩
