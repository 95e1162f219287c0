/-! the reference lays a route: where a post stands -/
theorem L_placeOf (h : mm_M) (p : Int) (n0 : 0 ≤ h 47 35) (n7 : h 47 35 ≤ 7) : ∀ (m : Nat) (k : Int), 0 ≤ k → k ≤ h 47 35 → h 47 35 - k ≤ m → (∃ j, k ≤ j ∧ j < h 47 35 ∧ h 68 j = p ∧ mm_ev mX10_placeOf 1 2 [some (vR 47), some (vI p), some (vI k)] [] h = some ([vI j], h) ∧ ∀ i, k ≤ i → i < j → ¬ h 68 i = p) ∨ ((∀ i, k ≤ i → i < h 47 35 → ¬ h 68 i = p) ∧ mm_ev mX10_placeOf 1 2 [some (vR 47), some (vI p), some (vI k)] [] h = some ([vI (-1)], h)) := by
  intro m
  induction m with
  | zero =>
    intro k k0 kn hm
    refine Or.inr ⟨fun i a b => by omega, ?_⟩
    rw [X10_placeOf_2, if_pos (by omega)]
  | succ m ih =>
    intro k k0 kn hm
    by_cases z : h 47 35 ≤ k
    · refine Or.inr ⟨fun i a b => by omega, ?_⟩
      rw [X10_placeOf_2, if_pos z]
    · by_cases q : h 68 k = p
      · refine Or.inl ⟨k, by omega, by omega, q, ?_, fun i a b => by omega⟩
        rw [X10_placeOf_2, if_neg z, if_pos (by omega), if_neg (fun w => w q)]
      · have w1 : w32 (k + 1) = k + 1 := w32_id (by unfold mm_r32; omega)
        have e : mm_ev mX10_placeOf 1 2 [some (vR 47), some (vI p), some (vI k)] [] h = mm_ev mX10_placeOf 1 2 [some (vR 47), some (vI p), some (vI (k + 1))] [] h := by
          rw [X10_placeOf_2, if_neg z, if_pos (by omega), if_pos q, w1]
        rw [e]
        rcases ih (k + 1) (by omega) (by omega) (by omega) with ⟨j, j1, j2, j3, j4, j5⟩ | ⟨a, b⟩
        · refine Or.inl ⟨j, by omega, j2, j3, j4, fun i a b => ?_⟩
          by_cases q2 : i = k
          · rw [q2]
            exact q
          · exact j5 i (by omega) b
        · refine Or.inr ⟨fun i c d => ?_, b⟩
          by_cases q2 : i = k
          · rw [q2]
            exact q
          · exact a i (by omega) d
theorem s_placeOf (h : mm_M) (p : Int) (n0 : 0 ≤ h 47 35) (n7 : h 47 35 ≤ 7) : (∃ j, 0 ≤ j ∧ j < h 47 35 ∧ h 68 j = p ∧ mm_call mX10_placeOf [vR 47, vI p] h = some ([vI j], h) ∧ ∀ i, 0 ≤ i → i < j → ¬ h 68 i = p) ∨ ((∀ i, 0 ≤ i → i < h 47 35 → ¬ h 68 i = p) ∧ mm_call mX10_placeOf [vR 47, vI p] h = some ([vI (-1)], h)) := by
  rw [X10_placeOf_c]
  exact L_placeOf h p n0 n7 7 0 (by omega) n0 (by omega)
