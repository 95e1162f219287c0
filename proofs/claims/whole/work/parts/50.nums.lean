/-! what the numbers say on both sides -/
theorem mm_be1 (x : mm_V) (g : mm_M) (K : mm_K) (r pc : Nat) (L : mm_L) (S : List mm_V) : (some (([x], g) : List mm_V × mm_M)).bind (fun w => mm_ev K r pc L (w.1 ++ S) w.2) = mm_ev K r pc L (x :: S) g := rfl
theorem mm_be0 (g : mm_M) (K : mm_K) (r pc : Nat) (L : mm_L) (S : List mm_V) : (some ((([] : List mm_V), g) : List mm_V × mm_M)).bind (fun w => mm_ev K r pc L (w.1 ++ S) w.2) = mm_ev K r pc L S g := rfl
theorem N0 {h : mm_M} (z : mm_RN h) (k : Int) (a : 0 ≤ k) (b : k < 7) : h 48 k = h 11 k ∧ 0 ≤ h 11 k ∧ h 11 k ≤ 99 := by
  have t := z.2.2.2 0 k ⟨by decide, by decide, a, b⟩
  rw [show mm_ct 100 0 + k = k from by show 0 + k = k; omega] at t
  exact ⟨t.1, t.2.1, t.2.2⟩
theorem N1 {h : mm_M} (z : mm_RN h) (k : Int) (a : 0 ≤ k) (b : k < 7) : h 49 k = h 11 (7 + k) ∧ 0 ≤ h 11 (7 + k) ∧ h 11 (7 + k) ≤ 99 := by
  have t := z.2.2.2 1 k ⟨by decide, by decide, a, b⟩
  exact ⟨t.1, t.2.1, t.2.2⟩
theorem N2 {h : mm_M} (z : mm_RN h) (k : Int) (a : 0 ≤ k) (b : k < 7) : h 50 k = h 11 (14 + k) ∧ 0 ≤ h 11 (14 + k) ∧ h 11 (14 + k) ≤ 12 := by
  have t := z.2.2.2 2 k ⟨by decide, by decide, a, b⟩
  exact ⟨t.1, t.2.1, t.2.2⟩
theorem N3 {h : mm_M} (z : mm_RN h) (k : Int) (a : 0 ≤ k) (b : k < 10) : h 51 k = h 11 (21 + k) ∧ 1 ≤ h 11 (21 + k) ∧ h 11 (21 + k) ≤ 9 := by
  have t := z.2.2.2 3 k ⟨by decide, by decide, a, b⟩
  exact ⟨t.1, t.2.1, t.2.2⟩
theorem N4 {h : mm_M} (z : mm_RN h) (k : Int) (a : 0 ≤ k) (b : k < 10) : h 52 k = h 11 (31 + k) ∧ 0 ≤ h 11 (31 + k) ∧ h 11 (31 + k) ≤ 9 := by
  have t := z.2.2.2 4 k ⟨by decide, by decide, a, b⟩
  exact ⟨t.1, t.2.1, t.2.2⟩
theorem N5 {h : mm_M} (z : mm_RN h) (k : Int) (a : 0 ≤ k) (b : k < 4) : h 53 k = h 11 (41 + k) ∧ 0 ≤ h 11 (41 + k) ∧ h 11 (41 + k) ≤ 999 := by
  have t := z.2.2.2 5 k ⟨by decide, by decide, a, b⟩
  exact ⟨t.1, t.2.1, t.2.2⟩
theorem N6 {h : mm_M} (z : mm_RN h) (k : Int) (a : 0 ≤ k) (b : k < 4) : h 54 k = h 11 (45 + k) ∧ 0 ≤ h 11 (45 + k) ∧ h 11 (45 + k) ≤ 999 := by
  have t := z.2.2.2 6 k ⟨by decide, by decide, a, b⟩
  exact ⟨t.1, t.2.1, t.2.2⟩
theorem N7 {h : mm_M} (z : mm_RN h) (k : Int) (a : 0 ≤ k) (b : k < 4) : h 55 k = h 11 (49 + k) ∧ 0 ≤ h 11 (49 + k) ∧ h 11 (49 + k) ≤ 6 := by
  have t := z.2.2.2 7 k ⟨by decide, by decide, a, b⟩
  exact ⟨t.1, t.2.1, t.2.2⟩
theorem N8 {h : mm_M} (z : mm_RN h) : h 47 10 = h 11 53 ∧ 0 ≤ h 11 53 ∧ h 11 53 ≤ 9 := by
  have t := z.2.2.2 8 0 ⟨by decide, by decide, by decide, by decide⟩
  exact ⟨t.1, t.2.1, t.2.2⟩
theorem N9 {h : mm_M} (z : mm_RN h) : h 47 11 = h 11 54 ∧ 0 ≤ h 11 54 ∧ h 11 54 ≤ 9 := by
  have t := z.2.2.2 9 0 ⟨by decide, by decide, by decide, by decide⟩
  exact ⟨t.1, t.2.1, t.2.2⟩
theorem N10 {h : mm_M} (z : mm_RN h) : h 47 12 = h 11 55 ∧ 0 ≤ h 11 55 ∧ h 11 55 ≤ 999 := by
  have t := z.2.2.2 10 0 ⟨by decide, by decide, by decide, by decide⟩
  exact ⟨t.1, t.2.1, t.2.2⟩
theorem N11 {h : mm_M} (z : mm_RN h) : h 47 13 = h 11 56 ∧ 0 ≤ h 11 56 ∧ h 11 56 ≤ 999 := by
  have t := z.2.2.2 11 0 ⟨by decide, by decide, by decide, by decide⟩
  exact ⟨t.1, t.2.1, t.2.2⟩
theorem N_xy {h : mm_M} (z : mm_RN h) : ∀ i : Int, 0 ≤ i → i < 14 → 0 ≤ h 11 i ∧ h 11 i ≤ 99 := fun i a b => by
  by_cases q : i < 7
  · exact (N0 z i a q).2
  · have := (N1 z (i - 7) (by omega) (by omega)).2
    rw [show 7 + (i - 7) = i from by omega] at this
    exact this
theorem N_rxy {h : mm_M} (z : mm_RN h) : ∀ i : Int, 0 ≤ i → i < 7 → (0 ≤ h 48 i ∧ h 48 i ≤ 99) ∧ 0 ≤ h 49 i ∧ h 49 i ≤ 99 := fun i a b => by
  obtain ⟨x1, x2, x3⟩ := N0 z i a b
  obtain ⟨y1, y2, y3⟩ := N1 z i a b
  rw [x1, y1]
  exact ⟨⟨x2, x3⟩, y2, y3⟩
theorem N_di {h : mm_M} (z : mm_RN h) (p q : Int) (hp : 0 ≤ p ∧ p < 7) (hq : 0 ≤ q ∧ q < 7) : rDi h p q = wDi h p q := by
  unfold rDi wDi
  rw [(N0 z p hp.1 hp.2).1, (N0 z q hq.1 hq.2).1, (N1 z p hp.1 hp.2).1, (N1 z q hq.1 hq.2).1]
