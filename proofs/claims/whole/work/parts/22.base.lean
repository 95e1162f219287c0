/-! words for the equivalence: scratch places, what holds between class and reference -/
theorem mUp_at (h : mm_M) (c : Nat) (i v : Int) (c' : Nat) (i' : Int) : mUp h c i v c' i' = if c' = c ∧ i' = i then v else h c' i' := rfl
theorem mUp_self (h : mm_M) (c : Nat) (i v : Int) : mUp h c i v c i = v := by rw [mUp_at, if_pos ⟨rfl, rfl⟩]
theorem mUp_nei {h : mm_M} {c : Nat} {i v : Int} {c' : Nat} {i' : Int} (z : i' ≠ i) : mUp h c i v c' i' = h c' i' := by rw [mUp_at, if_neg (fun w => z w.2)]
theorem mm_b01 (p : Prop) [Decidable p] : ((if p then (1 : Int) else 0) = 0) = ¬ p := by by_cases h : p <;> simp [h]
theorem mm_b01' (p : Prop) [Decidable p] : ((if p then (1 : Int) else 0) = 1) = p := by by_cases h : p <;> simp [h]
theorem mm_bs {α β : Type} (a : α) (f : α → Option β) : (some a).bind f = f a := rfl
theorem mm_ap (v : mm_V) (l : List mm_V) : [v] ++ l = v :: l := rfl
theorem mm_ap0 (l : List mm_V) : ([] : List mm_V) ++ l = l := rfl
/-- places that nothing outlives: routes, chances, what was said, searches, the parser's and the pile's own -/
def mm_sc (c : Nat) (k : Int) : Prop := c = 4 ∨ c = 5 ∨ (23 ≤ c ∧ c ≤ 36) ∨ c = 6 ∨ c = 7 ∨ c = 8 ∨ c = 18 ∨ (c = 2 ∧ (k = 2 ∨ k = 3 ∨ k = 5 ∨ k = 9)) ∨ c = 66 ∨ c = 67 ∨ c = 68 ∨ c = 69 ∨ c = 70 ∨ c = 82 ∨ (c = 47 ∧ (k = 22 ∨ k = 23 ∨ k = 24 ∨ k = 25 ∨ k = 35 ∨ k = 38 ∨ k = 39))
def mm_Sm (h h' : mm_M) : Prop := ∀ c k, ¬ mm_sc c k → h' c k = h c k
theorem mm_Sm.rf {h : mm_M} : mm_Sm h h := fun _ _ _ => rfl
theorem mm_Sm.tr {h h1 h2 : mm_M} (a : mm_Sm h h1) (b : mm_Sm h1 h2) : mm_Sm h h2 := fun c k z => (b c k z).trans (a c k z)
theorem mm_Sm.up {h h1 : mm_M} (a : mm_Sm h h1) {c : Nat} {i v : Int} (z : mm_sc c i) : mm_Sm h (mUp h1 c i v) := fun c' k w => by
  rw [mUp_at, if_neg (fun q => w (by rw [q.1, q.2]; exact z))]
  exact a c' k w
/-- a post's former word and since when -/
def mm_RH (a s b t : Int) : Prop := (a = -2000000000 ∧ b = -1) ∨ (a = b ∧ 0 ≤ a ∧ a ≤ 9 ∧ s = t ∧ 0 ≤ s ∧ s ≤ 9999)
/-- a night in deed -/
def mm_RD (h : mm_M) : Prop := h 47 43 = h 9 0 ∧ 0 ≤ h 9 0 ∧ h 9 0 ≤ 9999 ∧ (∀ p : Int, 0 ≤ p → p < h 1 1 → h 71 p = h 37 p ∧ 0 ≤ h 37 p ∧ h 37 p ≤ 9 ∧ mm_RH (h 38 p) (h 39 p) (h 72 p) (h 73 p)) ∧ ∀ k : Int, 0 ≤ k → k < 4 → h 74 k = h 40 k
/-- the image -/
def mm_RI (h : mm_M) : Prop := h 47 45 = h 9 5 ∧ -1 ≤ h 9 5 ∧ h 9 5 ≤ 7 ∧ (0 ≤ h 9 5 → h 47 46 = h 9 6 ∧ 0 ≤ h 9 6 ∧ h 9 6 ≤ 9999 ∧ (∀ p : Int, 0 ≤ p → p < h 9 5 → h 75 (3 * p) = h 41 p ∧ 0 ≤ h 41 p ∧ h 41 p ≤ 9 ∧ mm_RH (h 42 p) (h 43 p) (h 75 (3 * p + 1)) (h 75 (3 * p + 2))) ∧ ∀ k : Int, 0 ≤ k → k < 4 → h 76 k = h 44 k)
/-- what mend tells -/
def mm_vAt (h : mm_M) (w k : Int) : Int := if w = 0 then h 48 k else if w = 1 then h 49 k else if w = 2 then h 50 k else if w = 3 then h 51 k else if w = 4 then h 52 k else if w = 5 then h 53 k else if w = 6 then h 54 k else if w = 7 then h 55 k else if w = 8 then h 47 10 else if w = 9 then h 47 11 else if w = 10 then h 47 12 else h 47 13
def mm_wk (w k : Int) : Prop := 0 ≤ w ∧ w < 12 ∧ 0 ≤ k ∧ k < mm_ct 101 w
def mm_inr (w v : Int) : Prop := mm_ct 102 w ≤ v ∧ v ≤ mm_ct 103 w
def mm_RN (h : mm_M) : Prop := 0 ≤ h 1 1 ∧ h 1 1 ≤ 7 ∧ h 47 1 = h 1 1 ∧ ∀ w k : Int, mm_wk w k → mm_vAt h w k = h 11 (mm_ct 100 w + k) ∧ mm_inr w (h 11 (mm_ct 100 w + k))
/-- what was changed -/
def mm_RU (h : mm_M) : Prop := h 47 14 = h 1 2 ∧ h 47 15 = h 1 3 ∧ 0 ≤ h 1 2 ∧ 0 ≤ h 1 3 ∧ h 1 2 + h 1 3 ≤ 40 ∧ 0 ≤ h 1 4 ∧ h 1 4 < 40 ∧ ∀ j : Int, 0 ≤ j → j < h 1 2 + h 1 3 → mm_wk (h 56 j) (h 57 j) ∧ h 12 ((h 1 4 + j) % 40) = mm_ct 100 (h 56 j) + h 57 j ∧ h 13 ((h 1 4 + j) % 40) = h 58 j ∧ h 14 ((h 1 4 + j) % 40) = h 59 j ∧ mm_inr (h 56 j) (h 58 j) ∧ mm_inr (h 56 j) (h 59 j)
/-- bodies -/
def mm_RB (h : mm_M) : Prop := h 47 49 = h 10 0 ∧ 0 ≤ h 10 0 ∧ h 10 0 ≤ 50 ∧ (∀ i : Int, 0 ≤ i → i < h 10 0 → h 77 i = h 46 i ∧ 0 ≤ h 46 i ∧ h 46 i < 8) ∧ h 47 51 = h 10 1 ∧ 0 ≤ h 10 1 ∧ h 10 1 ≤ 1000 ∧ ∀ i : Int, 0 ≤ i → i < h 10 1 → i < 24 → h 78 i = h 45 i
/-- shelves -/
def mm_RS (h : mm_M) : Prop := ∀ s : Int, 0 ≤ s → s < 6 → -2 ≤ h 19 s ∧ h 19 s < 5 ∧ h 79 s = (if h 19 s = -1 then -1 else if h 19 s = -2 then h 21 s else -2 - h 19 s) ∧ (h 19 s = -2 → 0 ≤ h 21 s ∧ h 21 s < h 10 0) ∧ 0 ≤ h 20 s ∧ h 20 s ≤ 60 ∧ (h 19 s < 0 → h 20 s = 0) ∧ (0 ≤ h 19 s → h 80 s = h 20 s ∧ ∀ i : Int, 0 ≤ i → i < h 20 s → h 81 (60 * s + i) = h 22 (s * 60 + i) ∧ mm_r64 (h 22 (s * 60 + i)))
/-- the tape -/
def mm_RT (h : mm_M) : Prop := h 47 21 = h 2 0 ∧ 0 ≤ h 2 0 ∧ h 2 0 ≤ 120 ∧ ∀ i : Int, 0 ≤ i → i < h 2 0 → 0 ≤ h 15 i ∧ h 15 i ≤ 255 ∧ h 60 i = w8 (h 15 i)
/-! leaves -/
theorem s_in (h : mm_M) (a b c : Int) : mm_call mX10_in [vI a, vI b, vI c] h = some ([vI (if b ≤ a ∧ a ≤ c then 1 else 0)], h) := by
  rw [X10_in_c]
  by_cases z : a < b
  · rw [if_pos z, if_neg (by omega)]
  · rw [if_neg z]
    by_cases z2 : c < a
    · rw [if_pos z2, if_neg (by omega)]
    · rw [if_neg z2, if_pos (by omega)]
