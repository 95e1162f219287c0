/-! words for the equivalence: scratch places, what holds between class and reference -/
theorem mUp_at (h : mm_M) (c : Nat) (i v : Int) (c' : Nat) (i' : Int) : mUp h c i v c' i' = if c' = c ∧ i' = i then v else h c' i' := rfl
theorem mUp_self (h : mm_M) (c : Nat) (i v : Int) : mUp h c i v c i = v := by rw [mUp_at, if_pos ⟨rfl, rfl⟩]
theorem mUp_nei {h : mm_M} {c : Nat} {i v : Int} {c' : Nat} {i' : Int} (z : i' ≠ i) : mUp h c i v c' i' = h c' i' := by rw [mUp_at, if_neg (fun w => z w.2)]
theorem mm_10 : ((1 : Int) = 0) = False := by simp
theorem mm_b01 (p : Prop) [Decidable p] : ((if p then (1 : Int) else 0) = 0) = ¬ p := by by_cases h : p <;> simp [h]
theorem mm_b01' (p : Prop) [Decidable p] : ((if p then (1 : Int) else 0) = 1) = p := by by_cases h : p <;> simp [h]
theorem mm_bs {α β : Type} (a : α) (f : α → Option β) : (some a).bind f = f a := rfl
theorem mm_ap (v : mm_V) (l : List mm_V) : [v] ++ l = v :: l := rfl
theorem mm_ap0 (l : List mm_V) : ([] : List mm_V) ++ l = l := rfl
/-- places that nothing outlives: routes, chances, what was said, searches, the parser's and the pile's own -/
def mm_sc (c : Nat) (k : Int) : Prop := c = 4 ∨ c = 5 ∨ (23 ≤ c ∧ c ≤ 36) ∨ c = 6 ∨ c = 7 ∨ c = 8 ∨ c = 18 ∨ (c = 2 ∧ (k = 2 ∨ k = 3 ∨ k = 5 ∨ k = 9)) ∨ c = 66 ∨ c = 67 ∨ c = 68 ∨ c = 69 ∨ c = 70 ∨ c = 82 ∨ (c = 47 ∧ (k = 22 ∨ k = 23 ∨ k = 24 ∨ k = 25 ∨ k = 35 ∨ k = 38 ∨ k = 39))
def mm_Sm (h h' : mm_M) : Prop := ∀ c k, ¬ mm_sc c k → h' c k = h c k
theorem mm_Sm.rf {h : mm_M} : mm_Sm h h := fun _ _ _ => rfl
theorem mm_Sm.tr {h h1 h2 : mm_M} (a : mm_Sm h h1) (b : mm_Sm h1 h2) : mm_Sm h h2 := fun c k z => (b c k z).trans (a c k z)
theorem mm_Sm.up {h h1 : mm_M} (a : mm_Sm h h1) {c : Nat} {i v : Int} (z : mm_sc c i) : mm_Sm h (mUp h1 c i v) := fun c' k w => by
  rw [mUp_at, if_neg (fun q => w (by rw [q.1, q.2]; exact z))]
  exact a c' k w
/-- a post's former word and since when -/
def mm_RH (a s b t : Int) : Prop := (a = -2000000000 ∧ b = -1) ∨ (a = b ∧ 0 ≤ a ∧ a ≤ 9 ∧ s = t ∧ 0 ≤ s ∧ s ≤ 9999)
/-- a night in deed -/
def mm_RD (h : mm_M) : Prop := h 47 43 = h 9 0 ∧ 0 ≤ h 9 0 ∧ h 9 0 ≤ 9999 ∧ (∀ p : Int, 0 ≤ p → p < h 1 1 → h 71 p = h 37 p ∧ 0 ≤ h 37 p ∧ h 37 p ≤ 9 ∧ mm_RH (h 38 p) (h 39 p) (h 72 p) (h 73 p)) ∧ ∀ k : Int, 0 ≤ k → k < 4 → h 74 k = h 40 k
/-- the image -/
def mm_RI (h : mm_M) : Prop := h 47 45 = h 9 5 ∧ -1 ≤ h 9 5 ∧ h 9 5 ≤ 7 ∧ (0 ≤ h 9 5 → h 47 46 = h 9 6 ∧ 0 ≤ h 9 6 ∧ h 9 6 ≤ 9999 ∧ (∀ p : Int, 0 ≤ p → p < h 9 5 → h 75 (3 * p) = h 41 p ∧ 0 ≤ h 41 p ∧ h 41 p ≤ 9 ∧ mm_RH (h 42 p) (h 43 p) (h 75 (3 * p + 1)) (h 75 (3 * p + 2))) ∧ ∀ k : Int, 0 ≤ k → k < 4 → h 76 k = h 44 k)
/-- what mend tells -/
def mm_vAt (h : mm_M) (w k : Int) : Int := if w = 0 then h 48 k else if w = 1 then h 49 k else if w = 2 then h 50 k else if w = 3 then h 51 k else if w = 4 then h 52 k else if w = 5 then h 53 k else if w = 6 then h 54 k else if w = 7 then h 55 k else if w = 8 then h 47 10 else if w = 9 then h 47 11 else if w = 10 then h 47 12 else h 47 13
def mm_wk (w k : Int) : Prop := 0 ≤ w ∧ w < 12 ∧ 0 ≤ k ∧ k < mm_ct 101 w
def mm_inr (w v : Int) : Prop := mm_ct 102 w ≤ v ∧ v ≤ mm_ct 103 w
def mm_RN (h : mm_M) : Prop := 0 ≤ h 1 1 ∧ h 1 1 ≤ 7 ∧ h 47 1 = h 1 1 ∧ ∀ w k : Int, mm_wk w k → mm_vAt h w k = h 11 (mm_ct 100 w + k) ∧ mm_inr w (h 11 (mm_ct 100 w + k))
/-- what was changed -/
def mm_RU (h : mm_M) : Prop := h 47 14 = h 1 2 ∧ h 47 15 = h 1 3 ∧ 0 ≤ h 1 2 ∧ 0 ≤ h 1 3 ∧ h 1 2 + h 1 3 ≤ 40 ∧ 0 ≤ h 1 4 ∧ h 1 4 < 40 ∧ ∀ j : Int, 0 ≤ j → j < h 1 2 + h 1 3 → mm_wk (h 56 j) (h 57 j) ∧ h 12 ((h 1 4 + j) % 40) = mm_ct 100 (h 56 j) + h 57 j ∧ h 13 ((h 1 4 + j) % 40) = h 58 j ∧ h 14 ((h 1 4 + j) % 40) = h 59 j ∧ mm_inr (h 56 j) (h 58 j) ∧ mm_inr (h 56 j) (h 59 j)
/-- bodies -/
def mm_RB (h : mm_M) : Prop := h 47 49 = h 10 0 ∧ 0 ≤ h 10 0 ∧ h 10 0 ≤ 50 ∧ (∀ i : Int, 0 ≤ i → i < h 10 0 → h 77 i = h 46 i ∧ 0 ≤ h 46 i ∧ h 46 i < 8) ∧ h 47 51 = h 10 1 ∧ 0 ≤ h 10 1 ∧ h 10 1 ≤ 1000 ∧ ∀ i : Int, 0 ≤ i → i < h 10 1 → i < 24 → h 78 i = h 45 i
/-- what may stand in a row of a kind -/
def mm_el (k v : Int) : Prop := mm_r64 v ∧ (k = 1 → -32768 ≤ v ∧ v ≤ 32767)
/-- shelves -/
def mm_RS (h : mm_M) : Prop := ∀ s : Int, 0 ≤ s → s < 6 → -2 ≤ h 19 s ∧ h 19 s < 5 ∧ h 79 s = (if h 19 s = -1 then -1 else if h 19 s = -2 then h 21 s else -2 - h 19 s) ∧ (h 19 s = -2 → 0 ≤ h 21 s ∧ h 21 s < h 10 0) ∧ 0 ≤ h 20 s ∧ h 20 s ≤ 60 ∧ (h 19 s < 0 → h 20 s = 0) ∧ (0 ≤ h 19 s → h 80 s = h 20 s ∧ ∀ i : Int, 0 ≤ i → i < h 20 s → h 81 (60 * s + i) = h 22 (s * 60 + i) ∧ mm_el (h 19 s) (h 22 (s * 60 + i)))
/-- the tape -/
def mm_RT (h : mm_M) : Prop := h 47 21 = h 2 0 ∧ 0 ≤ h 2 0 ∧ h 2 0 ≤ 120 ∧ ∀ i : Int, 0 ≤ i → i < h 2 0 → 0 ≤ h 15 i ∧ h 15 i ≤ 255 ∧ h 60 i = w8 (h 15 i)
/-! each of them reads some places alone -/
theorem mm_up_d {d : Nat → Int → Bool} {h : mm_M} {c : Nat} {i v : Int} (hd : d c i = false) : ∀ c' i', d c' i' = true → mUp h c i v c' i' = h c' i' := fun c' i' w => by
  rw [mUp_at, if_neg (fun q => by rw [q.1, q.2, hd] at w; cases w)]
theorem mm_cp_d {d : Nat → Int → Bool} {h : mm_M} {a b : Nat} {p q n : Int} (hd : ∀ i, d b i = false) : ∀ c' i', d c' i' = true → mCpy h a p b q n c' i' = h c' i' := fun c' i' w => by
  unfold mCpy
  rw [if_neg (fun z => by rw [z.1, hd] at w; cases w)]
theorem mm_co1 {d : Nat → Int → Bool} {h h1 : mm_M} {c : Nat} {i v : Int} (hd : d c i = false) (e : ∀ c' i', d c' i' = true → h1 c' i' = h c' i') : ∀ c' i', d c' i' = true → mUp h1 c i v c' i' = h c' i' := fun c' i' w => (mm_up_d hd c' i' w).trans (e c' i' w)
theorem mm_co2 {d : Nat → Int → Bool} {h h1 : mm_M} {a b : Nat} {p q n : Int} (hd : ∀ i, d b i = false) (e : ∀ c' i', d c' i' = true → h1 c' i' = h c' i') : ∀ c' i', d c' i' = true → mCpy h1 a p b q n c' i' = h c' i' := fun c' i' w => (mm_cp_d hd c' i' w).trans (e c' i' w)
def mm_dN (c : Nat) (i : Int) : Bool := c == 11 || c == 48 || c == 49 || c == 50 || c == 51 || c == 52 || c == 53 || c == 54 || c == 55 || (c == 1 && (i == 1)) || (c == 47 && (i == 1 || i == 10 || i == 11 || i == 12 || i == 13))
theorem mm_RN_co {h h2 : mm_M} (e : ∀ c i, mm_dN c i = true → h2 c i = h c i) (z : mm_RN h) : mm_RN h2 := by
  have e11 : ∀ i, h2 11 i = h 11 i := fun i => e 11 i rfl
  have e48 : ∀ i, h2 48 i = h 48 i := fun i => e 48 i rfl
  have e49 : ∀ i, h2 49 i = h 49 i := fun i => e 49 i rfl
  have e50 : ∀ i, h2 50 i = h 50 i := fun i => e 50 i rfl
  have e51 : ∀ i, h2 51 i = h 51 i := fun i => e 51 i rfl
  have e52 : ∀ i, h2 52 i = h 52 i := fun i => e 52 i rfl
  have e53 : ∀ i, h2 53 i = h 53 i := fun i => e 53 i rfl
  have e54 : ∀ i, h2 54 i = h 54 i := fun i => e 54 i rfl
  have e55 : ∀ i, h2 55 i = h 55 i := fun i => e 55 i rfl
  have e1_1 : h2 1 1 = h 1 1 := e 1 1 rfl
  have e47_1 : h2 47 1 = h 47 1 := e 47 1 rfl
  have e47_10 : h2 47 10 = h 47 10 := e 47 10 rfl
  have e47_11 : h2 47 11 = h 47 11 := e 47 11 rfl
  have e47_12 : h2 47 12 = h 47 12 := e 47 12 rfl
  have e47_13 : h2 47 13 = h 47 13 := e 47 13 rfl
  unfold mm_RN mm_vAt at z ⊢
  simp only [e11, e48, e49, e50, e51, e52, e53, e54, e55, e1_1, e47_1, e47_10, e47_11, e47_12, e47_13]
  exact z
def mm_dU (c : Nat) (i : Int) : Bool := c == 56 || c == 57 || c == 58 || c == 59 || c == 12 || c == 13 || c == 14 || (c == 1 && (i == 2 || i == 3 || i == 4)) || (c == 47 && (i == 14 || i == 15))
theorem mm_RU_co {h h2 : mm_M} (e : ∀ c i, mm_dU c i = true → h2 c i = h c i) (z : mm_RU h) : mm_RU h2 := by
  have e56 : ∀ i, h2 56 i = h 56 i := fun i => e 56 i rfl
  have e57 : ∀ i, h2 57 i = h 57 i := fun i => e 57 i rfl
  have e58 : ∀ i, h2 58 i = h 58 i := fun i => e 58 i rfl
  have e59 : ∀ i, h2 59 i = h 59 i := fun i => e 59 i rfl
  have e12 : ∀ i, h2 12 i = h 12 i := fun i => e 12 i rfl
  have e13 : ∀ i, h2 13 i = h 13 i := fun i => e 13 i rfl
  have e14 : ∀ i, h2 14 i = h 14 i := fun i => e 14 i rfl
  have e1_2 : h2 1 2 = h 1 2 := e 1 2 rfl
  have e1_3 : h2 1 3 = h 1 3 := e 1 3 rfl
  have e1_4 : h2 1 4 = h 1 4 := e 1 4 rfl
  have e47_14 : h2 47 14 = h 47 14 := e 47 14 rfl
  have e47_15 : h2 47 15 = h 47 15 := e 47 15 rfl
  unfold mm_RU at z ⊢
  simp only [e56, e57, e58, e59, e12, e13, e14, e1_2, e1_3, e1_4, e47_14, e47_15]
  exact z
def mm_dD (c : Nat) (i : Int) : Bool := c == 37 || c == 38 || c == 39 || c == 40 || c == 71 || c == 72 || c == 73 || c == 74 || (c == 9 && (i == 0)) || (c == 47 && (i == 43)) || (c == 1 && (i == 1))
theorem mm_RD_co {h h2 : mm_M} (e : ∀ c i, mm_dD c i = true → h2 c i = h c i) (z : mm_RD h) : mm_RD h2 := by
  have e37 : ∀ i, h2 37 i = h 37 i := fun i => e 37 i rfl
  have e38 : ∀ i, h2 38 i = h 38 i := fun i => e 38 i rfl
  have e39 : ∀ i, h2 39 i = h 39 i := fun i => e 39 i rfl
  have e40 : ∀ i, h2 40 i = h 40 i := fun i => e 40 i rfl
  have e71 : ∀ i, h2 71 i = h 71 i := fun i => e 71 i rfl
  have e72 : ∀ i, h2 72 i = h 72 i := fun i => e 72 i rfl
  have e73 : ∀ i, h2 73 i = h 73 i := fun i => e 73 i rfl
  have e74 : ∀ i, h2 74 i = h 74 i := fun i => e 74 i rfl
  have e9_0 : h2 9 0 = h 9 0 := e 9 0 rfl
  have e47_43 : h2 47 43 = h 47 43 := e 47 43 rfl
  have e1_1 : h2 1 1 = h 1 1 := e 1 1 rfl
  unfold mm_RD at z ⊢
  simp only [e37, e38, e39, e40, e71, e72, e73, e74, e9_0, e47_43, e1_1]
  exact z
def mm_dI (c : Nat) (i : Int) : Bool := c == 41 || c == 42 || c == 43 || c == 44 || c == 75 || c == 76 || (c == 9 && (i == 5 || i == 6)) || (c == 47 && (i == 45 || i == 46))
theorem mm_RI_co {h h2 : mm_M} (e : ∀ c i, mm_dI c i = true → h2 c i = h c i) (z : mm_RI h) : mm_RI h2 := by
  have e41 : ∀ i, h2 41 i = h 41 i := fun i => e 41 i rfl
  have e42 : ∀ i, h2 42 i = h 42 i := fun i => e 42 i rfl
  have e43 : ∀ i, h2 43 i = h 43 i := fun i => e 43 i rfl
  have e44 : ∀ i, h2 44 i = h 44 i := fun i => e 44 i rfl
  have e75 : ∀ i, h2 75 i = h 75 i := fun i => e 75 i rfl
  have e76 : ∀ i, h2 76 i = h 76 i := fun i => e 76 i rfl
  have e9_5 : h2 9 5 = h 9 5 := e 9 5 rfl
  have e9_6 : h2 9 6 = h 9 6 := e 9 6 rfl
  have e47_45 : h2 47 45 = h 47 45 := e 47 45 rfl
  have e47_46 : h2 47 46 = h 47 46 := e 47 46 rfl
  unfold mm_RI at z ⊢
  simp only [e41, e42, e43, e44, e75, e76, e9_5, e9_6, e47_45, e47_46]
  exact z
def mm_dB (c : Nat) (i : Int) : Bool := c == 46 || c == 77 || c == 45 || c == 78 || (c == 10 && (i == 0 || i == 1)) || (c == 47 && (i == 49 || i == 51))
theorem mm_RB_co {h h2 : mm_M} (e : ∀ c i, mm_dB c i = true → h2 c i = h c i) (z : mm_RB h) : mm_RB h2 := by
  have e46 : ∀ i, h2 46 i = h 46 i := fun i => e 46 i rfl
  have e77 : ∀ i, h2 77 i = h 77 i := fun i => e 77 i rfl
  have e45 : ∀ i, h2 45 i = h 45 i := fun i => e 45 i rfl
  have e78 : ∀ i, h2 78 i = h 78 i := fun i => e 78 i rfl
  have e10_0 : h2 10 0 = h 10 0 := e 10 0 rfl
  have e10_1 : h2 10 1 = h 10 1 := e 10 1 rfl
  have e47_49 : h2 47 49 = h 47 49 := e 47 49 rfl
  have e47_51 : h2 47 51 = h 47 51 := e 47 51 rfl
  unfold mm_RB at z ⊢
  simp only [e46, e77, e45, e78, e10_0, e10_1, e47_49, e47_51]
  exact z
def mm_dS (c : Nat) (i : Int) : Bool := c == 19 || c == 20 || c == 21 || c == 22 || c == 79 || c == 80 || c == 81 || (c == 10 && (i == 0))
theorem mm_RS_co {h h2 : mm_M} (e : ∀ c i, mm_dS c i = true → h2 c i = h c i) (z : mm_RS h) : mm_RS h2 := by
  have e19 : ∀ i, h2 19 i = h 19 i := fun i => e 19 i rfl
  have e20 : ∀ i, h2 20 i = h 20 i := fun i => e 20 i rfl
  have e21 : ∀ i, h2 21 i = h 21 i := fun i => e 21 i rfl
  have e22 : ∀ i, h2 22 i = h 22 i := fun i => e 22 i rfl
  have e79 : ∀ i, h2 79 i = h 79 i := fun i => e 79 i rfl
  have e80 : ∀ i, h2 80 i = h 80 i := fun i => e 80 i rfl
  have e81 : ∀ i, h2 81 i = h 81 i := fun i => e 81 i rfl
  have e10_0 : h2 10 0 = h 10 0 := e 10 0 rfl
  unfold mm_RS at z ⊢
  simp only [e19, e20, e21, e22, e79, e80, e81, e10_0]
  exact z
def mm_dT (c : Nat) (i : Int) : Bool := c == 15 || c == 60 || (c == 2 && (i == 0)) || (c == 47 && (i == 21))
theorem mm_RT_co {h h2 : mm_M} (e : ∀ c i, mm_dT c i = true → h2 c i = h c i) (z : mm_RT h) : mm_RT h2 := by
  have e15 : ∀ i, h2 15 i = h 15 i := fun i => e 15 i rfl
  have e60 : ∀ i, h2 60 i = h 60 i := fun i => e 60 i rfl
  have e2_0 : h2 2 0 = h 2 0 := e 2 0 rfl
  have e47_21 : h2 47 21 = h 47 21 := e 47 21 rfl
  unfold mm_RT at z ⊢
  simp only [e15, e60, e2_0, e47_21]
  exact z
/-- the law: a step of the class, and what the reference has for it -/
def mm_bin (w : Int) : Prop := w = 124 ∨ w = 38 ∨ w = 60 ∨ w = 61 ∨ w = 62 ∨ w = 43 ∨ w = 45 ∨ w = 42 ∨ w = 47 ∨ w = 37
def mm_tr (s w x : Int) : Prop := (0 ≤ s ∧ w = 1 ∧ x = s) ∨ (s = -1 ∧ w = 4) ∨ (s = -33 ∧ w = 3) ∨ (s = -121 ∧ w = 2 ∧ x = 0) ∨ (s = -110 ∧ w = 2 ∧ x = 1) ∨ (s = -99 ∧ w = 2 ∧ x = 2) ∨ (s = -112 ∧ w = 2 ∧ x = 3) ∨ (s = -119 ∧ w = 2 ∧ x = 4) ∨ (s = -108 ∧ w = 2 ∧ x = 5) ∨ (s = -w ∧ mm_bin w)
/-- how many a step takes, and how many there are behind it -/
def mm_nd (w : Int) : Int := if w = 1 ∨ w = 2 then 0 else if w = 3 ∨ w = 4 then 1 else 2
def mm_ht (w : Int → Int) (A : Int) : Nat → Int
  | 0 => 0
  | k + 1 => mm_ht w A k + 1 - mm_nd (w (A + (k : Int)))
/-- n steps work out one value, with at most M on the stack -/
def mm_wl (w : Int → Int) (A n M : Int) : Prop := 0 < n ∧ mm_ht w A n.toNat = 1 ∧ ∀ k : Nat, (k : Int) < n → mm_nd (w (A + (k : Int))) ≤ mm_ht w A k ∧ mm_ht w A (k + 1) ≤ M
def mm_E (c : Int → Int) (a : Int) (w x : Int → Int) (A n M : Int) : Prop := (∀ k : Int, 0 ≤ k → k < n → mm_tr (c (a + k)) (w (A + k)) (x (A + k))) ∧ mm_wl w A n M
def mm_LN (c w x t e a A : Int → Int) (lm : Int) : Prop := a 0 = 0 ∧ A 0 = 0 ∧ ∀ l : Int, 0 ≤ l → l < lm → 0 ≤ A l ∧ A l ≤ t l ∧ t l < e l ∧ e l ≤ 120 ∧ A (l + 1) = e l ∧ (t l = A l → mm_E c (a l) w x (A l) (e l - A l) 64 ∧ c (a l + (e l - A l)) = -59 ∧ a (l + 1) = a l + (e l - A l) + 1) ∧ (¬ t l = A l → mm_E c (a l) w x (A l) (t l - A l) 64 ∧ c (a l + (t l - A l)) = -63 ∧ mm_E c (a l + (t l - A l) + 1) w x (t l) (e l - t l) 64 ∧ c (a l + (e l - A l) + 1) = -59 ∧ a (l + 1) = a l + (e l - A l) + 2)
def mm_RL (h : mm_M) : Prop := ((h 2 6 = 16 ∧ h 2 4 = 17) ∨ (h 2 6 = 17 ∧ h 2 4 = 16)) ∧ 0 ≤ h 2 7 ∧ h 2 7 ≤ 121 ∧ ((h 47 33 = 0 ∧ h 2 7 = 0) ∨ (h 47 33 = 1 ∧ 0 < h 2 7 ∧ 1 ≤ h 63 0 ∧ h 63 0 ≤ 61 ∧ ∃ a A : Int → Int, mm_LN (h (h 2 6).toNat) (h 61) (h 62) (h 64) (h 65) a A (h 63 0) ∧ a (h 63 0) = h 2 7))
def mm_dL (c : Nat) (i : Int) : Bool := c == 16 || c == 17 || c == 61 || c == 62 || c == 63 || c == 64 || c == 65 || (c == 2 && (i == 4 || i == 6 || i == 7)) || (c == 47 && i == 33)
theorem mm_RL_co {h h2 : mm_M} (e : ∀ c i, mm_dL c i = true → h2 c i = h c i) (z : mm_RL h) : mm_RL h2 := by
  have e16 : h2 16 = h 16 := funext (fun i => e 16 i rfl)
  have e17 : h2 17 = h 17 := funext (fun i => e 17 i rfl)
  have e61 : h2 61 = h 61 := funext (fun i => e 61 i rfl)
  have e62 : h2 62 = h 62 := funext (fun i => e 62 i rfl)
  have e63 : h2 63 = h 63 := funext (fun i => e 63 i rfl)
  have e64 : h2 64 = h 64 := funext (fun i => e 64 i rfl)
  have e65 : h2 65 = h 65 := funext (fun i => e 65 i rfl)
  have e4 : h2 2 4 = h 2 4 := e 2 4 rfl
  have e6 : h2 2 6 = h 2 6 := e 2 6 rfl
  have e7 : h2 2 7 = h 2 7 := e 2 7 rfl
  have e33 : h2 47 33 = h 47 33 := e 47 33 rfl
  have es : h2 (h 2 6).toNat = h (h 2 6).toNat := by
    rcases z.1 with w | w
    · rw [w.1]
      exact e16
    · rw [w.1]
      exact e17
  unfold mm_RL at z ⊢
  rw [e6, e4, e7, e33, e61, e62, e63, e64, e65, es]
  exact z
/-- all that holds between two calls -/
def mm_Inv (h : mm_M) : Prop := mm_RN h ∧ mm_RU h ∧ mm_RD h ∧ mm_RI h ∧ mm_RB h ∧ mm_RS h ∧ mm_RT h ∧ mm_RL h
theorem mm_Inv_co {h h2 : mm_M} (e : ∀ c i, (mm_dN c i || mm_dU c i || mm_dD c i || mm_dI c i || mm_dB c i || mm_dS c i || mm_dT c i || mm_dL c i) = true → h2 c i = h c i) (z : mm_Inv h) : mm_Inv h2 := by
  obtain ⟨z1, z2, z3, z4, z5, z6, z7, z8⟩ := z
  exact ⟨mm_RN_co (fun c i w => e c i (by simp [w])) z1, mm_RU_co (fun c i w => e c i (by simp [w])) z2, mm_RD_co (fun c i w => e c i (by simp [w])) z3, mm_RI_co (fun c i w => e c i (by simp [w])) z4, mm_RB_co (fun c i w => e c i (by simp [w])) z5, mm_RS_co (fun c i w => e c i (by simp [w])) z6, mm_RT_co (fun c i w => e c i (by simp [w])) z7, mm_RL_co (fun c i w => e c i (by simp [w])) z8⟩
/-- what scratch may change none of them reads -/
theorem mm_Inv_Sm {h h2 : mm_M} (e : mm_Sm h h2) (z : mm_Inv h) : mm_Inv h2 := by
  refine mm_Inv_co (fun c i w => e c i (fun q => ?_)) z
  unfold mm_sc at q
  simp only [mm_dN, mm_dU, mm_dD, mm_dI, mm_dB, mm_dS, mm_dT, mm_dL, Bool.or_eq_true, Bool.and_eq_true, beq_iff_eq] at w
  omega
/-! leaves -/
theorem s_in (h : mm_M) (a b c : Int) : mm_call mX10_in [vI a, vI b, vI c] h = some ([vI (if b ≤ a ∧ a ≤ c then 1 else 0)], h) := by
  rw [X10_in_c]
  by_cases z : a < b
  · rw [if_pos z, if_neg (by omega)]
  · rw [if_neg z]
    by_cases z2 : c < a
    · rw [if_pos z2, if_neg (by omega)]
    · rw [if_neg z2, if_pos (by omega)]
