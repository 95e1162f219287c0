/-! what the constructors leave in rows, as the memory has it -/
theorem fe_ext {F G : Nat → Int32} (n : Nat) (h1 : ∀ j : Fin n, F j.val = G j.val) (h2 : ∀ j, n ≤ j → F j = 0) (h3 : ∀ j, n ≤ j → G j = 0) : F = G := by
  funext j
  by_cases q : j < n
  · exact h1 ⟨j, q⟩
  · rw [h2 j (by omega), h3 j (by omega)]
theorem fe_11 : (upd (upd (upd (upd (upd (upd (upd (upd (upd (upd (upd (upd (upd (upd (upd (upd (upd (upd (upd (upd (upd (upd (fun _ => (0 : Int32)) 21 3) 31 1) 22 3) 32 2) 23 3) 33 3) 24 3) 34 4) 25 3) 35 5) 26 3) 36 6) 27 3) 37 7) 28 3) 38 8) 29 3) 39 9) 30 3) 40 0) 54 1) 56 60) = (fun j : Nat => Int32.ofInt (mm_hz 11 (j : Int))) := by
  refine fe_ext 57 (by decide +kernel) (fun j hj => ?_) (fun j hj => ?_)
  · unfold upd
    repeat rw [if_neg (by omega)]
  · show Int32.ofInt (if 21 ≤ (j : Int) ∧ (j : Int) < 31 then 3 else if 31 ≤ (j : Int) ∧ (j : Int) < 41 then ((j : Int) - 30) % 10 else if (j : Int) = 54 then 1 else if (j : Int) = 56 then 60 else 0) = 0
    rw [if_neg (by omega), if_neg (by omega), if_neg (by omega), if_neg (by omega)]
    rfl
theorem fe_51 : (upd (upd (upd (upd (upd (upd (upd (upd (upd (upd (fun _ => (0 : Int32)) 0 3) 1 3) 2 3) 3 3) 4 3) 5 3) 6 3) 7 3) 8 3) 9 3) = (fun j : Nat => Int32.ofInt (mm_hz 51 (j : Int))) := by
  refine fe_ext 10 (by decide +kernel) (fun j hj => ?_) (fun j hj => ?_)
  · unfold upd
    repeat rw [if_neg (by omega)]
  · show Int32.ofInt (if 0 ≤ (j : Int) ∧ (j : Int) < 10 then 3 else 0) = 0
    rw [if_neg (by omega)]
    rfl
theorem fe_52 : (upd (upd (upd (upd (upd (upd (upd (upd (upd (upd (fun _ => (0 : Int32)) 0 1) 1 2) 2 3) 3 4) 4 5) 5 6) 6 7) 7 8) 8 9) 9 0) = (fun j : Nat => Int32.ofInt (mm_hz 52 (j : Int))) := by
  refine fe_ext 10 (by decide +kernel) (fun j hj => ?_) (fun j hj => ?_)
  · unfold upd
    repeat rw [if_neg (by omega)]
  · show Int32.ofInt (if 0 ≤ (j : Int) ∧ (j : Int) < 10 then ((j : Int) + 1) % 10 else 0) = 0
    rw [if_neg (by omega)]
    rfl
theorem fe_19 : (upd (upd (upd (upd (upd (upd (fun _ => (0 : Int32)) 0 (-1)) 1 (-1)) 2 (-1)) 3 (-1)) 4 (-1)) 5 (-1)) = (fun j : Nat => Int32.ofInt (mm_hz 19 (j : Int))) := by
  refine fe_ext 6 (by decide +kernel) (fun j hj => ?_) (fun j hj => ?_)
  · unfold upd
    repeat rw [if_neg (by omega)]
  · show Int32.ofInt (if 0 ≤ (j : Int) ∧ (j : Int) < 6 then -1 else 0) = 0
    rw [if_neg (by omega)]
    rfl
theorem fe_79 : (upd (upd (upd (upd (upd (upd (fun _ => (0 : Int32)) 0 (-1)) 1 (-1)) 2 (-1)) 3 (-1)) 4 (-1)) 5 (-1)) = (fun j : Nat => Int32.ofInt (mm_hz 79 (j : Int))) := fe_19.trans rfl
