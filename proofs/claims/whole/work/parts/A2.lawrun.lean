/-! the law method: every call's answers agree, so it goes on to the end -/
theorem lOr_r64 (x y : Int) : mm_r64 (lOr x y) := by
  unfold mm_r64 lOr
  exact ⟨Int64.le_toInt _, Int64.toInt_lt _⟩
theorem lCmp_rf (x : Int) : lCmp x x = 0 := by
  unfold lCmp
  rw [if_neg (Int.lt_irrefl x), if_pos rfl]
theorem kd_ret {ins : Instr} {k : Nat} {st v : List mm_V} (e : mm_ret ins k st = some v) : ((k = 1 ∨ k = 2) → ∃ x, v = [vI x]) ∧ (k = 3 → ∃ x, v = [vL x]) := by
  unfold mm_ret at e
  split at e
  · split at e
    · split at e
      · rename_i x z
        cases e
        exact ⟨fun _ => ⟨_, rfl⟩, fun w => by omega⟩
      · cases e
    · cases e
  · split at e
    · split at e
      · cases e
        exact ⟨fun w => by omega, fun _ => ⟨_, rfl⟩⟩
      · cases e
    · cases e
  · split at e
    · split at e
      · cases e
        exact ⟨fun w => by omega, fun w => by omega⟩
      · cases e
    · cases e
  · cases e
theorem kd_ex (n : Nat) : ∀ K r pc L st h q, mm_ex n K r pc L st h = some q → ((K.2.2.1 = 1 ∨ K.2.2.1 = 2) → ∃ x, q.1 = [vI x]) ∧ (K.2.2.1 = 3 → ∃ x, q.1 = [vL x]) := by
  induction n with
  | zero => intro K r pc L st h q e; cases e
  | succ n ih =>
    intro K r pc L st h q e
    rw [mm_ex_s] at e
    unfold mm_step at e
    split at e
    · rename_i ins len hd
      by_cases hl : mm_lok ins len = true
      · rw [if_pos hl] at e
        cases hr : mm_ret ins K.2.2.1 st with
        | some v =>
          rw [hr] at e
          cases e
          exact kd_ret hr
        | none =>
          rw [hr] at e
          dsimp only at e
          cases hi : mm_inv ins K.2.2.2.1 st with
          | some z =>
            obtain ⟨k, a, rest⟩ := z
            rw [hi] at e
            dsimp only at e
            split at e
            · cases hf : mm_ex n (mm_k k) (mm_rk (mm_k k) a h) 0 (mm_ent (mm_k k).2.1 a) [] h with
              | none => rw [hf] at e; cases e
              | some w =>
                rw [hf] at e
                exact ih _ _ _ _ _ _ _ e
            · cases e
          | none =>
            rw [hi] at e
            dsimp only at e
            cases hs : mm_s K pc ins L st h with
            | none => rw [hs] at e; cases e
            | some w =>
              rw [hs] at e
              exact ih _ _ _ _ _ _ _ e
      · rw [if_neg hl] at e; cases e
    · cases e
theorem kd_I {K : mm_K} {a : List mm_V} {h : mm_M} {v : mm_V} {h1 : mm_M} (e : mm_call K a h = some ([v], h1)) (k : K.2.2.1 = 1 ∨ K.2.2.1 = 2) : ∃ x, v = vI x := by
  obtain ⟨n, en⟩ := mm_ev_some e
  obtain ⟨x, hx⟩ := (kd_ex n _ _ _ _ _ _ _ en).1 k
  exact ⟨x, (List.cons.inj hx).1⟩
theorem kd_L {K : mm_K} {a : List mm_V} {h : mm_M} {v : mm_V} {h1 : mm_M} (e : mm_call K a h = some ([v], h1)) (k : K.2.2.1 = 3) : ∃ x, v = vL x := by
  obtain ⟨n, en⟩ := mm_ev_some e
  obtain ⟨x, hx⟩ := (kd_ex n _ _ _ _ _ _ _ en).2 k
  exact ⟨x, (List.cons.inj hx).1⟩
theorem lw_post {h : mm_M} {a3 : Int} (hI : mm_Inv h) (r : ∀ j, mm_r32 (h 110 j)) (b0 : 0 ≤ a3) (b9 : a3 + 6 ≤ h 110 (-1)) : ∃ h2, mm_ev mL_law 700 224 [some (vR 110), some (vR 0), some (vR 47), some (vI a3)] [] h = mm_ev mL_law 700 18 [some (vR 110), some (vR 0), some (vR 47), some (vI (a3 + 6))] [] h2 ∧ mm_Inv h2 ∧ ∀ j, h2 110 j = h 110 j := by
  have bb := (r (-1)).2
  have b1 : 0 ≤ a3 + 1 ∧ a3 + 1 < h 110 (-1) := by omega
  have w1 : w32 (a3 + 1) = a3 + 1 := w32_id (by unfold mm_r32; omega)
  have b2 : 0 ≤ a3 + 2 ∧ a3 + 2 < h 110 (-1) := by omega
  have w2 : w32 (a3 + 2) = a3 + 2 := w32_id (by unfold mm_r32; omega)
  have w6 : w32 (a3 + 6) = a3 + 6 := w32_id (by unfold mm_r32; omega)
  obtain ⟨v, h1, h2, e1, e2, i2⟩ := p_post h (h 110 (a3 + 1)) (h 110 (a3 + 2)) hI
  obtain ⟨x, rfl⟩ := kd_I e1 (by decide)
  have f1 : ∀ j, h1 110 j = h 110 j := fr_call e1
  have f2 : ∀ j, h2 110 j = h1 110 j := fr_call e2
  refine ⟨h2, ?_, i2, fun j => (f2 j).trans (f1 j)⟩
  rw [L_law_224, w1, w2, if_pos b1, if_pos b2, e1, mm_be1, L_law_238, w1, w2]
  simp only [f1]
  rw [if_pos b1, if_pos b2, e2, mm_be1, L_law_252, if_pos rfl, L_law_1651, w6]
theorem lw_posts {h : mm_M} {a3 : Int} (hI : mm_Inv h) (r : ∀ j, mm_r32 (h 110 j)) (b0 : 0 ≤ a3) (b9 : a3 + 6 ≤ h 110 (-1)) : ∃ h2, mm_ev mL_law 700 257 [some (vR 110), some (vR 0), some (vR 47), some (vI a3)] [] h = mm_ev mL_law 700 18 [some (vR 110), some (vR 0), some (vR 47), some (vI (a3 + 6))] [] h2 ∧ mm_Inv h2 ∧ ∀ j, h2 110 j = h 110 j := by
  have bb := (r (-1)).2
  have b1 : 0 ≤ a3 + 1 ∧ a3 + 1 < h 110 (-1) := by omega
  have w1 : w32 (a3 + 1) = a3 + 1 := w32_id (by unfold mm_r32; omega)
  have b2 : 0 ≤ a3 + 2 ∧ a3 + 2 < h 110 (-1) := by omega
  have w2 : w32 (a3 + 2) = a3 + 2 := w32_id (by unfold mm_r32; omega)
  have b3 : 0 ≤ a3 + 3 ∧ a3 + 3 < h 110 (-1) := by omega
  have w3 : w32 (a3 + 3) = a3 + 3 := w32_id (by unfold mm_r32; omega)
  have w6 : w32 (a3 + 6) = a3 + 6 := w32_id (by unfold mm_r32; omega)
  obtain ⟨v, h1, h2, e1, e2, i2⟩ := p_posts h (h 110 (a3 + 1)) (h 110 (a3 + 2)) (h 110 (a3 + 3)) hI (r _)
  obtain ⟨x, rfl⟩ := kd_I e1 (by decide)
  have f1 : ∀ j, h1 110 j = h 110 j := fr_call e1
  have f2 : ∀ j, h2 110 j = h1 110 j := fr_call e2
  refine ⟨h2, ?_, i2, fun j => (f2 j).trans (f1 j)⟩
  rw [L_law_257, w1, w2, w3, if_pos b1, if_pos b2, if_pos b3, e1, mm_be1, L_law_276, w1, w2, w3]
  simp only [f1]
  rw [if_pos b1, if_pos b2, if_pos b3, e2, mm_be1, L_law_295, if_pos rfl, L_law_1651, w6]
theorem lw_mend {h : mm_M} {a3 : Int} (hI : mm_Inv h) (r : ∀ j, mm_r32 (h 110 j)) (b0 : 0 ≤ a3) (b9 : a3 + 6 ≤ h 110 (-1)) : ∃ h2, mm_ev mL_law 700 300 [some (vR 110), some (vR 0), some (vR 47), some (vI a3)] [] h = mm_ev mL_law 700 18 [some (vR 110), some (vR 0), some (vR 47), some (vI (a3 + 6))] [] h2 ∧ mm_Inv h2 ∧ ∀ j, h2 110 j = h 110 j := by
  have bb := (r (-1)).2
  have b1 : 0 ≤ a3 + 1 ∧ a3 + 1 < h 110 (-1) := by omega
  have w1 : w32 (a3 + 1) = a3 + 1 := w32_id (by unfold mm_r32; omega)
  have b2 : 0 ≤ a3 + 2 ∧ a3 + 2 < h 110 (-1) := by omega
  have w2 : w32 (a3 + 2) = a3 + 2 := w32_id (by unfold mm_r32; omega)
  have b3 : 0 ≤ a3 + 3 ∧ a3 + 3 < h 110 (-1) := by omega
  have w3 : w32 (a3 + 3) = a3 + 3 := w32_id (by unfold mm_r32; omega)
  have w6 : w32 (a3 + 6) = a3 + 6 := w32_id (by unfold mm_r32; omega)
  obtain ⟨v, h1, h2, e1, e2, i2⟩ := p_mend h (h 110 (a3 + 1)) (h 110 (a3 + 2)) (h 110 (a3 + 3)) hI
  obtain ⟨x, rfl⟩ := kd_I e1 (by decide)
  have f1 : ∀ j, h1 110 j = h 110 j := fr_call e1
  have f2 : ∀ j, h2 110 j = h1 110 j := fr_call e2
  refine ⟨h2, ?_, i2, fun j => (f2 j).trans (f1 j)⟩
  rw [L_law_300, w1, w2, w3, if_pos b1, if_pos b2, if_pos b3, e1, mm_be1, L_law_319, w1, w2, w3]
  simp only [f1]
  rw [if_pos b1, if_pos b2, if_pos b3, e2, mm_be1, L_law_338, if_pos rfl, L_law_1651, w6]
theorem lw_of {h : mm_M} {a3 : Int} (hI : mm_Inv h) (r : ∀ j, mm_r32 (h 110 j)) (b0 : 0 ≤ a3) (b9 : a3 + 6 ≤ h 110 (-1)) : ∃ h2, mm_ev mL_law 700 343 [some (vR 110), some (vR 0), some (vR 47), some (vI a3)] [] h = mm_ev mL_law 700 18 [some (vR 110), some (vR 0), some (vR 47), some (vI (a3 + 6))] [] h2 ∧ mm_Inv h2 ∧ ∀ j, h2 110 j = h 110 j := by
  have bb := (r (-1)).2
  have b1 : 0 ≤ a3 + 1 ∧ a3 + 1 < h 110 (-1) := by omega
  have w1 : w32 (a3 + 1) = a3 + 1 := w32_id (by unfold mm_r32; omega)
  have b2 : 0 ≤ a3 + 2 ∧ a3 + 2 < h 110 (-1) := by omega
  have w2 : w32 (a3 + 2) = a3 + 2 := w32_id (by unfold mm_r32; omega)
  have w6 : w32 (a3 + 6) = a3 + 6 := w32_id (by unfold mm_r32; omega)
  obtain ⟨v, h1, h2, e1, e2, i2⟩ := p_of h (h 110 (a3 + 1)) (h 110 (a3 + 2)) hI
  obtain ⟨x, rfl⟩ := kd_I e1 (by decide)
  have f1 : ∀ j, h1 110 j = h 110 j := fr_call e1
  have f2 : ∀ j, h2 110 j = h1 110 j := fr_call e2
  refine ⟨h2, ?_, i2, fun j => (f2 j).trans (f1 j)⟩
  rw [L_law_343, w1, w2, if_pos b1, if_pos b2, e1, mm_be1, L_law_357, w1, w2]
  simp only [f1]
  rw [if_pos b1, if_pos b2, e2, mm_be1, L_law_371, if_pos rfl, L_law_1651, w6]
theorem lw_feed {h : mm_M} {a3 : Int} (hI : mm_Inv h) (r : ∀ j, mm_r32 (h 110 j)) (b0 : 0 ≤ a3) (b9 : a3 + 6 ≤ h 110 (-1)) : ∃ h2, mm_ev mL_law 700 376 [some (vR 110), some (vR 0), some (vR 47), some (vI a3)] [] h = mm_ev mL_law 700 18 [some (vR 110), some (vR 0), some (vR 47), some (vI (a3 + 6))] [] h2 ∧ mm_Inv h2 ∧ ∀ j, h2 110 j = h 110 j := by
  have bb := (r (-1)).2
  have b1 : 0 ≤ a3 + 1 ∧ a3 + 1 < h 110 (-1) := by omega
  have w1 : w32 (a3 + 1) = a3 + 1 := w32_id (by unfold mm_r32; omega)
  have w6 : w32 (a3 + 6) = a3 + 6 := w32_id (by unfold mm_r32; omega)
  obtain ⟨v, h1, h2, e1, e2, i2⟩ := p_feed h (h 110 (a3 + 1)) hI
  obtain ⟨x, rfl⟩ := kd_I e1 (by decide)
  have f1 : ∀ j, h1 110 j = h 110 j := fr_call e1
  have f2 : ∀ j, h2 110 j = h1 110 j := fr_call e2
  refine ⟨h2, ?_, i2, fun j => (f2 j).trans (f1 j)⟩
  rw [L_law_376, w1, if_pos b1, e1, mm_be1, L_law_385, w1]
  simp only [f1]
  rw [if_pos b1, e2, mm_be1, L_law_394, if_pos rfl, L_law_1651, w6]
theorem lw_law {h : mm_M} {a3 : Int} (hI : mm_Inv h) (r : ∀ j, mm_r32 (h 110 j)) (b0 : 0 ≤ a3) (b9 : a3 + 6 ≤ h 110 (-1)) : ∃ h2, mm_ev mL_law 700 399 [some (vR 110), some (vR 0), some (vR 47), some (vI a3)] [] h = mm_ev mL_law 700 18 [some (vR 110), some (vR 0), some (vR 47), some (vI (a3 + 6))] [] h2 ∧ mm_Inv h2 ∧ ∀ j, h2 110 j = h 110 j := by
  have bb := (r (-1)).2
  have w6 : w32 (a3 + 6) = a3 + 6 := w32_id (by unfold mm_r32; omega)
  obtain ⟨v, h1, h2, e1, e2, i2⟩ := p_law h  hI
  obtain ⟨x, rfl⟩ := kd_I e1 (by decide)
  have f1 : ∀ j, h1 110 j = h 110 j := fr_call e1
  have f2 : ∀ j, h2 110 j = h1 110 j := fr_call e2
  refine ⟨h2, ?_, i2, fun j => (f2 j).trans (f1 j)⟩
  rw [L_law_399, e1, mm_be1, L_law_403, e2, mm_be1, L_law_407, if_pos rfl, L_law_1651, w6]
theorem lw_mishears {h : mm_M} {a3 : Int} (hI : mm_Inv h) (r : ∀ j, mm_r32 (h 110 j)) (b0 : 0 ≤ a3) (b9 : a3 + 6 ≤ h 110 (-1)) : ∃ h2, mm_ev mL_law 700 412 [some (vR 110), some (vR 0), some (vR 47), some (vI a3)] [] h = mm_ev mL_law 700 18 [some (vR 110), some (vR 0), some (vR 47), some (vI (a3 + 6))] [] h2 ∧ mm_Inv h2 ∧ ∀ j, h2 110 j = h 110 j := by
  have bb := (r (-1)).2
  have b1 : 0 ≤ a3 + 1 ∧ a3 + 1 < h 110 (-1) := by omega
  have w1 : w32 (a3 + 1) = a3 + 1 := w32_id (by unfold mm_r32; omega)
  have w6 : w32 (a3 + 6) = a3 + 6 := w32_id (by unfold mm_r32; omega)
  obtain ⟨v, h1, h2, e1, e2, i2⟩ := p_mishears h (h 110 (a3 + 1)) hI (r _)
  obtain ⟨x, rfl⟩ := kd_I e1 (by decide)
  have f1 : ∀ j, h1 110 j = h 110 j := fr_call e1
  have f2 : ∀ j, h2 110 j = h1 110 j := fr_call e2
  refine ⟨h2, ?_, i2, fun j => (f2 j).trans (f1 j)⟩
  rw [L_law_412, w1, if_pos b1, e1, mm_be1, L_law_421, w1]
  simp only [f1]
  rw [if_pos b1, e2, mm_be1, L_law_430, if_pos rfl, L_law_1651, w6]
theorem lw_hears {h : mm_M} {a3 : Int} (hI : mm_Inv h) (r : ∀ j, mm_r32 (h 110 j)) (b0 : 0 ≤ a3) (b9 : a3 + 6 ≤ h 110 (-1)) : ∃ h2, mm_ev mL_law 700 435 [some (vR 110), some (vR 0), some (vR 47), some (vI a3)] [] h = mm_ev mL_law 700 18 [some (vR 110), some (vR 0), some (vR 47), some (vI (a3 + 6))] [] h2 ∧ mm_Inv h2 ∧ ∀ j, h2 110 j = h 110 j := by
  have bb := (r (-1)).2
  have b1 : 0 ≤ a3 + 1 ∧ a3 + 1 < h 110 (-1) := by omega
  have w1 : w32 (a3 + 1) = a3 + 1 := w32_id (by unfold mm_r32; omega)
  have b2 : 0 ≤ a3 + 2 ∧ a3 + 2 < h 110 (-1) := by omega
  have w2 : w32 (a3 + 2) = a3 + 2 := w32_id (by unfold mm_r32; omega)
  have w6 : w32 (a3 + 6) = a3 + 6 := w32_id (by unfold mm_r32; omega)
  obtain ⟨v, h1, h2, e1, e2, i2⟩ := p_hears h (h 110 (a3 + 1)) (h 110 (a3 + 2)) hI
  obtain ⟨x, rfl⟩ := kd_I e1 (by decide)
  have f1 : ∀ j, h1 110 j = h 110 j := fr_call e1
  have f2 : ∀ j, h2 110 j = h1 110 j := fr_call e2
  refine ⟨h2, ?_, i2, fun j => (f2 j).trans (f1 j)⟩
  rw [L_law_435, w1, w2, if_pos b1, if_pos b2, e1, mm_be1, L_law_449, w1, w2]
  simp only [f1]
  rw [if_pos b1, if_pos b2, e2, mm_be1, L_law_463, if_pos rfl, L_law_1651, w6]
theorem lw_route {h : mm_M} {a3 : Int} (hI : mm_Inv h) (r : ∀ j, mm_r32 (h 110 j)) (b0 : 0 ≤ a3) (b9 : a3 + 6 ≤ h 110 (-1)) : ∃ h2, mm_ev mL_law 700 468 [some (vR 110), some (vR 0), some (vR 47), some (vI a3)] [] h = mm_ev mL_law 700 18 [some (vR 110), some (vR 0), some (vR 47), some (vI (a3 + 6))] [] h2 ∧ mm_Inv h2 ∧ ∀ j, h2 110 j = h 110 j := by
  have bb := (r (-1)).2
  have b1 : 0 ≤ a3 + 1 ∧ a3 + 1 < h 110 (-1) := by omega
  have w1 : w32 (a3 + 1) = a3 + 1 := w32_id (by unfold mm_r32; omega)
  have b2 : 0 ≤ a3 + 2 ∧ a3 + 2 < h 110 (-1) := by omega
  have w2 : w32 (a3 + 2) = a3 + 2 := w32_id (by unfold mm_r32; omega)
  have w6 : w32 (a3 + 6) = a3 + 6 := w32_id (by unfold mm_r32; omega)
  obtain ⟨v, h1, h2, e1, e2, i2⟩ := p_route h (h 110 (a3 + 1)) (h 110 (a3 + 2)) hI
  obtain ⟨x, rfl⟩ := kd_I e1 (by decide)
  have f1 : ∀ j, h1 110 j = h 110 j := fr_call e1
  have f2 : ∀ j, h2 110 j = h1 110 j := fr_call e2
  refine ⟨h2, ?_, i2, fun j => (f2 j).trans (f1 j)⟩
  rw [L_law_468, w1, w2, if_pos b1, if_pos b2, e1, mm_be1, L_law_482, w1, w2]
  simp only [f1]
  rw [if_pos b1, if_pos b2, e2, mm_be1, L_law_496, if_pos rfl, L_law_1651, w6]
theorem lw_letsIn {h : mm_M} {a3 : Int} (hI : mm_Inv h) (r : ∀ j, mm_r32 (h 110 j)) (b0 : 0 ≤ a3) (b9 : a3 + 6 ≤ h 110 (-1)) : ∃ h2, mm_ev mL_law 700 501 [some (vR 110), some (vR 0), some (vR 47), some (vI a3)] [] h = mm_ev mL_law 700 18 [some (vR 110), some (vR 0), some (vR 47), some (vI (a3 + 6))] [] h2 ∧ mm_Inv h2 ∧ ∀ j, h2 110 j = h 110 j := by
  have bb := (r (-1)).2
  have b1 : 0 ≤ a3 + 1 ∧ a3 + 1 < h 110 (-1) := by omega
  have w1 : w32 (a3 + 1) = a3 + 1 := w32_id (by unfold mm_r32; omega)
  have b2 : 0 ≤ a3 + 2 ∧ a3 + 2 < h 110 (-1) := by omega
  have w2 : w32 (a3 + 2) = a3 + 2 := w32_id (by unfold mm_r32; omega)
  have w6 : w32 (a3 + 6) = a3 + 6 := w32_id (by unfold mm_r32; omega)
  obtain ⟨v, h1, h2, e1, e2, i2⟩ := p_letsIn h (h 110 (a3 + 1)) (h 110 (a3 + 2)) hI (r _)
  obtain ⟨x, rfl⟩ := kd_I e1 (by decide)
  have f1 : ∀ j, h1 110 j = h 110 j := fr_call e1
  have f2 : ∀ j, h2 110 j = h1 110 j := fr_call e2
  refine ⟨h2, ?_, i2, fun j => (f2 j).trans (f1 j)⟩
  rw [L_law_501, w1, w2, if_pos b1, if_pos b2, e1, mm_be1, L_law_515, w1, w2]
  simp only [f1]
  rw [if_pos b1, if_pos b2, e2, mm_be1, L_law_529, if_pos rfl, L_law_1651, w6]
theorem lw_patrol {h : mm_M} {a3 : Int} (hI : mm_Inv h) (r : ∀ j, mm_r32 (h 110 j)) (b0 : 0 ≤ a3) (b9 : a3 + 6 ≤ h 110 (-1)) : ∃ h2, mm_ev mL_law 700 534 [some (vR 110), some (vR 0), some (vR 47), some (vI a3)] [] h = mm_ev mL_law 700 18 [some (vR 110), some (vR 0), some (vR 47), some (vI (a3 + 6))] [] h2 ∧ mm_Inv h2 ∧ ∀ j, h2 110 j = h 110 j := by
  have bb := (r (-1)).2
  have b1 : 0 ≤ a3 + 1 ∧ a3 + 1 < h 110 (-1) := by omega
  have w1 : w32 (a3 + 1) = a3 + 1 := w32_id (by unfold mm_r32; omega)
  have b2 : 0 ≤ a3 + 2 ∧ a3 + 2 < h 110 (-1) := by omega
  have w2 : w32 (a3 + 2) = a3 + 2 := w32_id (by unfold mm_r32; omega)
  have w6 : w32 (a3 + 6) = a3 + 6 := w32_id (by unfold mm_r32; omega)
  obtain ⟨v, h1, h2, e1, e2, i2⟩ := p_patrol h (h 110 (a3 + 1)) (h 110 (a3 + 2)) hI
  obtain ⟨x, rfl⟩ := kd_I e1 (by decide)
  have f1 : ∀ j, h1 110 j = h 110 j := fr_call e1
  have f2 : ∀ j, h2 110 j = h1 110 j := fr_call e2
  refine ⟨h2, ?_, i2, fun j => (f2 j).trans (f1 j)⟩
  rw [L_law_534, w1, w2, if_pos b1, if_pos b2, e1, mm_be1, L_law_548, w1, w2]
  simp only [f1]
  rw [if_pos b1, if_pos b2, e2, mm_be1, L_law_562, if_pos rfl, L_law_1651, w6]
theorem lw_holdsFor {h : mm_M} {a3 : Int} (hI : mm_Inv h) (r : ∀ j, mm_r32 (h 110 j)) (b0 : 0 ≤ a3) (b9 : a3 + 6 ≤ h 110 (-1)) : ∃ h2, mm_ev mL_law 700 567 [some (vR 110), some (vR 0), some (vR 47), some (vI a3)] [] h = mm_ev mL_law 700 18 [some (vR 110), some (vR 0), some (vR 47), some (vI (a3 + 6))] [] h2 ∧ mm_Inv h2 ∧ ∀ j, h2 110 j = h 110 j := by
  have bb := (r (-1)).2
  have b1 : 0 ≤ a3 + 1 ∧ a3 + 1 < h 110 (-1) := by omega
  have w1 : w32 (a3 + 1) = a3 + 1 := w32_id (by unfold mm_r32; omega)
  have w6 : w32 (a3 + 6) = a3 + 6 := w32_id (by unfold mm_r32; omega)
  obtain ⟨v, h1, h2, e1, e2, i2⟩ := p_holdsFor h (h 110 (a3 + 1)) hI
  obtain ⟨x, rfl⟩ := kd_I e1 (by decide)
  have f1 : ∀ j, h1 110 j = h 110 j := fr_call e1
  have f2 : ∀ j, h2 110 j = h1 110 j := fr_call e2
  refine ⟨h2, ?_, i2, fun j => (f2 j).trans (f1 j)⟩
  rw [L_law_567, w1, if_pos b1, e1, mm_be1, L_law_576, w1]
  simp only [f1]
  rw [if_pos b1, e2, mm_be1, L_law_585, if_pos rfl, L_law_1651, w6]
theorem lw_stranger {h : mm_M} {a3 : Int} (hI : mm_Inv h) (r : ∀ j, mm_r32 (h 110 j)) (b0 : 0 ≤ a3) (b9 : a3 + 6 ≤ h 110 (-1)) : ∃ h2, mm_ev mL_law 700 590 [some (vR 110), some (vR 0), some (vR 47), some (vI a3)] [] h = mm_ev mL_law 700 18 [some (vR 110), some (vR 0), some (vR 47), some (vI (a3 + 6))] [] h2 ∧ mm_Inv h2 ∧ ∀ j, h2 110 j = h 110 j := by
  have bb := (r (-1)).2
  have b1 : 0 ≤ a3 + 1 ∧ a3 + 1 < h 110 (-1) := by omega
  have w1 : w32 (a3 + 1) = a3 + 1 := w32_id (by unfold mm_r32; omega)
  have b2 : 0 ≤ a3 + 2 ∧ a3 + 2 < h 110 (-1) := by omega
  have w2 : w32 (a3 + 2) = a3 + 2 := w32_id (by unfold mm_r32; omega)
  have b3 : 0 ≤ a3 + 3 ∧ a3 + 3 < h 110 (-1) := by omega
  have w3 : w32 (a3 + 3) = a3 + 3 := w32_id (by unfold mm_r32; omega)
  have w6 : w32 (a3 + 6) = a3 + 6 := w32_id (by unfold mm_r32; omega)
  obtain ⟨v, h1, h2, e1, e2, i2⟩ := p_stranger h (h 110 (a3 + 1)) (h 110 (a3 + 2)) (h 110 (a3 + 3)) hI (r _)
  obtain ⟨x, rfl⟩ := kd_I e1 (by decide)
  have f1 : ∀ j, h1 110 j = h 110 j := fr_call e1
  have f2 : ∀ j, h2 110 j = h1 110 j := fr_call e2
  refine ⟨h2, ?_, i2, fun j => (f2 j).trans (f1 j)⟩
  rw [L_law_590, w1, w2, w3, if_pos b1, if_pos b2, if_pos b3, e1, mm_be1, L_law_609, w1, w2, w3]
  simp only [f1]
  rw [if_pos b1, if_pos b2, if_pos b3, e2, mm_be1, L_law_628, if_pos rfl, L_law_1651, w6]
theorem lw_safe {h : mm_M} {a3 : Int} (hI : mm_Inv h) (r : ∀ j, mm_r32 (h 110 j)) (b0 : 0 ≤ a3) (b9 : a3 + 6 ≤ h 110 (-1)) : ∃ h2, mm_ev mL_law 700 633 [some (vR 110), some (vR 0), some (vR 47), some (vI a3)] [] h = mm_ev mL_law 700 18 [some (vR 110), some (vR 0), some (vR 47), some (vI (a3 + 6))] [] h2 ∧ mm_Inv h2 ∧ ∀ j, h2 110 j = h 110 j := by
  have bb := (r (-1)).2
  have b1 : 0 ≤ a3 + 1 ∧ a3 + 1 < h 110 (-1) := by omega
  have w1 : w32 (a3 + 1) = a3 + 1 := w32_id (by unfold mm_r32; omega)
  have b2 : 0 ≤ a3 + 2 ∧ a3 + 2 < h 110 (-1) := by omega
  have w2 : w32 (a3 + 2) = a3 + 2 := w32_id (by unfold mm_r32; omega)
  have b3 : 0 ≤ a3 + 3 ∧ a3 + 3 < h 110 (-1) := by omega
  have w3 : w32 (a3 + 3) = a3 + 3 := w32_id (by unfold mm_r32; omega)
  have w6 : w32 (a3 + 6) = a3 + 6 := w32_id (by unfold mm_r32; omega)
  obtain ⟨v, h1, h2, e1, e2, i2⟩ := p_safe h (h 110 (a3 + 1)) (h 110 (a3 + 2)) (h 110 (a3 + 3)) hI (r _)
  obtain ⟨x, rfl⟩ := kd_I e1 (by decide)
  have f1 : ∀ j, h1 110 j = h 110 j := fr_call e1
  have f2 : ∀ j, h2 110 j = h1 110 j := fr_call e2
  refine ⟨h2, ?_, i2, fun j => (f2 j).trans (f1 j)⟩
  rw [L_law_633, w1, w2, w3, if_pos b1, if_pos b2, if_pos b3, e1, mm_be1, L_law_652, w1, w2, w3]
  simp only [f1]
  rw [if_pos b1, if_pos b2, if_pos b3, e2, mm_be1, L_law_671, if_pos rfl, L_law_1651, w6]
theorem lw_first {h : mm_M} {a3 : Int} (hI : mm_Inv h) (r : ∀ j, mm_r32 (h 110 j)) (b0 : 0 ≤ a3) (b9 : a3 + 6 ≤ h 110 (-1)) : ∃ h2, mm_ev mL_law 700 676 [some (vR 110), some (vR 0), some (vR 47), some (vI a3)] [] h = mm_ev mL_law 700 18 [some (vR 110), some (vR 0), some (vR 47), some (vI (a3 + 6))] [] h2 ∧ mm_Inv h2 ∧ ∀ j, h2 110 j = h 110 j := by
  have bb := (r (-1)).2
  have b1 : 0 ≤ a3 + 1 ∧ a3 + 1 < h 110 (-1) := by omega
  have w1 : w32 (a3 + 1) = a3 + 1 := w32_id (by unfold mm_r32; omega)
  have b2 : 0 ≤ a3 + 2 ∧ a3 + 2 < h 110 (-1) := by omega
  have w2 : w32 (a3 + 2) = a3 + 2 := w32_id (by unfold mm_r32; omega)
  have w6 : w32 (a3 + 6) = a3 + 6 := w32_id (by unfold mm_r32; omega)
  obtain ⟨v, h1, h2, e1, e2, i2⟩ := p_first h (h 110 (a3 + 1)) (h 110 (a3 + 2)) hI
  obtain ⟨x, rfl⟩ := kd_I e1 (by decide)
  have f1 : ∀ j, h1 110 j = h 110 j := fr_call e1
  have f2 : ∀ j, h2 110 j = h1 110 j := fr_call e2
  refine ⟨h2, ?_, i2, fun j => (f2 j).trans (f1 j)⟩
  rw [L_law_676, w1, w2, if_pos b1, if_pos b2, e1, mm_be1, L_law_690, w1, w2]
  simp only [f1]
  rw [if_pos b1, if_pos b2, e2, mm_be1, L_law_704, if_pos rfl, L_law_1651, w6]
theorem lw_right {h : mm_M} {a3 : Int} (hI : mm_Inv h) (r : ∀ j, mm_r32 (h 110 j)) (b0 : 0 ≤ a3) (b9 : a3 + 6 ≤ h 110 (-1)) : ∃ h2, mm_ev mL_law 700 709 [some (vR 110), some (vR 0), some (vR 47), some (vI a3)] [] h = mm_ev mL_law 700 18 [some (vR 110), some (vR 0), some (vR 47), some (vI (a3 + 6))] [] h2 ∧ mm_Inv h2 ∧ ∀ j, h2 110 j = h 110 j := by
  have bb := (r (-1)).2
  have b1 : 0 ≤ a3 + 1 ∧ a3 + 1 < h 110 (-1) := by omega
  have w1 : w32 (a3 + 1) = a3 + 1 := w32_id (by unfold mm_r32; omega)
  have b2 : 0 ≤ a3 + 2 ∧ a3 + 2 < h 110 (-1) := by omega
  have w2 : w32 (a3 + 2) = a3 + 2 := w32_id (by unfold mm_r32; omega)
  have b3 : 0 ≤ a3 + 3 ∧ a3 + 3 < h 110 (-1) := by omega
  have w3 : w32 (a3 + 3) = a3 + 3 := w32_id (by unfold mm_r32; omega)
  have b4 : 0 ≤ a3 + 4 ∧ a3 + 4 < h 110 (-1) := by omega
  have w4 : w32 (a3 + 4) = a3 + 4 := w32_id (by unfold mm_r32; omega)
  have w6 : w32 (a3 + 6) = a3 + 6 := w32_id (by unfold mm_r32; omega)
  obtain ⟨v, h1, h2, e1, e2, i2⟩ := p_right h (h 110 (a3 + 1)) (h 110 (a3 + 2)) (h 110 (a3 + 3)) (h 110 (a3 + 4)) hI
  obtain ⟨x, rfl⟩ := kd_L e1 rfl
  have f1 : ∀ j, h1 110 j = h 110 j := fr_call e1
  have f2 : ∀ j, h2 110 j = h1 110 j := fr_call e2
  refine ⟨h2, ?_, i2, fun j => (f2 j).trans (f1 j)⟩
  rw [L_law_709, w1, w2, w3, w4, if_pos b1, if_pos b2, if_pos b3, if_pos b4, e1, mm_be1, L_law_733, w1, w2, w3, w4]
  simp only [f1]
  rw [if_pos b1, if_pos b2, if_pos b3, if_pos b4, e2, mm_be1, L_law_757, if_pos (lCmp_rf x), L_law_1651, w6]
theorem lw_twice {h : mm_M} {a3 : Int} (hI : mm_Inv h) (r : ∀ j, mm_r32 (h 110 j)) (b0 : 0 ≤ a3) (b9 : a3 + 6 ≤ h 110 (-1)) : ∃ h2, mm_ev mL_law 700 763 [some (vR 110), some (vR 0), some (vR 47), some (vI a3)] [] h = mm_ev mL_law 700 18 [some (vR 110), some (vR 0), some (vR 47), some (vI (a3 + 6))] [] h2 ∧ mm_Inv h2 ∧ ∀ j, h2 110 j = h 110 j := by
  have bb := (r (-1)).2
  have b1 : 0 ≤ a3 + 1 ∧ a3 + 1 < h 110 (-1) := by omega
  have w1 : w32 (a3 + 1) = a3 + 1 := w32_id (by unfold mm_r32; omega)
  have b2 : 0 ≤ a3 + 2 ∧ a3 + 2 < h 110 (-1) := by omega
  have w2 : w32 (a3 + 2) = a3 + 2 := w32_id (by unfold mm_r32; omega)
  have b3 : 0 ≤ a3 + 3 ∧ a3 + 3 < h 110 (-1) := by omega
  have w3 : w32 (a3 + 3) = a3 + 3 := w32_id (by unfold mm_r32; omega)
  have w6 : w32 (a3 + 6) = a3 + 6 := w32_id (by unfold mm_r32; omega)
  obtain ⟨v, h1, h2, e1, e2, i2⟩ := p_twice h (h 110 (a3 + 1)) (h 110 (a3 + 2)) (h 110 (a3 + 3)) hI
  obtain ⟨x, rfl⟩ := kd_L e1 rfl
  have f1 : ∀ j, h1 110 j = h 110 j := fr_call e1
  have f2 : ∀ j, h2 110 j = h1 110 j := fr_call e2
  refine ⟨h2, ?_, i2, fun j => (f2 j).trans (f1 j)⟩
  rw [L_law_763, w1, w2, w3, if_pos b1, if_pos b2, if_pos b3, e1, mm_be1, L_law_782, w1, w2, w3]
  simp only [f1]
  rw [if_pos b1, if_pos b2, if_pos b3, e2, mm_be1, L_law_801, if_pos (lCmp_rf x), L_law_1651, w6]
theorem lw_word {h : mm_M} {a3 : Int} (hI : mm_Inv h) (r : ∀ j, mm_r32 (h 110 j)) (b0 : 0 ≤ a3) (b9 : a3 + 6 ≤ h 110 (-1)) : ∃ h2, mm_ev mL_law 700 807 [some (vR 110), some (vR 0), some (vR 47), some (vI a3)] [] h = mm_ev mL_law 700 18 [some (vR 110), some (vR 0), some (vR 47), some (vI (a3 + 6))] [] h2 ∧ mm_Inv h2 ∧ ∀ j, h2 110 j = h 110 j := by
  have bb := (r (-1)).2
  have b1 : 0 ≤ a3 + 1 ∧ a3 + 1 < h 110 (-1) := by omega
  have w1 : w32 (a3 + 1) = a3 + 1 := w32_id (by unfold mm_r32; omega)
  have w6 : w32 (a3 + 6) = a3 + 6 := w32_id (by unfold mm_r32; omega)
  obtain ⟨v, h1, h2, e1, e2, i2⟩ := p_word h (h 110 (a3 + 1)) hI
  obtain ⟨x, rfl⟩ := kd_I e1 (by decide)
  have f1 : ∀ j, h1 110 j = h 110 j := fr_call e1
  have f2 : ∀ j, h2 110 j = h1 110 j := fr_call e2
  refine ⟨h2, ?_, i2, fun j => (f2 j).trans (f1 j)⟩
  rw [L_law_807, w1, if_pos b1, e1, mm_be1, L_law_816, w1]
  simp only [f1]
  rw [if_pos b1, e2, mm_be1, L_law_825, if_pos rfl, L_law_1651, w6]
theorem lw_odds {h : mm_M} {a3 : Int} (hI : mm_Inv h) (r : ∀ j, mm_r32 (h 110 j)) (b0 : 0 ≤ a3) (b9 : a3 + 6 ≤ h 110 (-1)) : ∃ h2, mm_ev mL_law 700 830 [some (vR 110), some (vR 0), some (vR 47), some (vI a3)] [] h = mm_ev mL_law 700 18 [some (vR 110), some (vR 0), some (vR 47), some (vI (a3 + 6))] [] h2 ∧ mm_Inv h2 ∧ ∀ j, h2 110 j = h 110 j := by
  have bb := (r (-1)).2
  have b1 : 0 ≤ a3 + 1 ∧ a3 + 1 < h 110 (-1) := by omega
  have w1 : w32 (a3 + 1) = a3 + 1 := w32_id (by unfold mm_r32; omega)
  have b2 : 0 ≤ a3 + 2 ∧ a3 + 2 < h 110 (-1) := by omega
  have w2 : w32 (a3 + 2) = a3 + 2 := w32_id (by unfold mm_r32; omega)
  have b3 : 0 ≤ a3 + 3 ∧ a3 + 3 < h 110 (-1) := by omega
  have w3 : w32 (a3 + 3) = a3 + 3 := w32_id (by unfold mm_r32; omega)
  have w6 : w32 (a3 + 6) = a3 + 6 := w32_id (by unfold mm_r32; omega)
  obtain ⟨v, h1, h2, e1, e2, i2⟩ := p_odds h (h 110 (a3 + 1)) (h 110 (a3 + 2)) (h 110 (a3 + 3)) hI
  obtain ⟨x, rfl⟩ := kd_L e1 rfl
  have f1 : ∀ j, h1 110 j = h 110 j := fr_call e1
  have f2 : ∀ j, h2 110 j = h1 110 j := fr_call e2
  refine ⟨h2, ?_, i2, fun j => (f2 j).trans (f1 j)⟩
  rw [L_law_830, w1, w2, w3, if_pos b1, if_pos b2, if_pos b3, e1, mm_be1, L_law_849, w1, w2, w3]
  simp only [f1]
  rw [if_pos b1, if_pos b2, if_pos b3, e2, mm_be1, L_law_868, if_pos (lCmp_rf x), L_law_1651, w6]
theorem lw_guess {h : mm_M} {a3 : Int} (hI : mm_Inv h) (r : ∀ j, mm_r32 (h 110 j)) (b0 : 0 ≤ a3) (b9 : a3 + 6 ≤ h 110 (-1)) : ∃ h2, mm_ev mL_law 700 874 [some (vR 110), some (vR 0), some (vR 47), some (vI a3)] [] h = mm_ev mL_law 700 18 [some (vR 110), some (vR 0), some (vR 47), some (vI (a3 + 6))] [] h2 ∧ mm_Inv h2 ∧ ∀ j, h2 110 j = h 110 j := by
  have bb := (r (-1)).2
  have b1 : 0 ≤ a3 + 1 ∧ a3 + 1 < h 110 (-1) := by omega
  have w1 : w32 (a3 + 1) = a3 + 1 := w32_id (by unfold mm_r32; omega)
  have b2 : 0 ≤ a3 + 2 ∧ a3 + 2 < h 110 (-1) := by omega
  have w2 : w32 (a3 + 2) = a3 + 2 := w32_id (by unfold mm_r32; omega)
  have b3 : 0 ≤ a3 + 3 ∧ a3 + 3 < h 110 (-1) := by omega
  have w3 : w32 (a3 + 3) = a3 + 3 := w32_id (by unfold mm_r32; omega)
  have b4 : 0 ≤ a3 + 4 ∧ a3 + 4 < h 110 (-1) := by omega
  have w4 : w32 (a3 + 4) = a3 + 4 := w32_id (by unfold mm_r32; omega)
  have w6 : w32 (a3 + 6) = a3 + 6 := w32_id (by unfold mm_r32; omega)
  obtain ⟨v, h1, h2, e1, e2, i2⟩ := p_guess h (h 110 (a3 + 1)) (h 110 (a3 + 2)) (h 110 (a3 + 3)) (h 110 (a3 + 4)) hI (r _)
  obtain ⟨x, rfl⟩ := kd_L e1 rfl
  have f1 : ∀ j, h1 110 j = h 110 j := fr_call e1
  have f2 : ∀ j, h2 110 j = h1 110 j := fr_call e2
  refine ⟨h2, ?_, i2, fun j => (f2 j).trans (f1 j)⟩
  rw [L_law_874, w1, w2, w3, w4, if_pos b1, if_pos b2, if_pos b3, if_pos b4, e1, mm_be1, L_law_898, w1, w2, w3, w4]
  simp only [f1]
  rw [if_pos b1, if_pos b2, if_pos b3, if_pos b4, e2, mm_be1, L_law_922, if_pos (lCmp_rf x), L_law_1651, w6]
theorem lw_judge {h : mm_M} {a3 : Int} (hI : mm_Inv h) (r : ∀ j, mm_r32 (h 110 j)) (b0 : 0 ≤ a3) (b9 : a3 + 6 ≤ h 110 (-1)) : ∃ h2, mm_ev mL_law 700 928 [some (vR 110), some (vR 0), some (vR 47), some (vI a3)] [] h = mm_ev mL_law 700 18 [some (vR 110), some (vR 0), some (vR 47), some (vI (a3 + 6))] [] h2 ∧ mm_Inv h2 ∧ ∀ j, h2 110 j = h 110 j := by
  have bb := (r (-1)).2
  have b1 : 0 ≤ a3 + 1 ∧ a3 + 1 < h 110 (-1) := by omega
  have w1 : w32 (a3 + 1) = a3 + 1 := w32_id (by unfold mm_r32; omega)
  have w6 : w32 (a3 + 6) = a3 + 6 := w32_id (by unfold mm_r32; omega)
  obtain ⟨v, h1, h2, e1, e2, i2⟩ := p_judge h (h 110 (a3 + 1)) hI (r _)
  obtain ⟨x, rfl⟩ := kd_I e1 (by decide)
  have f1 : ∀ j, h1 110 j = h 110 j := fr_call e1
  have f2 : ∀ j, h2 110 j = h1 110 j := fr_call e2
  refine ⟨h2, ?_, i2, fun j => (f2 j).trans (f1 j)⟩
  rw [L_law_928, w1, if_pos b1, e1, mm_be1, L_law_937, w1]
  simp only [f1]
  rw [if_pos b1, e2, mm_be1, L_law_946, if_pos rfl, L_law_1651, w6]
theorem lw_which {h : mm_M} {a3 : Int} (hI : mm_Inv h) (r : ∀ j, mm_r32 (h 110 j)) (b0 : 0 ≤ a3) (b9 : a3 + 6 ≤ h 110 (-1)) : ∃ h2, mm_ev mL_law 700 951 [some (vR 110), some (vR 0), some (vR 47), some (vI a3)] [] h = mm_ev mL_law 700 18 [some (vR 110), some (vR 0), some (vR 47), some (vI (a3 + 6))] [] h2 ∧ mm_Inv h2 ∧ ∀ j, h2 110 j = h 110 j := by
  have bb := (r (-1)).2
  have b1 : 0 ≤ a3 + 1 ∧ a3 + 1 < h 110 (-1) := by omega
  have w1 : w32 (a3 + 1) = a3 + 1 := w32_id (by unfold mm_r32; omega)
  have b2 : 0 ≤ a3 + 2 ∧ a3 + 2 < h 110 (-1) := by omega
  have w2 : w32 (a3 + 2) = a3 + 2 := w32_id (by unfold mm_r32; omega)
  have w6 : w32 (a3 + 6) = a3 + 6 := w32_id (by unfold mm_r32; omega)
  obtain ⟨v, h1, h2, e1, e2, i2⟩ := p_which h (h 110 (a3 + 1)) (h 110 (a3 + 2)) hI
  obtain ⟨x, rfl⟩ := kd_I e1 (by decide)
  have f1 : ∀ j, h1 110 j = h 110 j := fr_call e1
  have f2 : ∀ j, h2 110 j = h1 110 j := fr_call e2
  refine ⟨h2, ?_, i2, fun j => (f2 j).trans (f1 j)⟩
  rw [L_law_951, w1, w2, if_pos b1, if_pos b2, e1, mm_be1, L_law_965, w1, w2]
  simp only [f1]
  rw [if_pos b1, if_pos b2, e2, mm_be1, L_law_979, if_pos rfl, L_law_1651, w6]
theorem lw_when {h : mm_M} {a3 : Int} (hI : mm_Inv h) (r : ∀ j, mm_r32 (h 110 j)) (b0 : 0 ≤ a3) (b9 : a3 + 6 ≤ h 110 (-1)) : ∃ h2, mm_ev mL_law 700 984 [some (vR 110), some (vR 0), some (vR 47), some (vI a3)] [] h = mm_ev mL_law 700 18 [some (vR 110), some (vR 0), some (vR 47), some (vI (a3 + 6))] [] h2 ∧ mm_Inv h2 ∧ ∀ j, h2 110 j = h 110 j := by
  have bb := (r (-1)).2
  have b1 : 0 ≤ a3 + 1 ∧ a3 + 1 < h 110 (-1) := by omega
  have w1 : w32 (a3 + 1) = a3 + 1 := w32_id (by unfold mm_r32; omega)
  have w6 : w32 (a3 + 6) = a3 + 6 := w32_id (by unfold mm_r32; omega)
  obtain ⟨v, h1, h2, e1, e2, i2⟩ := p_when h (h 110 (a3 + 1)) hI (r _)
  obtain ⟨x, rfl⟩ := kd_I e1 (by decide)
  have f1 : ∀ j, h1 110 j = h 110 j := fr_call e1
  have f2 : ∀ j, h2 110 j = h1 110 j := fr_call e2
  refine ⟨h2, ?_, i2, fun j => (f2 j).trans (f1 j)⟩
  rw [L_law_984, w1, if_pos b1, e1, mm_be1, L_law_993, w1]
  simp only [f1]
  rw [if_pos b1, e2, mm_be1, L_law_1002, if_pos rfl, L_law_1651, w6]
theorem lw_oddWord {h : mm_M} {a3 : Int} (hI : mm_Inv h) (r : ∀ j, mm_r32 (h 110 j)) (b0 : 0 ≤ a3) (b9 : a3 + 6 ≤ h 110 (-1)) : ∃ h2, mm_ev mL_law 700 1007 [some (vR 110), some (vR 0), some (vR 47), some (vI a3)] [] h = mm_ev mL_law 700 18 [some (vR 110), some (vR 0), some (vR 47), some (vI (a3 + 6))] [] h2 ∧ mm_Inv h2 ∧ ∀ j, h2 110 j = h 110 j := by
  have bb := (r (-1)).2
  have b1 : 0 ≤ a3 + 1 ∧ a3 + 1 < h 110 (-1) := by omega
  have w1 : w32 (a3 + 1) = a3 + 1 := w32_id (by unfold mm_r32; omega)
  have w6 : w32 (a3 + 6) = a3 + 6 := w32_id (by unfold mm_r32; omega)
  obtain ⟨v, h1, h2, e1, e2, i2⟩ := p_oddWord h (h 110 (a3 + 1)) hI (r _)
  obtain ⟨x, rfl⟩ := kd_I e1 (by decide)
  have f1 : ∀ j, h1 110 j = h 110 j := fr_call e1
  have f2 : ∀ j, h2 110 j = h1 110 j := fr_call e2
  refine ⟨h2, ?_, i2, fun j => (f2 j).trans (f1 j)⟩
  rw [L_law_1007, w1, if_pos b1, e1, mm_be1, L_law_1016, w1]
  simp only [f1]
  rw [if_pos b1, e2, mm_be1, L_law_1025, if_pos rfl, L_law_1651, w6]
theorem lw_drawn {h : mm_M} {a3 : Int} (hI : mm_Inv h) (r : ∀ j, mm_r32 (h 110 j)) (b0 : 0 ≤ a3) (b9 : a3 + 6 ≤ h 110 (-1)) : ∃ h2, mm_ev mL_law 700 1030 [some (vR 110), some (vR 0), some (vR 47), some (vI a3)] [] h = mm_ev mL_law 700 18 [some (vR 110), some (vR 0), some (vR 47), some (vI (a3 + 6))] [] h2 ∧ mm_Inv h2 ∧ ∀ j, h2 110 j = h 110 j := by
  have bb := (r (-1)).2
  have b1 : 0 ≤ a3 + 1 ∧ a3 + 1 < h 110 (-1) := by omega
  have w1 : w32 (a3 + 1) = a3 + 1 := w32_id (by unfold mm_r32; omega)
  have b2 : 0 ≤ a3 + 2 ∧ a3 + 2 < h 110 (-1) := by omega
  have w2 : w32 (a3 + 2) = a3 + 2 := w32_id (by unfold mm_r32; omega)
  have b3 : 0 ≤ a3 + 3 ∧ a3 + 3 < h 110 (-1) := by omega
  have w3 : w32 (a3 + 3) = a3 + 3 := w32_id (by unfold mm_r32; omega)
  have b4 : 0 ≤ a3 + 4 ∧ a3 + 4 < h 110 (-1) := by omega
  have w4 : w32 (a3 + 4) = a3 + 4 := w32_id (by unfold mm_r32; omega)
  have w6 : w32 (a3 + 6) = a3 + 6 := w32_id (by unfold mm_r32; omega)
  obtain ⟨v, h1, h2, e1, e2, i2⟩ := p_drawn h (h 110 (a3 + 1)) (h 110 (a3 + 2)) (h 110 (a3 + 3)) (h 110 (a3 + 4)) hI
  obtain ⟨x, rfl⟩ := kd_I e1 (by decide)
  have f1 : ∀ j, h1 110 j = h 110 j := fr_call e1
  have f2 : ∀ j, h2 110 j = h1 110 j := fr_call e2
  refine ⟨h2, ?_, i2, fun j => (f2 j).trans (f1 j)⟩
  rw [L_law_1030, w1, w2, w3, w4, if_pos b1, if_pos b2, if_pos b3, if_pos b4, e1, mm_be1, L_law_1054, w1, w2, w3, w4]
  simp only [f1]
  rw [if_pos b1, if_pos b2, if_pos b3, if_pos b4, e2, mm_be1, L_law_1078, if_pos rfl, L_law_1651, w6]
theorem lw_change {h : mm_M} {a3 : Int} (hI : mm_Inv h) (r : ∀ j, mm_r32 (h 110 j)) (b0 : 0 ≤ a3) (b9 : a3 + 6 ≤ h 110 (-1)) : ∃ h2, mm_ev mL_law 700 1083 [some (vR 110), some (vR 0), some (vR 47), some (vI a3)] [] h = mm_ev mL_law 700 18 [some (vR 110), some (vR 0), some (vR 47), some (vI (a3 + 6))] [] h2 ∧ mm_Inv h2 ∧ ∀ j, h2 110 j = h 110 j := by
  have bb := (r (-1)).2
  have b1 : 0 ≤ a3 + 1 ∧ a3 + 1 < h 110 (-1) := by omega
  have w1 : w32 (a3 + 1) = a3 + 1 := w32_id (by unfold mm_r32; omega)
  have w6 : w32 (a3 + 6) = a3 + 6 := w32_id (by unfold mm_r32; omega)
  obtain ⟨v, h1, h2, e1, e2, i2⟩ := p_change h (h 110 (a3 + 1)) hI
  obtain ⟨x, rfl⟩ := kd_I e1 (by decide)
  have f1 : ∀ j, h1 110 j = h 110 j := fr_call e1
  have f2 : ∀ j, h2 110 j = h1 110 j := fr_call e2
  refine ⟨h2, ?_, i2, fun j => (f2 j).trans (f1 j)⟩
  rw [L_law_1083, w1, if_pos b1, e1, mm_be1, L_law_1092, w1]
  simp only [f1]
  rw [if_pos b1, e2, mm_be1, L_law_1101, if_pos rfl, L_law_1651, w6]
theorem lw_tell {h : mm_M} {a3 : Int} (hI : mm_Inv h) (r : ∀ j, mm_r32 (h 110 j)) (b0 : 0 ≤ a3) (b9 : a3 + 6 ≤ h 110 (-1)) : ∃ h2, mm_ev mL_law 700 1106 [some (vR 110), some (vR 0), some (vR 47), some (vI a3)] [] h = mm_ev mL_law 700 18 [some (vR 110), some (vR 0), some (vR 47), some (vI (a3 + 6))] [] h2 ∧ mm_Inv h2 ∧ ∀ j, h2 110 j = h 110 j := by
  have bb := (r (-1)).2
  have b1 : 0 ≤ a3 + 1 ∧ a3 + 1 < h 110 (-1) := by omega
  have w1 : w32 (a3 + 1) = a3 + 1 := w32_id (by unfold mm_r32; omega)
  have w6 : w32 (a3 + 6) = a3 + 6 := w32_id (by unfold mm_r32; omega)
  obtain ⟨v, h1, h2, e1, e2, i2⟩ := p_tell h (h 110 (a3 + 1)) hI
  obtain ⟨x, rfl⟩ := kd_I e1 (by decide)
  have f1 : ∀ j, h1 110 j = h 110 j := fr_call e1
  have f2 : ∀ j, h2 110 j = h1 110 j := fr_call e2
  refine ⟨h2, ?_, i2, fun j => (f2 j).trans (f1 j)⟩
  rw [L_law_1106, w1, if_pos b1, e1, mm_be1, L_law_1115, w1]
  simp only [f1]
  rw [if_pos b1, e2, mm_be1, L_law_1124, if_pos rfl, L_law_1651, w6]
theorem lw_stay {h : mm_M} {a3 : Int} (hI : mm_Inv h) (r : ∀ j, mm_r32 (h 110 j)) (b0 : 0 ≤ a3) (b9 : a3 + 6 ≤ h 110 (-1)) : ∃ h2, mm_ev mL_law 700 1129 [some (vR 110), some (vR 0), some (vR 47), some (vI a3)] [] h = mm_ev mL_law 700 18 [some (vR 110), some (vR 0), some (vR 47), some (vI (a3 + 6))] [] h2 ∧ mm_Inv h2 ∧ ∀ j, h2 110 j = h 110 j := by
  have bb := (r (-1)).2
  have b1 : 0 ≤ a3 + 1 ∧ a3 + 1 < h 110 (-1) := by omega
  have w1 : w32 (a3 + 1) = a3 + 1 := w32_id (by unfold mm_r32; omega)
  have w6 : w32 (a3 + 6) = a3 + 6 := w32_id (by unfold mm_r32; omega)
  obtain ⟨v, h1, h2, e1, e2, i2⟩ := p_stay h (h 110 (a3 + 1)) hI (r _)
  obtain ⟨x, rfl⟩ := kd_I e1 (by decide)
  have f1 : ∀ j, h1 110 j = h 110 j := fr_call e1
  have f2 : ∀ j, h2 110 j = h1 110 j := fr_call e2
  refine ⟨h2, ?_, i2, fun j => (f2 j).trans (f1 j)⟩
  rw [L_law_1129, w1, if_pos b1, e1, mm_be1, L_law_1138, w1]
  simp only [f1]
  rw [if_pos b1, e2, mm_be1, L_law_1147, if_pos rfl, L_law_1651, w6]
theorem lw_ask {h : mm_M} {a3 : Int} (hI : mm_Inv h) (r : ∀ j, mm_r32 (h 110 j)) (b0 : 0 ≤ a3) (b9 : a3 + 6 ≤ h 110 (-1)) : ∃ h2, mm_ev mL_law 700 1152 [some (vR 110), some (vR 0), some (vR 47), some (vI a3)] [] h = mm_ev mL_law 700 18 [some (vR 110), some (vR 0), some (vR 47), some (vI (a3 + 6))] [] h2 ∧ mm_Inv h2 ∧ ∀ j, h2 110 j = h 110 j := by
  have bb := (r (-1)).2
  have b1 : 0 ≤ a3 + 1 ∧ a3 + 1 < h 110 (-1) := by omega
  have w1 : w32 (a3 + 1) = a3 + 1 := w32_id (by unfold mm_r32; omega)
  have b2 : 0 ≤ a3 + 2 ∧ a3 + 2 < h 110 (-1) := by omega
  have w2 : w32 (a3 + 2) = a3 + 2 := w32_id (by unfold mm_r32; omega)
  have w6 : w32 (a3 + 6) = a3 + 6 := w32_id (by unfold mm_r32; omega)
  obtain ⟨v, h1, h2, e1, e2, i2⟩ := p_ask h (h 110 (a3 + 1)) (h 110 (a3 + 2)) hI
  obtain ⟨x, rfl⟩ := kd_I e1 (by decide)
  have f1 : ∀ j, h1 110 j = h 110 j := fr_call e1
  have f2 : ∀ j, h2 110 j = h1 110 j := fr_call e2
  refine ⟨h2, ?_, i2, fun j => (f2 j).trans (f1 j)⟩
  rw [L_law_1152, w1, w2, if_pos b1, if_pos b2, e1, mm_be1, L_law_1166, w1, w2]
  simp only [f1]
  rw [if_pos b1, if_pos b2, e2, mm_be1, L_law_1180, if_pos rfl, L_law_1651, w6]
theorem lw_led {h : mm_M} {a3 : Int} (hI : mm_Inv h) (r : ∀ j, mm_r32 (h 110 j)) (b0 : 0 ≤ a3) (b9 : a3 + 6 ≤ h 110 (-1)) : ∃ h2, mm_ev mL_law 700 1185 [some (vR 110), some (vR 0), some (vR 47), some (vI a3)] [] h = mm_ev mL_law 700 18 [some (vR 110), some (vR 0), some (vR 47), some (vI (a3 + 6))] [] h2 ∧ mm_Inv h2 ∧ ∀ j, h2 110 j = h 110 j := by
  have bb := (r (-1)).2
  have b1 : 0 ≤ a3 + 1 ∧ a3 + 1 < h 110 (-1) := by omega
  have w1 : w32 (a3 + 1) = a3 + 1 := w32_id (by unfold mm_r32; omega)
  have w6 : w32 (a3 + 6) = a3 + 6 := w32_id (by unfold mm_r32; omega)
  obtain ⟨v, h1, h2, e1, e2, i2⟩ := p_led h (h 110 (a3 + 1)) hI
  obtain ⟨x, rfl⟩ := kd_I e1 (by decide)
  have f1 : ∀ j, h1 110 j = h 110 j := fr_call e1
  have f2 : ∀ j, h2 110 j = h1 110 j := fr_call e2
  refine ⟨h2, ?_, i2, fun j => (f2 j).trans (f1 j)⟩
  rw [L_law_1185, w1, if_pos b1, e1, mm_be1, L_law_1194, w1]
  simp only [f1]
  rw [if_pos b1, e2, mm_be1, L_law_1203, if_pos rfl, L_law_1651, w6]
theorem lw_image {h : mm_M} {a3 : Int} (hI : mm_Inv h) (r : ∀ j, mm_r32 (h 110 j)) (b0 : 0 ≤ a3) (b9 : a3 + 6 ≤ h 110 (-1)) : ∃ h2, mm_ev mL_law 700 1208 [some (vR 110), some (vR 0), some (vR 47), some (vI a3)] [] h = mm_ev mL_law 700 18 [some (vR 110), some (vR 0), some (vR 47), some (vI (a3 + 6))] [] h2 ∧ mm_Inv h2 ∧ ∀ j, h2 110 j = h 110 j := by
  have bb := (r (-1)).2
  have w6 : w32 (a3 + 6) = a3 + 6 := w32_id (by unfold mm_r32; omega)
  obtain ⟨v, h1, h2, e1, e2, i2⟩ := p_image h  hI
  obtain ⟨x, rfl⟩ := kd_I e1 (by decide)
  have f1 : ∀ j, h1 110 j = h 110 j := fr_call e1
  have f2 : ∀ j, h2 110 j = h1 110 j := fr_call e2
  refine ⟨h2, ?_, i2, fun j => (f2 j).trans (f1 j)⟩
  rw [L_law_1208, e1, mm_be1, L_law_1212, e2, mm_be1, L_law_1216, if_pos rfl, L_law_1651, w6]
theorem lw_back {h : mm_M} {a3 : Int} (hI : mm_Inv h) (r : ∀ j, mm_r32 (h 110 j)) (b0 : 0 ≤ a3) (b9 : a3 + 6 ≤ h 110 (-1)) : ∃ h2, mm_ev mL_law 700 1221 [some (vR 110), some (vR 0), some (vR 47), some (vI a3)] [] h = mm_ev mL_law 700 18 [some (vR 110), some (vR 0), some (vR 47), some (vI (a3 + 6))] [] h2 ∧ mm_Inv h2 ∧ ∀ j, h2 110 j = h 110 j := by
  have bb := (r (-1)).2
  have w6 : w32 (a3 + 6) = a3 + 6 := w32_id (by unfold mm_r32; omega)
  obtain ⟨v, h1, h2, e1, e2, i2⟩ := p_back h  hI
  obtain ⟨x, rfl⟩ := kd_I e1 (by decide)
  have f1 : ∀ j, h1 110 j = h 110 j := fr_call e1
  have f2 : ∀ j, h2 110 j = h1 110 j := fr_call e2
  refine ⟨h2, ?_, i2, fun j => (f2 j).trans (f1 j)⟩
  rw [L_law_1221, e1, mm_be1, L_law_1225, e2, mm_be1, L_law_1229, if_pos rfl, L_law_1651, w6]
theorem lw_undo {h : mm_M} {a3 : Int} (hI : mm_Inv h) (r : ∀ j, mm_r32 (h 110 j)) (b0 : 0 ≤ a3) (b9 : a3 + 6 ≤ h 110 (-1)) : ∃ h2, mm_ev mL_law 700 1234 [some (vR 110), some (vR 0), some (vR 47), some (vI a3)] [] h = mm_ev mL_law 700 18 [some (vR 110), some (vR 0), some (vR 47), some (vI (a3 + 6))] [] h2 ∧ mm_Inv h2 ∧ ∀ j, h2 110 j = h 110 j := by
  have bb := (r (-1)).2
  have w6 : w32 (a3 + 6) = a3 + 6 := w32_id (by unfold mm_r32; omega)
  obtain ⟨v, h1, h2, e1, e2, i2⟩ := p_undo h  hI
  obtain ⟨x, rfl⟩ := kd_I e1 (by decide)
  have f1 : ∀ j, h1 110 j = h 110 j := fr_call e1
  have f2 : ∀ j, h2 110 j = h1 110 j := fr_call e2
  refine ⟨h2, ?_, i2, fun j => (f2 j).trans (f1 j)⟩
  rw [L_law_1234, e1, mm_be1, L_law_1238, e2, mm_be1, L_law_1242, if_pos rfl, L_law_1651, w6]
theorem lw_redo {h : mm_M} {a3 : Int} (hI : mm_Inv h) (r : ∀ j, mm_r32 (h 110 j)) (b0 : 0 ≤ a3) (b9 : a3 + 6 ≤ h 110 (-1)) : ∃ h2, mm_ev mL_law 700 1247 [some (vR 110), some (vR 0), some (vR 47), some (vI a3)] [] h = mm_ev mL_law 700 18 [some (vR 110), some (vR 0), some (vR 47), some (vI (a3 + 6))] [] h2 ∧ mm_Inv h2 ∧ ∀ j, h2 110 j = h 110 j := by
  have bb := (r (-1)).2
  have w6 : w32 (a3 + 6) = a3 + 6 := w32_id (by unfold mm_r32; omega)
  obtain ⟨v, h1, h2, e1, e2, i2⟩ := p_redo h  hI
  obtain ⟨x, rfl⟩ := kd_I e1 (by decide)
  have f1 : ∀ j, h1 110 j = h 110 j := fr_call e1
  have f2 : ∀ j, h2 110 j = h1 110 j := fr_call e2
  refine ⟨h2, ?_, i2, fun j => (f2 j).trans (f1 j)⟩
  rw [L_law_1247, e1, mm_be1, L_law_1251, e2, mm_be1, L_law_1255, if_pos rfl, L_law_1651, w6]
theorem lw_body {h : mm_M} {a3 : Int} (hI : mm_Inv h) (r : ∀ j, mm_r32 (h 110 j)) (b0 : 0 ≤ a3) (b9 : a3 + 6 ≤ h 110 (-1)) : ∃ h2, mm_ev mL_law 700 1260 [some (vR 110), some (vR 0), some (vR 47), some (vI a3)] [] h = mm_ev mL_law 700 18 [some (vR 110), some (vR 0), some (vR 47), some (vI (a3 + 6))] [] h2 ∧ mm_Inv h2 ∧ ∀ j, h2 110 j = h 110 j := by
  have bb := (r (-1)).2
  have b1 : 0 ≤ a3 + 1 ∧ a3 + 1 < h 110 (-1) := by omega
  have w1 : w32 (a3 + 1) = a3 + 1 := w32_id (by unfold mm_r32; omega)
  have w6 : w32 (a3 + 6) = a3 + 6 := w32_id (by unfold mm_r32; omega)
  obtain ⟨v, h1, h2, e1, e2, i2⟩ := p_body h (h 110 (a3 + 1)) hI
  obtain ⟨x, rfl⟩ := kd_I e1 (by decide)
  have f1 : ∀ j, h1 110 j = h 110 j := fr_call e1
  have f2 : ∀ j, h2 110 j = h1 110 j := fr_call e2
  refine ⟨h2, ?_, i2, fun j => (f2 j).trans (f1 j)⟩
  rw [L_law_1260, w1, if_pos b1, e1, mm_be1, L_law_1269, w1]
  simp only [f1]
  rw [if_pos b1, e2, mm_be1, L_law_1278, if_pos rfl, L_law_1651, w6]
theorem lw_act {h : mm_M} {a3 : Int} (hI : mm_Inv h) (r : ∀ j, mm_r32 (h 110 j)) (b0 : 0 ≤ a3) (b9 : a3 + 6 ≤ h 110 (-1)) : ∃ h2, mm_ev mL_law 700 1283 [some (vR 110), some (vR 0), some (vR 47), some (vI a3)] [] h = mm_ev mL_law 700 18 [some (vR 110), some (vR 0), some (vR 47), some (vI (a3 + 6))] [] h2 ∧ mm_Inv h2 ∧ ∀ j, h2 110 j = h 110 j := by
  have bb := (r (-1)).2
  have b1 : 0 ≤ a3 + 1 ∧ a3 + 1 < h 110 (-1) := by omega
  have w1 : w32 (a3 + 1) = a3 + 1 := w32_id (by unfold mm_r32; omega)
  have b2 : 0 ≤ a3 + 2 ∧ a3 + 2 < h 110 (-1) := by omega
  have w2 : w32 (a3 + 2) = a3 + 2 := w32_id (by unfold mm_r32; omega)
  have b3 : 0 ≤ a3 + 3 ∧ a3 + 3 < h 110 (-1) := by omega
  have w3 : w32 (a3 + 3) = a3 + 3 := w32_id (by unfold mm_r32; omega)
  have w6 : w32 (a3 + 6) = a3 + 6 := w32_id (by unfold mm_r32; omega)
  obtain ⟨v, h1, h2, e1, e2, i2⟩ := p_act h (h 110 (a3 + 1)) (h 110 (a3 + 2)) (h 110 (a3 + 3)) hI
  obtain ⟨x, rfl⟩ := kd_I e1 (by decide)
  have f1 : ∀ j, h1 110 j = h 110 j := fr_call e1
  have f2 : ∀ j, h2 110 j = h1 110 j := fr_call e2
  refine ⟨h2, ?_, i2, fun j => (f2 j).trans (f1 j)⟩
  rw [L_law_1283, w1, w2, w3, if_pos b1, if_pos b2, if_pos b3, e1, mm_be1, L_law_1302, w1, w2, w3]
  simp only [f1]
  rw [if_pos b1, if_pos b2, if_pos b3, e2, mm_be1, L_law_1321, if_pos rfl, L_law_1651, w6]
theorem lw_trace {h : mm_M} {a3 : Int} (hI : mm_Inv h) (r : ∀ j, mm_r32 (h 110 j)) (b0 : 0 ≤ a3) (b9 : a3 + 6 ≤ h 110 (-1)) : ∃ h2, mm_ev mL_law 700 1326 [some (vR 110), some (vR 0), some (vR 47), some (vI a3)] [] h = mm_ev mL_law 700 18 [some (vR 110), some (vR 0), some (vR 47), some (vI (a3 + 6))] [] h2 ∧ mm_Inv h2 ∧ ∀ j, h2 110 j = h 110 j := by
  have bb := (r (-1)).2
  have b1 : 0 ≤ a3 + 1 ∧ a3 + 1 < h 110 (-1) := by omega
  have w1 : w32 (a3 + 1) = a3 + 1 := w32_id (by unfold mm_r32; omega)
  have w6 : w32 (a3 + 6) = a3 + 6 := w32_id (by unfold mm_r32; omega)
  obtain ⟨v, h1, h2, e1, e2, i2⟩ := p_trace h (h 110 (a3 + 1)) hI
  obtain ⟨x, rfl⟩ := kd_I e1 (by decide)
  have f1 : ∀ j, h1 110 j = h 110 j := fr_call e1
  have f2 : ∀ j, h2 110 j = h1 110 j := fr_call e2
  refine ⟨h2, ?_, i2, fun j => (f2 j).trans (f1 j)⟩
  rw [L_law_1326, w1, if_pos b1, e1, mm_be1, L_law_1335, w1]
  simp only [f1]
  rw [if_pos b1, e2, mm_be1, L_law_1344, if_pos rfl, L_law_1651, w6]
theorem lw_keep {h : mm_M} {a3 : Int} (hI : mm_Inv h) (r : ∀ j, mm_r32 (h 110 j)) (b0 : 0 ≤ a3) (b9 : a3 + 6 ≤ h 110 (-1)) : ∃ h2, mm_ev mL_law 700 1349 [some (vR 110), some (vR 0), some (vR 47), some (vI a3)] [] h = mm_ev mL_law 700 18 [some (vR 110), some (vR 0), some (vR 47), some (vI (a3 + 6))] [] h2 ∧ mm_Inv h2 ∧ ∀ j, h2 110 j = h 110 j := by
  have bb := (r (-1)).2
  have b1 : 0 ≤ a3 + 1 ∧ a3 + 1 < h 110 (-1) := by omega
  have w1 : w32 (a3 + 1) = a3 + 1 := w32_id (by unfold mm_r32; omega)
  have b2 : 0 ≤ a3 + 2 ∧ a3 + 2 < h 110 (-1) := by omega
  have w2 : w32 (a3 + 2) = a3 + 2 := w32_id (by unfold mm_r32; omega)
  have w6 : w32 (a3 + 6) = a3 + 6 := w32_id (by unfold mm_r32; omega)
  obtain ⟨v, h1, h2, e1, e2, i2⟩ := p_keep h (h 110 (a3 + 1)) (h 110 (a3 + 2)) hI
  obtain ⟨x, rfl⟩ := kd_I e1 (by decide)
  have f1 : ∀ j, h1 110 j = h 110 j := fr_call e1
  have f2 : ∀ j, h2 110 j = h1 110 j := fr_call e2
  refine ⟨h2, ?_, i2, fun j => (f2 j).trans (f1 j)⟩
  rw [L_law_1349, w1, w2, if_pos b1, if_pos b2, e1, mm_be1, L_law_1363, w1, w2]
  simp only [f1]
  rw [if_pos b1, if_pos b2, e2, mm_be1, L_law_1377, if_pos rfl, L_law_1651, w6]
theorem lw_row {h : mm_M} {a3 : Int} (hI : mm_Inv h) (r : ∀ j, mm_r32 (h 110 j)) (b0 : 0 ≤ a3) (b9 : a3 + 6 ≤ h 110 (-1)) : ∃ h2, mm_ev mL_law 700 1382 [some (vR 110), some (vR 0), some (vR 47), some (vI a3)] [] h = mm_ev mL_law 700 18 [some (vR 110), some (vR 0), some (vR 47), some (vI (a3 + 6))] [] h2 ∧ mm_Inv h2 ∧ ∀ j, h2 110 j = h 110 j := by
  have bb := (r (-1)).2
  have b1 : 0 ≤ a3 + 1 ∧ a3 + 1 < h 110 (-1) := by omega
  have w1 : w32 (a3 + 1) = a3 + 1 := w32_id (by unfold mm_r32; omega)
  have b2 : 0 ≤ a3 + 2 ∧ a3 + 2 < h 110 (-1) := by omega
  have w2 : w32 (a3 + 2) = a3 + 2 := w32_id (by unfold mm_r32; omega)
  have b3 : 0 ≤ a3 + 3 ∧ a3 + 3 < h 110 (-1) := by omega
  have w3 : w32 (a3 + 3) = a3 + 3 := w32_id (by unfold mm_r32; omega)
  have w6 : w32 (a3 + 6) = a3 + 6 := w32_id (by unfold mm_r32; omega)
  obtain ⟨v, h1, h2, e1, e2, i2⟩ := p_row h (h 110 (a3 + 1)) (h 110 (a3 + 2)) (h 110 (a3 + 3)) hI
  obtain ⟨x, rfl⟩ := kd_I e1 (by decide)
  have f1 : ∀ j, h1 110 j = h 110 j := fr_call e1
  have f2 : ∀ j, h2 110 j = h1 110 j := fr_call e2
  refine ⟨h2, ?_, i2, fun j => (f2 j).trans (f1 j)⟩
  rw [L_law_1382, w1, w2, w3, if_pos b1, if_pos b2, if_pos b3, e1, mm_be1, L_law_1401, w1, w2, w3]
  simp only [f1]
  rw [if_pos b1, if_pos b2, if_pos b3, e2, mm_be1, L_law_1420, if_pos rfl, L_law_1651, w6]
theorem lw_put {h : mm_M} {a3 : Int} (hI : mm_Inv h) (r : ∀ j, mm_r32 (h 110 j)) (b0 : 0 ≤ a3) (b9 : a3 + 6 ≤ h 110 (-1)) : ∃ h2, mm_ev mL_law 700 1425 [some (vR 110), some (vR 0), some (vR 47), some (vI a3)] [] h = mm_ev mL_law 700 18 [some (vR 110), some (vR 0), some (vR 47), some (vI (a3 + 6))] [] h2 ∧ mm_Inv h2 ∧ ∀ j, h2 110 j = h 110 j := by
  have bb := (r (-1)).2
  have b1 : 0 ≤ a3 + 1 ∧ a3 + 1 < h 110 (-1) := by omega
  have w1 : w32 (a3 + 1) = a3 + 1 := w32_id (by unfold mm_r32; omega)
  have b2 : 0 ≤ a3 + 2 ∧ a3 + 2 < h 110 (-1) := by omega
  have w2 : w32 (a3 + 2) = a3 + 2 := w32_id (by unfold mm_r32; omega)
  have b3 : 0 ≤ a3 + 3 ∧ a3 + 3 < h 110 (-1) := by omega
  have w3 : w32 (a3 + 3) = a3 + 3 := w32_id (by unfold mm_r32; omega)
  have b4 : 0 ≤ a3 + 4 ∧ a3 + 4 < h 110 (-1) := by omega
  have w4 : w32 (a3 + 4) = a3 + 4 := w32_id (by unfold mm_r32; omega)
  have w6 : w32 (a3 + 6) = a3 + 6 := w32_id (by unfold mm_r32; omega)
  obtain ⟨v, h1, h2, e1, e2, i2⟩ := p_put h (h 110 (a3 + 1)) (h 110 (a3 + 2)) (lOr (lShl (h 110 (a3 + 3)) 32) (lAnd (h 110 (a3 + 4)) 4294967295)) hI (lOr_r64 _ _)
  obtain ⟨x, rfl⟩ := kd_I e1 (by decide)
  have f1 : ∀ j, h1 110 j = h 110 j := fr_call e1
  have f2 : ∀ j, h2 110 j = h1 110 j := fr_call e2
  refine ⟨h2, ?_, i2, fun j => (f2 j).trans (f1 j)⟩
  rw [L_law_1425, w1, w2, w3, w4, if_pos b1, if_pos b2, if_pos b3, if_pos b4, e1, mm_be1, L_law_1459, w1, w2, w3, w4]
  simp only [f1]
  rw [if_pos b1, if_pos b2, if_pos b3, if_pos b4, e2, mm_be1, L_law_1493, if_pos rfl, L_law_1651, w6]
theorem lw_element {h : mm_M} {a3 : Int} (hI : mm_Inv h) (r : ∀ j, mm_r32 (h 110 j)) (b0 : 0 ≤ a3) (b9 : a3 + 6 ≤ h 110 (-1)) : ∃ h2, mm_ev mL_law 700 1498 [some (vR 110), some (vR 0), some (vR 47), some (vI a3)] [] h = mm_ev mL_law 700 18 [some (vR 110), some (vR 0), some (vR 47), some (vI (a3 + 6))] [] h2 ∧ mm_Inv h2 ∧ ∀ j, h2 110 j = h 110 j := by
  have bb := (r (-1)).2
  have b1 : 0 ≤ a3 + 1 ∧ a3 + 1 < h 110 (-1) := by omega
  have w1 : w32 (a3 + 1) = a3 + 1 := w32_id (by unfold mm_r32; omega)
  have b2 : 0 ≤ a3 + 2 ∧ a3 + 2 < h 110 (-1) := by omega
  have w2 : w32 (a3 + 2) = a3 + 2 := w32_id (by unfold mm_r32; omega)
  have w6 : w32 (a3 + 6) = a3 + 6 := w32_id (by unfold mm_r32; omega)
  obtain ⟨v, h1, h2, e1, e2, i2⟩ := p_element h (h 110 (a3 + 1)) (h 110 (a3 + 2)) hI
  obtain ⟨x, rfl⟩ := kd_L e1 rfl
  have f1 : ∀ j, h1 110 j = h 110 j := fr_call e1
  have f2 : ∀ j, h2 110 j = h1 110 j := fr_call e2
  refine ⟨h2, ?_, i2, fun j => (f2 j).trans (f1 j)⟩
  rw [L_law_1498, w1, w2, if_pos b1, if_pos b2, e1, mm_be1, L_law_1512, w1, w2]
  simp only [f1]
  rw [if_pos b1, if_pos b2, e2, mm_be1, L_law_1526, if_pos (lCmp_rf x), L_law_1651, w6]
theorem lw_shift {h : mm_M} {a3 : Int} (hI : mm_Inv h) (r : ∀ j, mm_r32 (h 110 j)) (b0 : 0 ≤ a3) (b9 : a3 + 6 ≤ h 110 (-1)) : ∃ h2, mm_ev mL_law 700 1532 [some (vR 110), some (vR 0), some (vR 47), some (vI a3)] [] h = mm_ev mL_law 700 18 [some (vR 110), some (vR 0), some (vR 47), some (vI (a3 + 6))] [] h2 ∧ mm_Inv h2 ∧ ∀ j, h2 110 j = h 110 j := by
  have bb := (r (-1)).2
  have b1 : 0 ≤ a3 + 1 ∧ a3 + 1 < h 110 (-1) := by omega
  have w1 : w32 (a3 + 1) = a3 + 1 := w32_id (by unfold mm_r32; omega)
  have b2 : 0 ≤ a3 + 2 ∧ a3 + 2 < h 110 (-1) := by omega
  have w2 : w32 (a3 + 2) = a3 + 2 := w32_id (by unfold mm_r32; omega)
  have b3 : 0 ≤ a3 + 3 ∧ a3 + 3 < h 110 (-1) := by omega
  have w3 : w32 (a3 + 3) = a3 + 3 := w32_id (by unfold mm_r32; omega)
  have b4 : 0 ≤ a3 + 4 ∧ a3 + 4 < h 110 (-1) := by omega
  have w4 : w32 (a3 + 4) = a3 + 4 := w32_id (by unfold mm_r32; omega)
  have b5 : 0 ≤ a3 + 5 ∧ a3 + 5 < h 110 (-1) := by omega
  have w5 : w32 (a3 + 5) = a3 + 5 := w32_id (by unfold mm_r32; omega)
  have w6 : w32 (a3 + 6) = a3 + 6 := w32_id (by unfold mm_r32; omega)
  obtain ⟨v, h1, h2, e1, e2, i2⟩ := p_shift h (h 110 (a3 + 1)) (h 110 (a3 + 2)) (h 110 (a3 + 3)) (h 110 (a3 + 4)) (h 110 (a3 + 5)) hI (r _)
  obtain ⟨x, rfl⟩ := kd_I e1 (by decide)
  have f1 : ∀ j, h1 110 j = h 110 j := fr_call e1
  have f2 : ∀ j, h2 110 j = h1 110 j := fr_call e2
  refine ⟨h2, ?_, i2, fun j => (f2 j).trans (f1 j)⟩
  rw [L_law_1532, w1, w2, w3, w4, w5, if_pos b1, if_pos b2, if_pos b3, if_pos b4, if_pos b5, e1, mm_be1, L_law_1561, w1, w2, w3, w4, w5]
  simp only [f1]
  rw [if_pos b1, if_pos b2, if_pos b3, if_pos b4, if_pos b5, e2, mm_be1, L_law_1590, if_pos rfl, L_law_1651, w6]
theorem lw_taken {h : mm_M} {a3 : Int} (hI : mm_Inv h) (r : ∀ j, mm_r32 (h 110 j)) (b0 : 0 ≤ a3) (b9 : a3 + 6 ≤ h 110 (-1)) : ∃ h2, mm_ev mL_law 700 1595 [some (vR 110), some (vR 0), some (vR 47), some (vI a3)] [] h = mm_ev mL_law 700 18 [some (vR 110), some (vR 0), some (vR 47), some (vI (a3 + 6))] [] h2 ∧ mm_Inv h2 ∧ ∀ j, h2 110 j = h 110 j := by
  have bb := (r (-1)).2
  have b1 : 0 ≤ a3 + 1 ∧ a3 + 1 < h 110 (-1) := by omega
  have w1 : w32 (a3 + 1) = a3 + 1 := w32_id (by unfold mm_r32; omega)
  have b2 : 0 ≤ a3 + 2 ∧ a3 + 2 < h 110 (-1) := by omega
  have w2 : w32 (a3 + 2) = a3 + 2 := w32_id (by unfold mm_r32; omega)
  have w6 : w32 (a3 + 6) = a3 + 6 := w32_id (by unfold mm_r32; omega)
  obtain ⟨v, h1, h2, e1, e2, i2⟩ := p_taken h (h 110 (a3 + 1)) (h 110 (a3 + 2)) hI
  obtain ⟨x, rfl⟩ := kd_I e1 (by decide)
  have f1 : ∀ j, h1 110 j = h 110 j := fr_call e1
  have f2 : ∀ j, h2 110 j = h1 110 j := fr_call e2
  refine ⟨h2, ?_, i2, fun j => (f2 j).trans (f1 j)⟩
  rw [L_law_1595, w1, w2, if_pos b1, if_pos b2, e1, mm_be1, L_law_1609, w1, w2]
  simp only [f1]
  rw [if_pos b1, if_pos b2, e2, mm_be1, L_law_1623, if_pos rfl, L_law_1651, w6]
theorem lw_count {h : mm_M} {a3 : Int} (hI : mm_Inv h) (r : ∀ j, mm_r32 (h 110 j)) (b0 : 0 ≤ a3) (b9 : a3 + 6 ≤ h 110 (-1)) : ∃ h2, mm_ev mL_law 700 1628 [some (vR 110), some (vR 0), some (vR 47), some (vI a3)] [] h = mm_ev mL_law 700 18 [some (vR 110), some (vR 0), some (vR 47), some (vI (a3 + 6))] [] h2 ∧ mm_Inv h2 ∧ ∀ j, h2 110 j = h 110 j := by
  have bb := (r (-1)).2
  have b1 : 0 ≤ a3 + 1 ∧ a3 + 1 < h 110 (-1) := by omega
  have w1 : w32 (a3 + 1) = a3 + 1 := w32_id (by unfold mm_r32; omega)
  have w6 : w32 (a3 + 6) = a3 + 6 := w32_id (by unfold mm_r32; omega)
  obtain ⟨v, h1, h2, e1, e2, i2⟩ := p_count h (h 110 (a3 + 1)) hI
  obtain ⟨x, rfl⟩ := kd_I e1 (by decide)
  have f1 : ∀ j, h1 110 j = h 110 j := fr_call e1
  have f2 : ∀ j, h2 110 j = h1 110 j := fr_call e2
  refine ⟨h2, ?_, i2, fun j => (f2 j).trans (f1 j)⟩
  rw [L_law_1628, w1, if_pos b1, e1, mm_be1, L_law_1637, w1]
  simp only [f1]
  rw [if_pos b1, e2, mm_be1, L_law_1646, if_pos rfl, L_law_1651, w6]
theorem lw_one {h : mm_M} {a3 : Int} (hI : mm_Inv h) (r : ∀ j, mm_r32 (h 110 j)) (b0 : 0 ≤ a3) (b9 : a3 + 6 ≤ h 110 (-1)) : ∃ h2, mm_ev mL_law 700 18 [some (vR 110), some (vR 0), some (vR 47), some (vI a3)] [] h = mm_ev mL_law 700 18 [some (vR 110), some (vR 0), some (vR 47), some (vI (a3 + 6))] [] h2 ∧ mm_Inv h2 ∧ ∀ j, h2 110 j = h 110 j := by
  have bb := (r (-1)).2
  have w6 : w32 (a3 + 6) = a3 + 6 := w32_id (by unfold mm_r32; omega)
  have wl : w32 (h 110 (-1) - 6) = h 110 (-1) - 6 := w32_id (by unfold mm_r32; omega)
  rw [L_law_18, wl, if_neg (by omega), if_pos (by omega)]
  obtain ⟨x, hx⟩ : ∃ x, x = iAnd (h 110 a3) 63 := ⟨_, rfl⟩
  rw [← hx]
  by_cases out : x < 0 ∨ 43 < x
  · refine ⟨h, ?_, hI, fun _ => rfl⟩
    rw [ev_tabD 1651 dL_law_33 out rfl, L_law_1651, w6]
  · have all : x = 0 ∨ x = 1 ∨ x = 2 ∨ x = 3 ∨ x = 4 ∨ x = 5 ∨ x = 6 ∨ x = 7 ∨ x = 8 ∨ x = 9 ∨ x = 10 ∨ x = 11 ∨ x = 12 ∨ x = 13 ∨ x = 14 ∨ x = 15 ∨ x = 16 ∨ x = 17 ∨ x = 18 ∨ x = 19 ∨ x = 20 ∨ x = 21 ∨ x = 22 ∨ x = 23 ∨ x = 24 ∨ x = 25 ∨ x = 26 ∨ x = 27 ∨ x = 28 ∨ x = 29 ∨ x = 30 ∨ x = 31 ∨ x = 32 ∨ x = 33 ∨ x = 34 ∨ x = 35 ∨ x = 36 ∨ x = 37 ∨ x = 38 ∨ x = 39 ∨ x = 40 ∨ x = 41 ∨ x = 42 ∨ x = 43 := by omega
    rcases all with z | z | z | z | z | z | z | z | z | z | z | z | z | z | z | z | z | z | z | z | z | z | z | z | z | z | z | z | z | z | z | z | z | z | z | z | z | z | z | z | z | z | z | z
    · rw [ev_tabK 224 dL_law_33 z (by decide) rfl rfl]
      exact lw_post hI r b0 b9
    · rw [ev_tabK 257 dL_law_33 z (by decide) rfl rfl]
      exact lw_posts hI r b0 b9
    · rw [ev_tabK 300 dL_law_33 z (by decide) rfl rfl]
      exact lw_mend hI r b0 b9
    · rw [ev_tabK 343 dL_law_33 z (by decide) rfl rfl]
      exact lw_of hI r b0 b9
    · rw [ev_tabK 376 dL_law_33 z (by decide) rfl rfl]
      exact lw_feed hI r b0 b9
    · rw [ev_tabK 399 dL_law_33 z (by decide) rfl rfl]
      exact lw_law hI r b0 b9
    · rw [ev_tabK 412 dL_law_33 z (by decide) rfl rfl]
      exact lw_mishears hI r b0 b9
    · rw [ev_tabK 435 dL_law_33 z (by decide) rfl rfl]
      exact lw_hears hI r b0 b9
    · rw [ev_tabK 468 dL_law_33 z (by decide) rfl rfl]
      exact lw_route hI r b0 b9
    · rw [ev_tabK 501 dL_law_33 z (by decide) rfl rfl]
      exact lw_letsIn hI r b0 b9
    · rw [ev_tabK 534 dL_law_33 z (by decide) rfl rfl]
      exact lw_patrol hI r b0 b9
    · rw [ev_tabK 567 dL_law_33 z (by decide) rfl rfl]
      exact lw_holdsFor hI r b0 b9
    · rw [ev_tabK 590 dL_law_33 z (by decide) rfl rfl]
      exact lw_stranger hI r b0 b9
    · rw [ev_tabK 633 dL_law_33 z (by decide) rfl rfl]
      exact lw_safe hI r b0 b9
    · rw [ev_tabK 676 dL_law_33 z (by decide) rfl rfl]
      exact lw_first hI r b0 b9
    · rw [ev_tabK 709 dL_law_33 z (by decide) rfl rfl]
      exact lw_right hI r b0 b9
    · rw [ev_tabK 763 dL_law_33 z (by decide) rfl rfl]
      exact lw_twice hI r b0 b9
    · rw [ev_tabK 807 dL_law_33 z (by decide) rfl rfl]
      exact lw_word hI r b0 b9
    · rw [ev_tabK 830 dL_law_33 z (by decide) rfl rfl]
      exact lw_odds hI r b0 b9
    · rw [ev_tabK 874 dL_law_33 z (by decide) rfl rfl]
      exact lw_guess hI r b0 b9
    · rw [ev_tabK 928 dL_law_33 z (by decide) rfl rfl]
      exact lw_judge hI r b0 b9
    · rw [ev_tabK 951 dL_law_33 z (by decide) rfl rfl]
      exact lw_which hI r b0 b9
    · rw [ev_tabK 984 dL_law_33 z (by decide) rfl rfl]
      exact lw_when hI r b0 b9
    · rw [ev_tabK 1007 dL_law_33 z (by decide) rfl rfl]
      exact lw_oddWord hI r b0 b9
    · rw [ev_tabK 1030 dL_law_33 z (by decide) rfl rfl]
      exact lw_drawn hI r b0 b9
    · rw [ev_tabK 1083 dL_law_33 z (by decide) rfl rfl]
      exact lw_change hI r b0 b9
    · rw [ev_tabK 1106 dL_law_33 z (by decide) rfl rfl]
      exact lw_tell hI r b0 b9
    · rw [ev_tabK 1129 dL_law_33 z (by decide) rfl rfl]
      exact lw_stay hI r b0 b9
    · rw [ev_tabK 1152 dL_law_33 z (by decide) rfl rfl]
      exact lw_ask hI r b0 b9
    · rw [ev_tabK 1185 dL_law_33 z (by decide) rfl rfl]
      exact lw_led hI r b0 b9
    · rw [ev_tabK 1208 dL_law_33 z (by decide) rfl rfl]
      exact lw_image hI r b0 b9
    · rw [ev_tabK 1221 dL_law_33 z (by decide) rfl rfl]
      exact lw_back hI r b0 b9
    · rw [ev_tabK 1234 dL_law_33 z (by decide) rfl rfl]
      exact lw_undo hI r b0 b9
    · rw [ev_tabK 1247 dL_law_33 z (by decide) rfl rfl]
      exact lw_redo hI r b0 b9
    · rw [ev_tabK 1260 dL_law_33 z (by decide) rfl rfl]
      exact lw_body hI r b0 b9
    · rw [ev_tabK 1283 dL_law_33 z (by decide) rfl rfl]
      exact lw_act hI r b0 b9
    · rw [ev_tabK 1326 dL_law_33 z (by decide) rfl rfl]
      exact lw_trace hI r b0 b9
    · rw [ev_tabK 1349 dL_law_33 z (by decide) rfl rfl]
      exact lw_keep hI r b0 b9
    · rw [ev_tabK 1382 dL_law_33 z (by decide) rfl rfl]
      exact lw_row hI r b0 b9
    · rw [ev_tabK 1425 dL_law_33 z (by decide) rfl rfl]
      exact lw_put hI r b0 b9
    · rw [ev_tabK 1498 dL_law_33 z (by decide) rfl rfl]
      exact lw_element hI r b0 b9
    · rw [ev_tabK 1532 dL_law_33 z (by decide) rfl rfl]
      exact lw_shift hI r b0 b9
    · rw [ev_tabK 1595 dL_law_33 z (by decide) rfl rfl]
      exact lw_taken hI r b0 b9
    · rw [ev_tabK 1628 dL_law_33 z (by decide) rfl rfl]
      exact lw_count hI r b0 b9
theorem lw_loop : ∀ (c : Nat) (a3 : Int) (h : mm_M), h 110 (-1) - a3 ≤ c → 0 ≤ a3 → 0 ≤ h 110 (-1) → mm_Inv h → (∀ j, mm_r32 (h 110 j)) → ∃ h', mm_ev mL_law 700 18 [some (vR 110), some (vR 0), some (vR 47), some (vI a3)] [] h = some ([vI 1], h') ∧ mm_Inv h' := by
  intro c
  have stop : ∀ (a3 : Int) (h : mm_M), h 110 (-1) < a3 + 6 → 0 ≤ h 110 (-1) → mm_Inv h → (∀ j, mm_r32 (h 110 j)) → ∃ h', mm_ev mL_law 700 18 [some (vR 110), some (vR 0), some (vR 47), some (vI a3)] [] h = some ([vI 1], h') ∧ mm_Inv h' := by
    intro a3 h h1 h2 hI r
    have bb := (r (-1)).2
    have wl : w32 (h 110 (-1) - 6) = h 110 (-1) - 6 := w32_id (by unfold mm_r32; omega)
    refine ⟨h, ?_, hI⟩
    rw [L_law_18, wl, if_pos (by omega)]
  induction c with
  | zero =>
    intro a3 h hc a0 l0 hI r
    exact stop a3 h (by omega) l0 hI r
  | succ c ih =>
    intro a3 h hc a0 l0 hI r
    by_cases q : h 110 (-1) < a3 + 6
    · exact stop a3 h q l0 hI r
    · obtain ⟨h2, e1, i2, f2⟩ := lw_one hI r a0 (by omega)
      obtain ⟨h', e2, i3⟩ := ih (a3 + 6) h2 (by rw [f2]; omega) (by omega) (by rw [f2]; exact l0) i2 (fun j => by rw [f2]; exact r j)
      exact ⟨h', e1.trans e2, i3⟩
/-- the law method from where both objects are made -/
theorem lw_all {h : mm_M} (hI : mm_Inv h) (r : ∀ j, mm_r32 (h 110 j)) (l0 : 0 ≤ h 110 (-1)) : ∃ h', mm_ev mL_law 700 16 [some (vR 110), some (vR 0), some (vR 47), none] [] h = some ([vI 1], h') ∧ mm_Inv h' := by
  rw [L_law_16]
  exact lw_loop (h 110 (-1)).toNat 0 h (by omega) (by decide) l0 hI r
