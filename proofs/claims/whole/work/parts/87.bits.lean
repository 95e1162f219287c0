/-! drawn: how many bits, nights -/
def bcE (a0 : Int) : Int := (iAnd (w32 ((w32 ((iAnd (w32 ((w32 ((iAnd (w32 (a0 - (iAnd (iUshr a0 1) 1431655765))) 858993459) + (iAnd (iUshr (w32 (a0 - (iAnd (iUshr a0 1) 1431655765))) 2) 858993459))) + (iUshr (w32 ((iAnd (w32 (a0 - (iAnd (iUshr a0 1) 1431655765))) 858993459) + (iAnd (iUshr (w32 (a0 - (iAnd (iUshr a0 1) 1431655765))) 2) 858993459))) 4))) 252645135) + (iUshr (iAnd (w32 ((w32 ((iAnd (w32 (a0 - (iAnd (iUshr a0 1) 1431655765))) 858993459) + (iAnd (iUshr (w32 (a0 - (iAnd (iUshr a0 1) 1431655765))) 2) 858993459))) + (iUshr (w32 ((iAnd (w32 (a0 - (iAnd (iUshr a0 1) 1431655765))) 858993459) + (iAnd (iUshr (w32 (a0 - (iAnd (iUshr a0 1) 1431655765))) 2) 858993459))) 4))) 252645135) 8))) + (iUshr (w32 ((iAnd (w32 ((w32 ((iAnd (w32 (a0 - (iAnd (iUshr a0 1) 1431655765))) 858993459) + (iAnd (iUshr (w32 (a0 - (iAnd (iUshr a0 1) 1431655765))) 2) 858993459))) + (iUshr (w32 ((iAnd (w32 (a0 - (iAnd (iUshr a0 1) 1431655765))) 858993459) + (iAnd (iUshr (w32 (a0 - (iAnd (iUshr a0 1) 1431655765))) 2) 858993459))) 4))) 252645135) + (iUshr (iAnd (w32 ((w32 ((iAnd (w32 (a0 - (iAnd (iUshr a0 1) 1431655765))) 858993459) + (iAnd (iUshr (w32 (a0 - (iAnd (iUshr a0 1) 1431655765))) 2) 858993459))) + (iUshr (w32 ((iAnd (w32 (a0 - (iAnd (iUshr a0 1) 1431655765))) 858993459) + (iAnd (iUshr (w32 (a0 - (iAnd (iUshr a0 1) 1431655765))) 2) 858993459))) 4))) 252645135) 8))) 16))) 63)
theorem c_bitCount (h : mm_M) (a : Int) : mm_call mJ6_bitCount_0f7a4 [vI a] h = some ([vI (bcE a)], h) := J6_bitCount_0f7a4_c h a
def bcS (u : Int) : Int := tb u 0 + tb u 1 + tb u 2 + tb u 3 + tb u 4 + tb u 5 + tb u 6
theorem bcE_fin : ∀ u : Fin 128, bcE (u.val : Int) = bcS (u.val : Int) := by decide +kernel
theorem bcE_s {u : Int} (hu : 0 ≤ u ∧ u < 128) : bcE u = bcS u := by
  have t := bcE_fin ⟨u.toNat, by omega⟩
  have eu : ((u.toNat : Nat) : Int) = u := by omega
  simp only [eu] at t
  exact t
theorem bcS_or {u p : Int} (hu : 0 ≤ u ∧ u < 128) (hp : 0 ≤ p ∧ p < 7) (h : tb u p = 0) : bcS (iOr u (iShl 1 p)) = bcS u + 1 := by
  have t := fun q (hq : 0 ≤ q ∧ q < 7) => (tb_s (u := u) (p := p) (q := q) hu hp hq).1
  unfold bcS
  rw [t 0 (by decide), t 1 (by decide), t 2 (by decide), t 3 (by decide), t 4 (by decide), t 5 (by decide), t 6 (by decide)]
  have : p = 0 ∨ p = 1 ∨ p = 2 ∨ p = 3 ∨ p = 4 ∨ p = 5 ∨ p = 6 := by omega
  rcases this with rfl | rfl | rfl | rfl | rfl | rfl | rfl <;> simp <;> omega
theorem bcS_b {u : Int} (hu : 0 ≤ u ∧ u < 128) : 0 ≤ bcS u ∧ bcS u ≤ 7 := by
  have t := fun q (hq : 0 ≤ q ∧ q < 7) => (tb_s (u := u) (p := 0) (q := q) hu (by decide) hq).2.2
  have t0 := t 0 (by decide)
  have t1 := t 1 (by decide)
  have t2 := t 2 (by decide)
  have t3 := t 3 (by decide)
  have t4 := t 4 (by decide)
  have t5 := t 5 (by decide)
  have t6 := t 6 (by decide)
  unfold bcS
  omega
def dz (z : Int) : Int := w32 (w32 (z * 1103515245) + 12345)
def dzN (z : Int) : Nat → Int
  | 0 => z
  | j + 1 => dz (dzN z j)
def dr (z : Int) : Int := (iUshr z 8).tmod 12
def wrN (h : mm_M) (w : Int) (e : Int → Int) (z : Int) : Nat → Int
  | 0 => 0
  | j + 1 => if misV h w (e (j : Int)) (j : Int) ≤ dr (dzN z (j + 1)) then wrN h w e z j else iOr (wrN h w e z j) (iShl 1 (e (j : Int)))
def rcN (h : mm_M) (w : Int) (e : Int → Int) (z : Int) : Nat → Int
  | 0 => 0
  | j + 1 => if misV h w (e (j : Int)) (j : Int) ≤ dr (dzN z (j + 1)) then rcN h w e z j + 1 else rcN h w e z j
theorem wrN_b (h : mm_M) (w : Int) (e : Int → Int) (z n : Int) (he : ∀ j : Int, 0 ≤ j → j < n → 0 ≤ e j ∧ e j < 7) (hd : ∀ i j : Int, 0 ≤ i → i < j → j < n → ¬ e i = e j) : ∀ j : Nat, (j : Int) ≤ n → (0 ≤ wrN h w e z j ∧ wrN h w e z j < 128) ∧ (∀ q : Int, 0 ≤ q → q < 7 → tb (wrN h w e z j) q = 1 → ∃ i : Int, 0 ≤ i ∧ i < j ∧ e i = q) ∧ bcS (wrN h w e z j) + rcN h w e z j = j ∧ 0 ≤ rcN h w e z j := by
  intro j
  induction j with
  | zero =>
    intro _
    refine ⟨⟨Int.le_refl _, by show (0 : Int) < 128; decide⟩, fun q q0 q7 w => ?_, by show bcS 0 + 0 = 0; decide +kernel, Int.le_refl _⟩
    have : tb 0 q = 1 := w
    rw [tb_0 ⟨q0, q7⟩] at this
    omega
  | succ j ih =>
    intro hj
    obtain ⟨a, b, c, d⟩ := ih (by omega)
    have ej := he j (by omega) (by omega)
    have e1 : wrN h w e z (j + 1) = if misV h w (e (j : Int)) (j : Int) ≤ dr (dzN z (j + 1)) then wrN h w e z j else iOr (wrN h w e z j) (iShl 1 (e (j : Int))) := rfl
    have e2 : rcN h w e z (j + 1) = if misV h w (e (j : Int)) (j : Int) ≤ dr (dzN z (j + 1)) then rcN h w e z j + 1 else rcN h w e z j := rfl
    rw [e1, e2]
    by_cases q : misV h w (e (j : Int)) (j : Int) ≤ dr (dzN z (j + 1))
    · rw [if_pos q, if_pos q]
      refine ⟨a, fun q q0 q7 w => ?_, by omega, by omega⟩
      obtain ⟨i, i0, i1, ei⟩ := b q q0 q7 w
      exact ⟨i, i0, by omega, ei⟩
    · rw [if_neg q, if_neg q]
      have t0 : tb (wrN h w e z j) (e (j : Int)) = 0 := by
        have t := (tb_s (u := wrN h w e z j) (p := e (j : Int)) (q := e (j : Int)) a ej ej).2.2
        rcases t with t | t
        · exact t
        · obtain ⟨i, i0, i1, ei⟩ := b _ ej.1 ej.2 t
          exact absurd ei (hd i j i0 (by omega) (by omega))
      refine ⟨(tb_s (q := e (j : Int)) a ej ej).2.1, fun q q0 q7 w => ?_, ?_, d⟩
      · rw [(tb_s (q := q) a ej ⟨q0, q7⟩).1] at w
        by_cases z : q = e (j : Int)
        · exact ⟨j, by omega, by omega, z.symm⟩
        · rw [if_neg z] at w
          obtain ⟨i, i0, i1, ei⟩ := b q q0 q7 w
          exact ⟨i, i0, by omega, ei⟩
      · rw [bcS_or a ej t0]
        omega
