/-! the class reads a route -/
abbrev rV (h : mm_M) (s j : Int) : Prop := (0 < pE h s j ∧ pE h s j < h 1 1) ∧ ∀ i : Int, 0 ≤ i → i < j → ¬ pE h s i = pE h s j
def hvN (h : mm_M) (s : Int) : Nat → Int
  | 0 => wDi h 0 (pE h s 0)
  | j + 1 => hvN h s j + 1 + wDi h (pE h s (j : Int)) (pE h s ((j : Int) + 1))
def hv (h : mm_M) (s j : Int) : Int := hvN h s j.toNat
theorem hv0 (h : mm_M) (s : Int) : hv h s 0 = wDi h 0 (pE h s 0) := rfl
theorem hv1 (h : mm_M) (s j : Int) (z : 0 ≤ j) : hv h s (j + 1) = hv h s j + 1 + wDi h (pE h s j) (pE h s (j + 1)) := by
  unfold hv
  have e : (j + 1).toNat = j.toNat + 1 := by omega
  have e2 : (j.toNat : Int) = j := by omega
  rw [e]
  show hvN h s j.toNat + 1 + wDi h (pE h s (j.toNat : Int)) (pE h s ((j.toNat : Int) + 1)) = _
  rw [e2]
/-- a way read up to its n-th post -/
def mm_WR (h g : mm_M) (s n : Int) : Prop := 0 ≤ n ∧ n ≤ 6 ∧ n ≤ h 20 s ∧ g 4 0 = n ∧ (∀ j : Int, 0 ≤ j → j < n → rV h s j ∧ g 23 j = pE h s j ∧ g 24 (pE h s j) = j ∧ g 25 (pE h s j) = hv h s j) ∧ ∀ p : Int, 0 ≤ p → p < 7 → (∀ j : Int, 0 ≤ j → j < n → ¬ pE h s j = p) → g 24 p = -1
def mm_wfr (h g : mm_M) : Prop := ∀ c i, c ≠ 23 → c ≠ 24 → c ≠ 25 → ¬ (c = 4 ∧ i = 0) → g c i = h c i
theorem wDi_b {h : mm_M} {p q : Int} (hp : 0 ≤ p ∧ p < 7) (hq : 0 ≤ q ∧ q < 7) (hb : ∀ i : Int, 0 ≤ i → i < 14 → 0 ≤ h 11 i ∧ h 11 i ≤ 99) : 0 ≤ wDi h p q ∧ wDi h p q ≤ 198 := by
  obtain ⟨a1, a2, a3, a4⟩ := dd_w (hb p hp.1 (by omega)) (hb q hq.1 (by omega))
  obtain ⟨b1, b2, b3, b4⟩ := dd_w (hb (7 + p) (by omega) (by omega)) (hb (7 + q) (by omega) (by omega))
  unfold wDi
  omega
theorem hv_b {h : mm_M} {s : Int} (n7 : h 1 1 ≤ 7) (hb : ∀ i : Int, 0 ≤ i → i < 14 → 0 ≤ h 11 i ∧ h 11 i ≤ 99) : ∀ (j : Nat), (∀ i : Int, 0 ≤ i → i ≤ j → rV h s i) → 0 ≤ hv h s j ∧ hv h s j ≤ 199 * (j : Int) + 198 := by
  intro j
  induction j with
  | zero =>
    intro v
    have := wDi_b (h := h) (p := 0) (q := pE h s 0) (by decide) (by have := (v 0 (by omega) (by omega)).1; omega) hb
    show 0 ≤ wDi h 0 (pE h s 0) ∧ wDi h 0 (pE h s 0) ≤ _
    omega
  | succ j ih =>
    intro v
    have i1 := ih (fun i a b => v i a (by omega))
    have := wDi_b (h := h) (p := pE h s j) (q := pE h s ((j : Int) + 1)) (by have := (v j (by omega) (by omega)).1; omega) (by have := (v ((j : Int) + 1) (by omega) (by omega)).1; omega) hb
    have e := hv1 h s j (by omega)
    show 0 ≤ hv h s ((j + 1 : Nat) : Int) ∧ hv h s ((j + 1 : Nat) : Int) ≤ _
    rw [show ((j + 1 : Nat) : Int) = (j : Int) + 1 from by omega, e]
    omega
