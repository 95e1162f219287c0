/-! the way: cleared, one post further -/
theorem L_clear : ∀ (m : Nat) (k : Int) (h : mm_M), 0 ≤ k → 7 - k ≤ m → ∃ g, mm_ev mX8_clear 1 7 [some (vR 4), some (vI k)] [] h = some ([], g) ∧ (∀ c, c ≠ 24 → g c = h c) ∧ (∀ p, k ≤ p → p < 7 → g 24 p = -1) ∧ ∀ p, p < k → g 24 p = h 24 p := by
  intro m
  induction m with
  | zero =>
    intro k h k0 hm
    refine ⟨h, ?_, fun _ _ => rfl, fun p a b => ?_, fun _ _ => rfl⟩
    · rw [X8a_clear_7, if_pos (by omega)]
    · omega
  | succ m ih =>
    intro k h k0 hm
    by_cases z : 7 ≤ k
    · refine ⟨h, ?_, fun _ _ => rfl, fun p a b => ?_, fun _ _ => rfl⟩
      · rw [X8a_clear_7, if_pos z]
      · omega
    · have w4 : w32 (k + 1) = k + 1 := w32_id (by unfold mm_r32; omega)
      obtain ⟨g, e1, e2, e3, e4⟩ := ih (k + 1) (mUp h 24 k (-1)) (by omega) (by omega)
      refine ⟨g, ?_, fun c hc => ?_, fun p a b => ?_, fun p hp => ?_⟩
      · rw [X8a_clear_7, if_neg z, w4, if_pos (by omega)]
        exact e1
      · rw [e2 c hc, mUp_ne hc]
      · by_cases q : p = k
        · rw [q, e4 k (by omega), mUp_self]
        · exact e3 p (by omega) b
      · rw [e4 p (by omega), mUp_nei (by omega)]
theorem c_clear (h : mm_M) : ∃ g, mm_call mX8_clear [vR 4] h = some ([], g) ∧ (∀ c i, c ≠ 24 → ¬ (c = 4 ∧ i = 0) → g c i = h c i) ∧ g 4 0 = 0 ∧ ∀ p, 0 ≤ p → p < 7 → g 24 p = -1 := by
  obtain ⟨g, e1, e2, e3, e4⟩ := L_clear 7 0 (mUp h 4 0 0) (by omega) (by omega)
  refine ⟨g, by rw [X8a_clear_c]; exact e1, fun c i q1 q2 => ?_, ?_, e3⟩
  · rw [e2 c q1, mUp_at, if_neg q2]
  · rw [e2 4 (by decide)]
    rfl
def wDi (h : mm_M) (p q : Int) : Int := dd (h 11 p) (h 11 q) + dd (h 11 (7 + p)) (h 11 (7 + q))
/-- where the way stands, and when it left there -/
def wAt (h : mm_M) : Int := if h 4 0 = 0 then 0 else h 23 (h 4 0 - 1)
def wOff (h : mm_M) : Int := if h 4 0 = 0 then 0 else h 25 (wAt h) + 1
theorem c_goTo (h : mm_M) (p : Int) (hp : 0 ≤ p ∧ p < 7) (n : 0 ≤ h 4 0 ∧ h 4 0 < 6) (ha : 0 ≤ wAt h ∧ wAt h < 7) (ho : 0 ≤ wOff h ∧ wOff h ≤ 10000) (hb : ∀ i : Int, 0 ≤ i → i < 14 → 0 ≤ h 11 i ∧ h 11 i ≤ 99) : mm_call mX8_goTo [vR 4, vR 1, vI p] h = some ([], mUp (mUp (mUp (mUp h 25 p (wOff h + wDi h (wAt h) p)) 24 p (h 4 0)) 23 (h 4 0) p) 4 0 (h 4 0 + 1)) := by
  have d : 0 ≤ wDi h (wAt h) p ∧ wDi h (wAt h) p ≤ 198 := by
    obtain ⟨a1, a2, a3, a4⟩ := dd_w (hb (wAt h) ha.1 (by omega)) (hb p hp.1 (by omega))
    obtain ⟨b1, b2, b3, b4⟩ := dd_w (hb (7 + wAt h) (by omega) (by omega)) (hb (7 + p) (by omega) (by omega))
    unfold wDi
    omega
  have w1 : w32 (wOff h + wDi h (wAt h) p) = wOff h + wDi h (wAt h) p := w32_id (by unfold mm_r32; omega)
  have w2 : w32 (h 4 0 + 1) = h 4 0 + 1 := w32_id (by unfold mm_r32; omega)
  have e : mm_ev mX8_goTo 3 22 [some (vR 4), some (vR 1), some (vI p), none] [vI (wAt h)] h = some ([], mUp (mUp (mUp (mUp h 25 p (wOff h + wDi h (wAt h) p)) 24 p (h 4 0)) 23 (h 4 0) p) 4 0 (h 4 0 + 1)) := by
    have t : mm_ev mX8_goTo 3 53 [some (vR 4), some (vR 1), some (vI p), some (vI (wAt h))] [vI (wDi h (wAt h) p), vI (wOff h), vI p, vR 25] h = some ([], mUp (mUp (mUp (mUp h 25 p (wOff h + wDi h (wAt h) p)) 24 p (h 4 0)) 23 (h 4 0) p) 4 0 (h 4 0 + 1)) := by
      refine (X8a_goTo_53 _ _ _ _ _ _).trans ?_
      rw [w1, if_pos hp, if_pos hp]
      show (if 0 ≤ h 4 0 ∧ h 4 0 < 6 then some ([], mUp (mUp (mUp (mUp h 25 p (wOff h + wDi h (wAt h) p)) 24 p (h 4 0)) 23 (h 4 0) p) 4 0 (w32 (h 4 0 + 1))) else none) = _
      rw [if_pos n, w2]
    rw [X8a_goTo_22]
    by_cases z : h 4 0 = 0
    · rw [if_neg (fun w => w z), c_apart h _ _ ha hp hb, mm_bs]
      have o : wOff h = 0 := by unfold wOff; rw [if_pos z]
      rw [o] at t ⊢
      exact t
    · have o : h 25 (wAt h) + 1 = wOff h := by unfold wOff; rw [if_neg z]
      have w3 : w32 (h 25 (wAt h) + 1) = wOff h := by rw [o]; exact w32_id (by unfold mm_r32; omega)
      rw [if_pos z, if_pos ha, c_apart h _ _ ha hp hb, mm_bs, w3]
      exact t
  rw [X8a_goTo_c]
  by_cases z : h 4 0 = 0
  · rw [if_neg (fun w => w z)]
    have a : wAt h = 0 := by unfold wAt; rw [if_pos z]
    rw [a] at e ⊢
    exact e
  · have a : wAt h = h 23 (h 4 0 - 1) := by unfold wAt; rw [if_neg z]
    have w3 : w32 (h 4 0 - 1) = h 4 0 - 1 := w32_id (by unfold mm_r32; omega)
    rw [if_pos z, w3, if_pos (by omega), ← a]
    exact e
