/-! how far two posts are apart -/
def dd (a b : Int) : Int := if 0 ≤ a - b then a - b else b - a
theorem dd_w {a b : Int} (ha : 0 ≤ a ∧ a ≤ 99) (hb : 0 ≤ b ∧ b ≤ 99) : w32 (a - b) = a - b ∧ w32 (0 - (a - b)) = b - a ∧ 0 ≤ dd a b ∧ dd a b ≤ 99 := by
  refine ⟨w32_id (by unfold mm_r32; omega), ?_, ?_, ?_⟩
  · rw [w32_id (by unfold mm_r32; omega)]
    omega
  · unfold dd
    split <;> omega
  · unfold dd
    split <;> omega
theorem c_apart (h : mm_M) (p q : Int) (hp : 0 ≤ p ∧ p < 7) (hq : 0 ≤ q ∧ q < 7) (hb : ∀ i : Int, 0 ≤ i → i < 14 → 0 ≤ h 11 i ∧ h 11 i ≤ 99) : mm_call mX4_apart [vR 1, vI p, vI q] h = some ([vI (dd (h 11 p) (h 11 q) + dd (h 11 (7 + p)) (h 11 (7 + q)))], h) := by
  have z : ∀ k : Int, 0 ≤ k ∧ k < 7 → mm_call mX4_get [vR 1, vI 0, vI k] h = some ([vI (h 11 k)], h) := fun k hk => by
    rw [c_get h 0 k ⟨by decide, by decide, hk.1, hk.2⟩, show mm_ct 100 0 + k = k from by show 0 + k = k; omega]
  have z1 : ∀ k : Int, 0 ≤ k ∧ k < 7 → mm_call mX4_get [vR 1, vI 1, vI k] h = some ([vI (h 11 (7 + k))], h) := fun k hk => c_get h 1 k ⟨by decide, by decide, hk.1, hk.2⟩
  obtain ⟨a1, a2, a3, a4⟩ := dd_w (hb p hp.1 (by omega)) (hb q hq.1 (by omega))
  obtain ⟨b1, b2, b3, b4⟩ := dd_w (hb (7 + p) (by omega) (by omega)) (hb (7 + q) (by omega) (by omega))
  have w : w32 (dd (h 11 p) (h 11 q) + dd (h 11 (7 + p)) (h 11 (7 + q))) = dd (h 11 p) (h 11 q) + dd (h 11 (7 + p)) (h 11 (7 + q)) := w32_id (by unfold mm_r32; omega)
  rw [X4_apart_c, z p hp, mm_bs]
  refine (X4_apart_6 _ _ _ _).trans ?_
  rw [z q hq, mm_bs]
  refine (X4_apart_12 _ _ _ _ _).trans ?_
  rw [a1, a2, z1 p hp, mm_bs]
  refine (X4_apart_22 _ _ _ _ _).trans ?_
  rw [z1 q hq, mm_bs]
  refine (X4_apart_28 _ _ _ _ _ _).trans ?_
  rw [b1, b2]
  exact congrArg (fun v => some ([vI v], h)) w
theorem s_distance (h : mm_M) (p q : Int) (hp : 0 ≤ p ∧ p < 7) (hq : 0 ≤ q ∧ q < 7) (hb : ∀ i : Int, 0 ≤ i → i < 7 → (0 ≤ h 48 i ∧ h 48 i ≤ 99) ∧ 0 ≤ h 49 i ∧ h 49 i ≤ 99) : mm_call mX10_distance [vR 47, vI p, vI q] h = some ([vI (dd (h 48 p) (h 48 q) + dd (h 49 p) (h 49 q))], h) := by
  obtain ⟨a1, a2, a3, a4⟩ := dd_w (hb p hp.1 hp.2).1 (hb q hq.1 hq.2).1
  obtain ⟨b1, b2, b3, b4⟩ := dd_w (hb p hp.1 hp.2).2 (hb q hq.1 hq.2).2
  have w : w32 (dd (h 48 p) (h 48 q) + dd (h 49 p) (h 49 q)) = dd (h 48 p) (h 48 q) + dd (h 49 p) (h 49 q) := w32_id (by unfold mm_r32; omega)
  have ap : ∀ a b : Int, 0 ≤ a ∧ a ≤ 99 → 0 ≤ b ∧ b ≤ 99 → mm_call mX10_apart [vI a, vI b] h = some ([vI (dd a b)], h) := by
    intro a b ha hb
    have w1 : w32 (b - a) = b - a := w32_id (by unfold mm_r32; omega)
    obtain ⟨c1, c2, c3, c4⟩ := dd_w ha hb
    unfold dd
    rw [X10_apart_c]
    repeat' split
    all_goals first | (exfalso; omega) | (rw [c1]) | (rw [w1])
  rw [X10_distance_c, if_pos hp, if_pos hq, ap _ _ (hb p hp.1 hp.2).1 (hb q hq.1 hq.2).1, mm_bs]
  refine (X10_distance_15 _ _ _ _).trans ?_
  rw [if_pos hp, if_pos hq, ap _ _ (hb p hp.1 hp.2).2 (hb q hq.1 hq.2).2, mm_bs]
  refine (X10_distance_30 _ _ _ _ _).trans ?_
  exact congrArg (fun v => some ([vI v], h)) w
