/-! the memory as the constructors leave it -/
def mm_hz : mm_M := fun c i =>
  if c = 11 then (if 21 ≤ i ∧ i < 31 then 3 else if 31 ≤ i ∧ i < 41 then (i - 30) % 10 else if i = 54 then 1 else if i = 56 then 60 else 0)
  else if c = 2 then (if i = 4 then 16 else if i = 6 then 17 else 0)
  else if c = 9 then (if i = 5 then -1 else 0)
  else if c = 19 then (if 0 ≤ i ∧ i < 6 then -1 else 0)
  else if c = 51 then (if 0 ≤ i ∧ i < 10 then 3 else 0)
  else if c = 52 then (if 0 ≤ i ∧ i < 10 then (i + 1) % 10 else 0)
  else if c = 79 then (if 0 ≤ i ∧ i < 6 then -1 else 0)
  else if c = 47 then (if i = 11 then 1 else if i = 13 then 60 else if i = 45 then -1 else 0)
  else 0
def mm_h0 (X : (Nat → Int) × Nat) : mm_M := fun c i => if c = 110 then (if i = -1 then (X.2 : Int) else X.1 i.toNat) else mm_hz c i
theorem hz_N : ∀ (w : Fin 12) (k : Fin 10), (k.val : Int) < mm_ct 101 (w.val : Int) → mm_vAt mm_hz (w.val : Int) (k.val : Int) = mm_hz 11 (mm_ct 100 (w.val : Int) + (k.val : Int)) ∧ mm_ct 102 (w.val : Int) ≤ mm_hz 11 (mm_ct 100 (w.val : Int) + (k.val : Int)) ∧ mm_hz 11 (mm_ct 100 (w.val : Int) + (k.val : Int)) ≤ mm_ct 103 (w.val : Int) := by decide +kernel
theorem ct101 : ∀ w : Fin 12, mm_ct 101 (w.val : Int) ≤ 10 := by decide +kernel
theorem hz_Inv : mm_Inv mm_hz := by
  refine ⟨⟨by decide, by decide, rfl, fun w k z => ?_⟩, ⟨rfl, rfl, by decide, by decide, by decide, by decide, by decide, fun j j0 j1 => ?_⟩, ⟨rfl, by decide, by decide, fun p p0 p1 => ?_, fun k _ _ => rfl⟩, ⟨rfl, by decide, by decide, fun z => ?_⟩, ⟨rfl, by decide, by decide, fun i i0 i1 => ?_, rfl, by decide, by decide, fun i i0 i1 => ?_⟩, fun s s0 s1 => ?_, ⟨rfl, by decide, by decide, fun i i0 i1 => ?_⟩, ⟨Or.inr ⟨rfl, rfl⟩, by decide, by decide, Or.inl ⟨rfl, rfl⟩⟩⟩
  · obtain ⟨w0, w1, k0, k1⟩ := z
    have c := ct101 ⟨w.toNat, by omega⟩
    have ew : ((w.toNat : Nat) : Int) = w := by omega
    simp only [ew] at c
    have t := hz_N ⟨w.toNat, by omega⟩ ⟨k.toNat, by omega⟩
    have ek : ((k.toNat : Nat) : Int) = k := by omega
    simp only [ew, ek] at t
    exact t k1
  · have e : mm_hz 1 2 + mm_hz 1 3 = 0 := rfl
    rw [e] at j1
    omega
  · have e : mm_hz 1 1 = 0 := rfl
    rw [e] at p1
    omega
  · have e : mm_hz 9 5 = -1 := rfl
    rw [e] at z
    omega
  · have e : mm_hz 10 0 = 0 := rfl
    rw [e] at i1
    omega
  · have e : mm_hz 10 1 = 0 := rfl
    rw [e] at i1
    omega
  · have e : mm_hz 19 s = -1 := by
      show (if 0 ≤ s ∧ s < 6 then (-1 : Int) else 0) = -1
      rw [if_pos ⟨s0, s1⟩]
    have e2 : mm_hz 20 s = 0 := rfl
    have e3 : mm_hz 79 s = -1 := by
      show (if 0 ≤ s ∧ s < 6 then (-1 : Int) else 0) = -1
      rw [if_pos ⟨s0, s1⟩]
    rw [e, e2, e3]
    exact ⟨by decide, by decide, rfl, fun w => absurd w (by decide), by decide, by decide, fun _ => rfl, fun w => absurd w (by decide)⟩
  · have e : mm_hz 2 0 = 0 := rfl
    rw [e] at i1
    omega
theorem h0_Inv (X : (Nat → Int) × Nat) : mm_Inv (mm_h0 X) := by
  refine mm_Inv_co (fun c i w => ?_) hz_Inv
  have n : c ≠ 110 := fun z => by
    rw [z] at w
    simp [mm_dN, mm_dU, mm_dD, mm_dI, mm_dB, mm_dS, mm_dT, mm_dL] at w
  exact if_neg n
theorem h0_hs (X : (Nat → Int) × Nat) : mm_hs X (mm_h0 X) := ⟨rfl, fun i _ => by
  show (if (110 : Nat) = 110 then (if (i : Int) = -1 then (X.2 : Int) else X.1 (i : Int).toNat) else _) = _
  rw [if_pos rfl, if_neg (by omega)]
  rfl⟩
theorem hz_r (c : Nat) (i : Int) : -1 ≤ mm_hz c i ∧ mm_hz c i ≤ 60 := by
  unfold mm_hz
  repeat' split
  all_goals omega
theorem h0_mok (X : (Nat → Int) × Nat) (h1 : X.2 < 2147483648) (h2 : ∀ i, mm_r32 (X.1 i)) : mm_mok (mm_h0 X) := by
  intro c i
  by_cases q : c = 110
  · subst q
    rw [if_neg (by rw [ak110]; decide)]
    show mm_r32 (if (110 : Nat) = 110 then (if i = -1 then (X.2 : Int) else X.1 i.toNat) else _)
    rw [if_pos rfl]
    by_cases z : i = -1
    · rw [if_pos z]
      unfold mm_r32
      omega
    · rw [if_neg z]
      exact h2 _
  · have e : mm_h0 X c i = mm_hz c i := if_neg q
    have r := hz_r c i
    rw [e]
    split
    · unfold mm_r64
      omega
    · unfold mm_r32
      omega
