/-! when a way comes to its posts -/
def arN (d : Int → Int → Int) (e : Int → Int) : Nat → Int
  | 0 => d 0 (e 0)
  | j + 1 => arN d e j + 1 + d (e (j : Int)) (e ((j : Int) + 1))
def ar (d : Int → Int → Int) (e : Int → Int) (j : Int) : Int := arN d e j.toNat
theorem ar0 (d : Int → Int → Int) (e : Int → Int) : ar d e 0 = d 0 (e 0) := rfl
theorem ar1 (d : Int → Int → Int) (e : Int → Int) (j : Int) (z : 0 ≤ j) : ar d e (j + 1) = ar d e j + 1 + d (e j) (e (j + 1)) := by
  unfold ar
  have e1 : (j + 1).toNat = j.toNat + 1 := by omega
  have e2 : (j.toNat : Int) = j := by omega
  rw [e1]
  show arN d e j.toNat + 1 + d (e (j.toNat : Int)) (e ((j.toNat : Int) + 1)) = _
  rw [e2]
theorem arN_co {d d' : Int → Int → Int} {e e' : Int → Int} (hd : ∀ p q, 0 ≤ p → p < 7 → 0 ≤ q → q < 7 → d p q = d' p q) : ∀ j : Nat, (∀ i : Int, 0 ≤ i → i ≤ j → e i = e' i ∧ 0 ≤ e' i ∧ e' i < 7) → arN d e j = arN d' e' j := by
  intro j
  induction j with
  | zero =>
    intro he
    obtain ⟨a, b, c⟩ := he 0 (by omega) (by omega)
    show d 0 (e 0) = d' 0 (e' 0)
    rw [a, hd 0 (e' 0) (by omega) (by omega) b c]
  | succ j ih =>
    intro he
    obtain ⟨a, b, c⟩ := he j (by omega) (by omega)
    obtain ⟨a2, b2, c2⟩ := he ((j : Int) + 1) (by omega) (by omega)
    show arN d e j + 1 + d (e (j : Int)) (e ((j : Int) + 1)) = arN d' e' j + 1 + d' (e' (j : Int)) (e' ((j : Int) + 1))
    rw [ih (fun i i0 i1 => he i i0 (by omega)), a, a2, hd _ _ b c b2 c2]
theorem ar_co {d d' : Int → Int → Int} {e e' : Int → Int} {j : Int} (j0 : 0 ≤ j) (hd : ∀ p q, 0 ≤ p → p < 7 → 0 ≤ q → q < 7 → d p q = d' p q) (he : ∀ i : Int, 0 ≤ i → i ≤ j → e i = e' i ∧ 0 ≤ e' i ∧ e' i < 7) : ar d e j = ar d' e' j := by
  unfold ar
  exact arN_co hd j.toNat (fun i i0 i1 => he i i0 (by omega))
theorem hv_ar (h : mm_M) (s j : Int) : hv h s j = ar (wDi h) (pE h s) j := by
  unfold hv ar
  generalize j.toNat = m
  induction m with
  | zero => rfl
  | succ m ih =>
    show hvN h s m + 1 + _ = arN _ _ m + 1 + _
    rw [ih]
theorem gv_ar (h : mm_M) (s j : Int) : gv h s j = h 47 12 + ar (rDi h) (qE h s) j := by
  unfold gv ar
  generalize j.toNat = m
  induction m with
  | zero => rfl
  | succ m ih =>
    show gvN h s m + 1 + _ = _ + (arN _ _ m + 1 + _)
    rw [ih]
    omega
theorem ar_b {d : Int → Int → Int} {e : Int → Int} (hd : ∀ p q, 0 ≤ p → p < 7 → 0 ≤ q → q < 7 → 0 ≤ d p q ∧ d p q ≤ 198) : ∀ j : Nat, (∀ i : Int, 0 ≤ i → i ≤ j → 0 ≤ e i ∧ e i < 7) → 0 ≤ ar d e j ∧ ar d e j ≤ 199 * (j : Int) + 198 := by
  intro j
  induction j with
  | zero =>
    intro he
    obtain ⟨a, b⟩ := he 0 (by omega) (by omega)
    show 0 ≤ d 0 (e 0) ∧ d 0 (e 0) ≤ _
    have := hd 0 (e 0) (by omega) (by omega) a b
    omega
  | succ j ih =>
    intro he
    obtain ⟨a, b⟩ := he j (by omega) (by omega)
    obtain ⟨a2, b2⟩ := he ((j : Int) + 1) (by omega) (by omega)
    have i1 := ih (fun i i0 i1 => he i i0 (by omega))
    have := hd _ _ a b a2 b2
    show 0 ≤ ar d e ((j : Int) + 1) ∧ ar d e ((j : Int) + 1) ≤ _
    rw [ar1 d e j (by omega)]
    omega
/-- the reference goes a way, whatever it is -/
theorem s_goR (f : mm_M) (n6 : 0 ≤ f 47 35 ∧ f 47 35 ≤ 6) (hv : ∀ j : Int, 0 ≤ j → j < f 47 35 → 0 < f 68 j ∧ f 68 j < 7) (hd : ∀ i j : Int, 0 ≤ i → i < j → j < f 47 35 → ¬ f 68 i = f 68 j) (h12 : 0 ≤ f 47 12 ∧ f 47 12 ≤ 999) (hb : ∀ i : Int, 0 ≤ i → i < 7 → (0 ≤ f 48 i ∧ f 48 i ≤ 99) ∧ 0 ≤ f 49 i ∧ f 49 i ≤ 99) : ∃ g, mm_call mX10_goRoute [vR 47] f = some ([], g) ∧ (∀ c, c ≠ 69 → g c = f c) ∧ g 69 0 = f 47 12 ∧ (∀ j : Int, 0 ≤ j → j < f 47 35 → g 69 (f 68 j) = f 47 12 + ar (rDi f) (f 68) j) ∧ ∀ p : Int, 1 ≤ p → p < 7 → (∀ j : Int, 0 ≤ j → j < f 47 35 → ¬ f 68 j = p) → g 69 p = -2 := by
  have hx : ∃ h : mm_M, h = fun c i => if c = 81 then f 68 i else if c = 47 ∧ i = 1 then 7 else f c i := ⟨_, rfl⟩
  obtain ⟨h, hh⟩ := hx
  have q : ∀ j : Int, 0 ≤ j → j < f 47 35 → qE h 0 j = f 68 j := fun j j0 j1 => by
    unfold qE
    rw [hh]
    show w32 (f 68 (60 * 0 + j)) = _
    rw [show 60 * 0 + j = j from by omega]
    have := hv j j0 j1
    exact w32_id (by unfold mm_r32; omega)
  have e12 : h 47 12 = f 47 12 := by rw [hh]; rfl
  have e1 : h 47 1 = 7 := by rw [hh]; rfl
  have e48 : ∀ i, h 48 i = f 48 i := fun i => by rw [hh]; rfl
  have e49 : ∀ i, h 49 i = f 49 i := fun i => by rw [hh]; rfl
  have rd : ∀ a b, rDi h a b = rDi f a b := fun a b => by
    unfold rDi
    rw [e48, e48, e49, e49]
  obtain ⟨g1, b1, b2, b3, b4, b5⟩ := L_go1 7 0 f (by omega) (by omega)
  obtain ⟨g, c1, c2, c3, c4, c5⟩ := L_go2 h 0 (f 47 35) n6.2 (by omega) (fun j j0 j1 => by
    refine ⟨?_, fun i i0 i1 => ?_⟩
    · rw [q j j0 j1, e1]
      exact hv j j0 j1
    · rw [q j j0 j1, q i i0 (by omega)]
      exact hd i j i0 i1 j1) (fun i i0 i1 => by rw [e48, e49]; exact hb i i0 i1) 6 0 (f 47 12) 0 g1 (by omega) n6.1 (by omega) (by rw [b2 47 (by decide)]) (fun j j0 j1 => by rw [b2 68 (by decide), q j j0 j1]) (fun i => by rw [b2 48 (by decide), b2 49 (by decide), e48, e49]; exact ⟨rfl, rfl⟩) ⟨by rw [e12]; exact b3, fun j j0 j1 => by omega, fun p p1 p2 _ => b4 p (by omega) p2 (by omega)⟩ (by decide) (by omega) (fun _ => by show h 47 12 + rDi h 0 (qE h 0 0) = _; rw [e12])
  refine ⟨g, ?_, fun c hc => by rw [c2 c hc, b2 c hc], by rw [c3, e12], fun j j0 j1 => ?_, fun p p1 p2 pj => c5 p p1 p2 (fun j j0 j1 => by rw [q j j0 j1]; exact pj j j0 j1)⟩
  · rw [X10_goRoute_c]
    exact b1.trans c1
  · have t := c4 j j0 j1
    rw [q j j0 j1, gv_ar, e12] at t
    rw [t]
    refine congrArg (fun v => f 47 12 + v) (ar_co j0 (fun a b _ _ _ _ => rd a b) (fun i i0 i1 => ?_))
    have := hv i i0 (by omega)
    exact ⟨q i i0 (by omega), by omega, by omega⟩
