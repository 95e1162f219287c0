/-! the law: both readers' state, and their smallest steps -/
def mm_tape (x f : mm_M) (N : Int) : Prop := x 2 0 = N ∧ f 47 21 = N ∧ 0 ≤ N ∧ N ≤ 120 ∧ (∀ i : Int, 0 ≤ i → i < N → 0 ≤ x 15 i ∧ x 15 i ≤ 255 ∧ f 60 i = w8 (x 15 i)) ∧ (x 2 4 = 16 ∨ x 2 4 = 17)
def mm_xc (m : Int) (x x' : mm_M) : Prop := ∀ c i, ¬ (c = 2 ∧ (i = 2 ∨ i = 3 ∨ i = 5)) → ¬ ((c = 16 ∨ c = 17) ∧ c = (x 2 4).toNat ∧ m ≤ i) → x' c i = x c i
def mm_fc (l : Int) (f f' : mm_M) : Prop := ∀ c i, ¬ (c = 47 ∧ 22 ≤ i ∧ i ≤ 25) → ¬ ((c = 61 ∨ c = 62) ∧ 130 + l ≤ i) → f' c i = f c i
theorem mm_xc.rf {m : Int} {x : mm_M} : mm_xc m x x := fun _ _ _ _ => rfl
theorem mm_fc.rf {m : Int} {x : mm_M} : mm_fc m x x := fun _ _ _ _ => rfl
theorem mm_xc.sp {m : Int} {x x' : mm_M} (a : mm_xc m x x') : x' 2 4 = x 2 4 := a 2 4 (by omega) (by omega)
theorem mm_xc.tr {m m2 : Int} {x y z : mm_M} (a : mm_xc m x y) (b : mm_xc m2 y z) (h : m ≤ m2) : mm_xc m x z := fun c i q1 q2 => by
  rw [b c i q1 (fun w => q2 ⟨w.1, by rw [← a.sp]; exact w.2.1, by omega⟩), a c i q1 q2]
theorem mm_fc.tr {m m2 : Int} {x y z : mm_M} (a : mm_fc m x y) (b : mm_fc m2 y z) (h : m ≤ m2) : mm_fc m x z := fun c i q1 q2 => by
  rw [b c i q1 (fun w => q2 ⟨w.1, by omega⟩), a c i q1 q2]
theorem mm_tape.co {x f x' f' : mm_M} {N m l : Int} (a : mm_xc m x x') (b : mm_fc l f f') (t : mm_tape x f N) : mm_tape x' f' N := by
  obtain ⟨t1, t2, t3, t4, t5, t6⟩ := t
  refine ⟨by rw [a 2 0 (by omega) (by omega)]; exact t1, by rw [b 47 21 (by omega) (by omega)]; exact t2, t3, t4, fun i i0 i1 => ?_, by rw [a.sp]; exact t6⟩
  rw [a 15 i (by omega) (by omega), b 60 i (by omega) (by omega)]
  exact t5 i i0 i1
def nxC (x : mm_M) : Int := if x 2 0 ≤ x 2 2 then -1 else x 15 (x 2 2)
def nxR (f : mm_M) : Int := if f 47 21 ≤ f 47 22 then -1 else f 60 (f 47 22)
theorem c_next {x : mm_M} (a : 0 ≤ x 2 2) (b : x 2 0 ≤ 120) : mm_call mX3_next [vR 2] x = some ([vI (nxC x)], x) := by
  rw [X3_next_c]
  unfold nxC
  by_cases q : x 2 0 ≤ x 2 2
  · rw [if_pos q, if_pos q]
  · rw [if_neg q, if_neg q, if_pos (by omega)]
theorem s_look {f : mm_M} (a : 0 ≤ f 47 22) (b : f 47 21 ≤ 120) : mm_call mX10_look [vR 47] f = some ([vI (nxR f)], f) := by
  rw [X10_look_c]
  unfold nxR
  by_cases q : f 47 21 ≤ f 47 22
  · rw [if_pos q, if_pos q]
  · rw [if_neg q, if_neg q, if_pos (by omega)]
/-- both see the same letter, as far as it is one that counts -/
theorem nx_eq {x f : mm_M} {N p : Int} (t : mm_tape x f N) (xp : x 2 2 = p) (fp : f 47 22 = p) (p0 : 0 ≤ p) : (nxC x = nxR f ∧ nxR f < 128) ∨ (128 ≤ nxC x ∧ nxR f < 0) := by
  obtain ⟨t1, t2, t3, t4, t5, t6⟩ := t
  unfold nxC nxR
  rw [t1, t2, xp, fp]
  by_cases q : N ≤ p
  · rw [if_pos q, if_pos q]
    left
    omega
  · rw [if_neg q, if_neg q]
    obtain ⟨a, b, c⟩ := t5 p p0 (by omega)
    rw [c]
    unfold w8
    omega
theorem nx_in {x f : mm_M} {N p : Int} (t : mm_tape x f N) (xp : x 2 2 = p) (h : 0 ≤ nxC x) : p < N ∧ nxC x = x 15 p := by
  obtain ⟨t1, t2, t3, t4, t5, t6⟩ := t
  unfold nxC at h ⊢
  rw [t1, xp] at h ⊢
  by_cases q : N ≤ p
  · rw [if_pos q] at h
    omega
  · rw [if_neg q]
    exact ⟨by omega, rfl⟩
theorem c_add {x : mm_M} (s : x 2 4 = 16 ∨ x 2 4 = 17) (a : Int) (m0 : 0 ≤ x 2 5) (m1 : x 2 5 < 121) : mm_call mX3_add [vR 2, vI a] x = some ([], mUp (mUp x (x 2 4).toNat (x 2 5) a) 2 5 (x 2 5 + 1)) := by
  have k1 : mm_ak ((x 2 4).toNat) = 1 := by rcases s with s | s <;> rw [s] <;> rfl
  have k2 : mm_an ((x 2 4).toNat) = 121 := by rcases s with s | s <;> rw [s] <;> rfl
  have ne : (2 : Nat) ≠ (x 2 4).toNat := by omega
  have w4 : w32 (x 2 5 + 1) = x 2 5 + 1 := w32_id (by unfold mm_r32; omega)
  rw [X3_add_c x a k1 k2, if_neg (by omega), if_pos ⟨m0, m1⟩, mUp_ne ne, w4]
/-- and where there is no room -/
theorem c_addF {x : mm_M} (s : x 2 4 = 16 ∨ x 2 4 = 17) (a : Int) (m0 : 0 ≤ x 2 5) (m1 : x 2 5 ≤ 121) : ∃ x', mm_call mX3_add [vR 2, vI a] x = some ([], x') ∧ mm_xc (x 2 5) x x' ∧ x 2 5 ≤ x' 2 5 ∧ x' 2 5 ≤ 121 ∧ x' 2 2 = x 2 2 ∧ x' 2 3 = x 2 3 := by
  by_cases q : x 2 5 < 121
  · have ne : (2 : Nat) ≠ (x 2 4).toNat := by omega
    refine ⟨_, c_add s a m0 q, fun c i q1 q2 => ?_, ?_, ?_, ?_, ?_⟩
    · have a1 : ¬ (c = 2 ∧ i = 5) := by omega
      have a2 : ¬ (c = (x 2 4).toNat ∧ i = x 2 5) := fun w => q2 ⟨by omega, w.1, by omega⟩
      rw [mUp_at, if_neg a1, mUp_at, if_neg a2]
    · rw [mUp_self]; omega
    · rw [mUp_self]; omega
    · rw [mUp_nei (by decide), mUp_ne ne]
    · rw [mUp_nei (by decide), mUp_ne ne]
  · have k1 : mm_ak ((x 2 4).toNat) = 1 := by rcases s with s | s <;> rw [s] <;> rfl
    have k2 : mm_an ((x 2 4).toNat) = 121 := by rcases s with s | s <;> rw [s] <;> rfl
    refine ⟨x, ?_, mm_xc.rf, Int.le_refl _, m1, rfl, rfl⟩
    rw [X3_add_c x a k1 k2, if_pos (by omega)]
theorem s_addStep {f : mm_M} (a b : Int) (l0 : 0 ≤ f 47 25) (l1 : f 47 25 < 130) : mm_call mX10_addStep [vR 47, vI a, vI b] f = some ([], mUp (mUp (mUp f 61 (130 + f 47 25) (w8 a)) 62 (130 + f 47 25) b) 47 25 (f 47 25 + 1)) := by
  have w4 : w32 (130 + f 47 25) = 130 + f 47 25 := w32_id (by unfold mm_r32; omega)
  have w5 : w32 (f 47 25 + 1) = f 47 25 + 1 := w32_id (by unfold mm_r32; omega)
  rw [X10_addStep_c, w4, w8_w8, mUp_ne (show (47 : Nat) ≠ 61 by decide), w4, if_pos (show 0 ≤ 130 + f 47 25 ∧ 130 + f 47 25 < 260 by omega), if_pos (by omega), mUp_ne (show (47 : Nat) ≠ 62 by decide), mUp_ne (show (47 : Nat) ≠ 61 by decide), w5]
/-- both read well so far -/
def mm_gs (x f : mm_M) (N p m l o : Int) : Prop := mm_tape x f N ∧ (x 2 2 = p ∧ x 2 3 = 0 ∧ x 2 5 = m) ∧ (f 47 22 = p ∧ f 47 23 = -1 ∧ f 47 24 = o ∧ f 47 25 = l) ∧ (0 ≤ p ∧ p ≤ N) ∧ (0 ≤ l ∧ l ≤ p) ∧ 0 ≤ m ∧ m ≤ p
/-- the code of the reference, where it is being laid -/
abbrev mm_w (f : mm_M) (i : Int) : Int := f 61 (130 + i)
abbrev mm_x (f : mm_M) (i : Int) : Int := f 62 (130 + i)
def mm_pok (x f : mm_M) (N p m l o M : Int) : Prop := ∃ q n : Int, p < q ∧ mm_gs x f N q (m + n) (l + n) o ∧ 0 < n ∧ n ≤ q - p ∧ mm_E (x (x 2 4).toNat) m (mm_w f) (mm_x f) l n M
/-- the reference has the fault, the class stands there -/
def mm_pno (x f : mm_M) (N p m l : Int) : Prop := ∃ q : Int, (0 ≤ p ∧ p ≤ q ∧ q ≤ N) ∧ mm_tape x f N ∧ (x 2 2 = q ∧ f 47 22 = q ∧ f 47 23 = q) ∧ (¬ x 2 3 = 0 ∨ (q < N ∧ 48 ≤ x 15 q ∧ x 15 q ≤ 57)) ∧ (0 ≤ m ∧ m ≤ x 2 5 ∧ x 2 5 ≤ 121) ∧ 0 ≤ l ∧ l ≤ f 47 25 ∧ f 47 25 ≤ l + (q - p) + 1
def mm_rs (x0 f0 x f : mm_M) (N p m l o M : Int) : Prop := mm_xc m x0 x ∧ mm_fc l f0 f ∧ (mm_pok x f N p m l o M ∨ mm_pno x f N p m l)
def mm_PJ (C K : mm_M → Option (List mm_V × mm_M)) (o M : Int) : Prop := ∀ (x f : mm_M) (N p m l : Int), mm_gs x f N p m l o → ∃ x' f', C x = some ([], x') ∧ K f = some ([], f') ∧ mm_rs x f x' f' N p m l o M
/-- one letter read -/
theorem gs_st {x f : mm_M} {N p m l o : Int} (g : mm_gs x f N p m l o) (h : p < N) : mm_gs (mUp x 2 2 (p + 1)) (mUp f 47 22 (p + 1)) N (p + 1) m l o ∧ mm_xc m x (mUp x 2 2 (p + 1)) ∧ mm_fc l f (mUp f 47 22 (p + 1)) := by
  obtain ⟨t, ⟨a1, a2, a3⟩, ⟨b1, b2, b3, b4⟩, d1, d2, d3⟩ := g
  have X : mm_xc m x (mUp x 2 2 (p + 1)) := fun c i q1 q2 => by
    rw [mUp_at, if_neg (by omega)]
  have F : mm_fc l f (mUp f 47 22 (p + 1)) := fun c i q1 q2 => by
    rw [mUp_at, if_neg (by omega)]
  refine ⟨⟨mm_tape.co X F t, ⟨mUp_self _ _ _ _, ?_, ?_⟩, ⟨mUp_self _ _ _ _, ?_, ?_, ?_⟩, by omega, by omega, by omega⟩, X, F⟩
  · rw [mUp_nei (by decide)]; exact a2
  · rw [mUp_nei (by decide)]; exact a3
  · rw [mUp_nei (by decide)]; exact b2
  · rw [mUp_nei (by decide)]; exact b3
  · rw [mUp_nei (by decide)]; exact b4
/-- both lay a step -/
theorem gs_add {x f : mm_M} {N p m l o : Int} (g : mm_gs x f N p m l o) (hm : m < p) (hl : l < p) (a w b : Int) : ∃ x' f', mm_call mX3_add [vR 2, vI a] x = some ([], x') ∧ mm_call mX10_addStep [vR 47, vI w, vI b] f = some ([], f') ∧ mm_gs x' f' N p (m + 1) (l + 1) o ∧ mm_xc m x x' ∧ mm_fc l f f' ∧ x' (x' 2 4).toNat m = a ∧ (∀ i, i < m → x' (x' 2 4).toNat i = x (x 2 4).toNat i) ∧ mm_w f' l = w8 w ∧ mm_x f' l = b ∧ ∀ i, i < l → mm_w f' i = mm_w f i ∧ mm_x f' i = mm_x f i := by
  obtain ⟨t, ⟨a1, a2, a3⟩, ⟨b1, b2, b3, b4⟩, d1, d2, d3⟩ := g
  have t4 := t.2.2.2.1
  have sp := t.2.2.2.2.2
  have ne : (2 : Nat) ≠ (x 2 4).toNat := by omega
  have A := c_add (x := x) sp a (by omega) (by omega)
  have B := s_addStep (f := f) w b (by omega) (by omega)
  rw [a3] at A
  rw [b4] at B
  have X : mm_xc m x (mUp (mUp x (x 2 4).toNat m a) 2 5 (m + 1)) := fun c i q1 q2 => by
    have z1 : ¬ (c = 2 ∧ i = 5) := by omega
    have z2 : ¬ (c = (x 2 4).toNat ∧ i = m) := fun w => q2 ⟨by omega, w.1, by omega⟩
    rw [mUp_at, if_neg z1, mUp_at, if_neg z2]
  have F : mm_fc l f (mUp (mUp (mUp f 61 (130 + l) (w8 w)) 62 (130 + l) b) 47 25 (l + 1)) := fun c i q1 q2 => by
    have z1 : ¬ (c = 47 ∧ i = 25) := by omega
    have z2 : ¬ (c = 62 ∧ i = 130 + l) := fun w => q2 ⟨by omega, by omega⟩
    have z3 : ¬ (c = 61 ∧ i = 130 + l) := fun w => q2 ⟨by omega, by omega⟩
    rw [mUp_at, if_neg z1, mUp_at, if_neg z2, mUp_at, if_neg z3]
  have s' := X.sp
  refine ⟨_, _, A, B, ⟨mm_tape.co X F t, ⟨?_, ?_, mUp_self _ _ _ _⟩, ⟨?_, ?_, ?_, mUp_self _ _ _ _⟩, d1, by omega, by omega⟩, X, F, ?_, ?_, ?_, ?_, ?_⟩
  · rw [mUp_nei (by decide), mUp_ne ne]; exact a1
  · rw [mUp_nei (by decide), mUp_ne ne]; exact a2
  · rw [mUp_nei (by decide), mUp_ne (by decide), mUp_ne (by decide)]; exact b1
  · rw [mUp_nei (by decide), mUp_ne (by decide), mUp_ne (by decide)]; exact b2
  · rw [mUp_nei (by decide), mUp_ne (by decide), mUp_ne (by decide)]; exact b3
  · rw [s', mUp_ne (Ne.symm ne), mUp_self]
  · intro i hi
    rw [s', mUp_ne (Ne.symm ne), mUp_nei (by omega)]
  · show mUp (mUp (mUp f 61 (130 + l) (w8 w)) 62 (130 + l) b) 47 25 (l + 1) 61 (130 + l) = _
    rw [mUp_ne (by decide), mUp_ne (by decide), mUp_self]
  · show mUp (mUp (mUp f 61 (130 + l) (w8 w)) 62 (130 + l) b) 47 25 (l + 1) 62 (130 + l) = _
    rw [mUp_ne (by decide), mUp_self]
  · intro i hi
    constructor
    · show mUp (mUp (mUp f 61 (130 + l) (w8 w)) 62 (130 + l) b) 47 25 (l + 1) 61 (130 + i) = _
      rw [mUp_ne (by decide), mUp_ne (by decide), mUp_nei (by omega)]
    · show mUp (mUp (mUp f 61 (130 + l) (w8 w)) 62 (130 + l) b) 47 25 (l + 1) 62 (130 + i) = _
      rw [mUp_ne (by decide), mUp_nei (by omega), mUp_ne (by decide)]
/-- a step laid behind a fault -/
theorem no_add {x f : mm_M} {N p m l : Int} (z : mm_pno x f N p m l) (lp : l ≤ p) (p' : Int) (hp : p' < p) (p0 : 0 ≤ p') (a w b : Int) : ∃ x' f', mm_call mX3_add [vR 2, vI a] x = some ([], x') ∧ mm_call mX10_addStep [vR 47, vI w, vI b] f = some ([], f') ∧ mm_pno x' f' N p' m l ∧ mm_xc m x x' ∧ mm_fc l f f' := by
  obtain ⟨q, h1, t, ⟨a1, b1, b2⟩, h2, h3, l0, h4, h5⟩ := z
  have t4 := t.2.2.2.1
  have sp := t.2.2.2.2.2
  obtain ⟨x', e1, e2, e3, e4, e5, e6⟩ := c_addF (x := x) sp a (by omega) h3.2.2
  have B := s_addStep (f := f) w b (by omega) (by omega)
  have F : mm_fc l f (mUp (mUp (mUp f 61 (130 + f 47 25) (w8 w)) 62 (130 + f 47 25) b) 47 25 (f 47 25 + 1)) := fun c i q1 q2 => by
    have z1 : ¬ (c = 47 ∧ i = 25) := by omega
    have z2 : ¬ (c = 62 ∧ i = 130 + f 47 25) := fun w => q2 ⟨by omega, by omega⟩
    have z3 : ¬ (c = 61 ∧ i = 130 + f 47 25) := fun w => q2 ⟨by omega, by omega⟩
    rw [mUp_at, if_neg z1, mUp_at, if_neg z2, mUp_at, if_neg z3]
  have X : mm_xc m x x' := mm_xc.rf.tr e2 h3.2.1
  refine ⟨x', _, e1, B, ⟨q, by omega, mm_tape.co X F t, ⟨by omega, ?_, ?_⟩, ?_, by omega, l0, ?_, ?_⟩, X, F⟩
  · rw [mUp_nei (by decide), mUp_ne (by decide), mUp_ne (by decide)]; exact b1
  · rw [mUp_nei (by decide), mUp_ne (by decide), mUp_ne (by decide)]; exact b2
  · rw [e6, X 15 q (by omega) (by omega)]; exact h2
  · rw [mUp_self]; omega
  · rw [mUp_self]; omega
theorem mm_pno.le {x f : mm_M} {N p m l p' m' l' : Int} (z : mm_pno x f N p m l) (hp : p' ≤ p) (p0 : 0 ≤ p') (m0 : 0 ≤ m') (hm : m' ≤ m) (l0 : 0 ≤ l') (hl : l' ≤ l) (hh : l - l' ≤ p - p') : mm_pno x f N p' m' l' := by
  obtain ⟨q, h1, t, h0, h2, h3, l0, h4, h5⟩ := z
  exact ⟨q, by omega, t, h0, h2, by omega, by omega, by omega, by omega⟩
