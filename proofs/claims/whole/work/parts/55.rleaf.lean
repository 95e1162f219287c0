/-! who is let in: the reference -/
abbrev rLet (t old new hd m w : Int) : Prop := (w = old ∧ (t < 0 ∨ m < t + hd)) ∨ (w = new ∧ 0 ≤ t ∧ t ≤ m)
def rBits (t old new hd m : Int) : Int := if old = new then 3 else (if t < 0 ∨ m < t + hd then 1 else 0) + (if 0 ≤ t ∧ t ≤ m then 2 else 0)
theorem rBits4 (t old new hd m : Int) (h0 : 0 ≤ hd) : rBits t old new hd m = 1 ∨ rBits t old new hd m = 2 ∨ rBits t old new hd m = 3 := by
  unfold rBits
  repeat' split
  all_goals omega
/-- what is asked of a laid reference -/
def mm_rok (f : mm_M) : Prop := (∀ p : Int, 0 ≤ p → p < 7 → -2 ≤ f 69 p ∧ f 69 p ≤ 2391) ∧ 0 ≤ f 47 13 ∧ f 47 13 ≤ 999
theorem s_isOldIn (f : mm_M) (p m : Int) (hp : 0 ≤ p ∧ p < 7) (ho : mm_rok f) : mm_call mX10_isOldIn [vR 47, vI p, vI m] f = some ([vI (if f 69 p < 0 ∨ m < f 69 p + f 47 13 then 1 else 0)], f) := by
  have t := ho.1 p hp.1 hp.2
  have t2 := ho.2
  rw [X10_isOldIn_c, if_pos hp]
  have w1 : w32 (f 69 p + f 47 13) = f 69 p + f 47 13 := w32_id (by unfold mm_r32; omega)
  by_cases q : f 69 p < 0
  · rw [if_pos q, if_pos (Or.inl q)]
  · rw [if_neg q, if_pos hp, w1]
    by_cases q2 : f 69 p + f 47 13 ≤ m
    · rw [if_pos q2, if_neg (by omega)]
    · rw [if_neg q2, if_pos (by omega)]
theorem s_isNewIn (f : mm_M) (p m : Int) (hp : 0 ≤ p ∧ p < 7) : mm_call mX10_isNewIn [vR 47, vI p, vI m] f = some ([vI (if 0 ≤ f 69 p ∧ f 69 p ≤ m then 1 else 0)], f) := by
  rw [X10_isNewIn_c, if_pos hp]
  by_cases q : f 69 p < 0
  · rw [if_pos q, if_neg (by omega)]
  · rw [if_neg q, if_pos hp]
    by_cases q2 : m < f 69 p
    · rw [if_pos q2, if_neg (by omega)]
    · rw [if_neg q2, if_pos (by omega)]
theorem s_bitsIn (f : mm_M) (p m : Int) (hp : 0 ≤ p ∧ p < 7) (ho : mm_rok f) : mm_call mX10_bitsIn [vR 47, vI p, vI m] f = some ([vI (rBits (f 69 p) (f 47 10) (f 47 11) (f 47 13) m)], f) := by
  have h2 := ho.2
  have e28 : ∀ a b : Int, (a = 0 ∨ a = 2) → (b = 0 ∨ b = 1) → ¬ (a = 0 ∧ b = 0) → mm_ev mX10_bitsIn 2 28 [some (vR 47), some (vI p), some (vI m), none] [vI a, vI b] f = some ([vI (if f 47 10 = f 47 11 then 3 else b + a)], f) := by
    intro a b ha hb hab
    have w1 : w32 (b + a) = b + a := w32_id (by unfold mm_r32; omega)
    rw [X10_bitsIn_28, w1, if_neg (by omega)]
    by_cases q : f 47 10 = f 47 11
    · rw [if_neg (fun w => w q), if_pos q]
    · rw [if_pos q, if_neg q]
  rw [X10_bitsIn_c, s_isOldIn f p m hp ho, mm_be1]
  refine (X10_bitsIn_6 _ _ _ _).trans ?_
  unfold rBits
  by_cases q1 : f 69 p < 0 ∨ m < f 69 p + f 47 13
  · rw [if_pos q1, if_neg (by decide), s_isNewIn f p m hp, mm_be1]
    refine (X10_bitsIn_20 _ _ _ _ _).trans ?_
    by_cases q2 : 0 ≤ f 69 p ∧ f 69 p ≤ m
    · rw [if_pos q2, if_neg (by decide), if_pos q2, e28 2 1 (by decide) (by decide) (by decide)]
    · rw [if_neg q2, if_pos rfl, if_neg q2, e28 0 1 (by decide) (by decide) (by decide)]
  · rw [if_neg q1, if_pos rfl, s_isNewIn f p m hp, mm_be1]
    refine (X10_bitsIn_20 _ _ _ _ _).trans ?_
    have q2 : 0 ≤ f 69 p ∧ f 69 p ≤ m := by omega
    rw [if_pos q2, if_neg (by decide), if_pos q2, e28 2 0 (by decide) (by decide) (by decide)]
theorem iAnd_b : ∀ b : Int, (b = 1 ∨ b = 2 ∨ b = 3) → (iAnd b 1 = 1 ↔ b = 1 ∨ b = 3) ∧ (iAnd b 2 = 2 ↔ b = 2 ∨ b = 3) := by
  intro b hb
  rcases hb with rfl | rfl | rfl
  · exact ⟨⟨fun _ => Or.inl rfl, fun _ => by decide +kernel⟩, ⟨fun w => absurd w (by decide +kernel), fun w => absurd w (by decide)⟩⟩
  · exact ⟨⟨fun w => absurd w (by decide +kernel), fun w => absurd w (by decide)⟩, ⟨fun _ => Or.inl rfl, fun _ => by decide +kernel⟩⟩
  · exact ⟨⟨fun _ => Or.inr rfl, fun _ => by decide +kernel⟩, ⟨fun _ => Or.inr rfl, fun _ => by decide +kernel⟩⟩
theorem s_isLetIn (f : mm_M) (p m w : Int) (hp : 0 ≤ p ∧ p < 7) (ho : mm_rok f) : mm_call mX10_isLetIn [vR 47, vI p, vI m, vI w] f = some ([vI (if rLet (f 69 p) (f 47 10) (f 47 11) (f 47 13) m w then 1 else 0)], f) := by
  have h2 := ho.2
  rw [X10_isLetIn_c, s_bitsIn f p m hp ho, mm_be1]
  refine (X10_isLetIn_6 _ _ _ _ _).trans ?_
  have b4 := rBits4 (f 69 p) (f 47 10) (f 47 11) (f 47 13) m h2.1
  obtain ⟨b1, b2⟩ := iAnd_b _ b4
  have c1 : (rBits (f 69 p) (f 47 10) (f 47 11) (f 47 13) m = 1 ∨ rBits (f 69 p) (f 47 10) (f 47 11) (f 47 13) m = 3) ↔ (f 47 10 = f 47 11 ∨ f 69 p < 0 ∨ m < f 69 p + f 47 13) := by
    unfold rBits
    repeat' split
    all_goals omega
  have c2 : (rBits (f 69 p) (f 47 10) (f 47 11) (f 47 13) m = 2 ∨ rBits (f 69 p) (f 47 10) (f 47 11) (f 47 13) m = 3) ↔ (f 47 10 = f 47 11 ∨ (0 ≤ f 69 p ∧ f 69 p ≤ m)) := by
    unfold rBits
    repeat' split
    all_goals omega
  rw [c1] at b1
  rw [c2] at b2
  generalize rBits (f 69 p) (f 47 10) (f 47 11) (f 47 13) m = B at b1 b2 b4 ⊢
  have e24 : ∀ q : ¬ (w = f 47 10 ∧ iAnd B 1 = 1), mm_ev mX10_isLetIn 3 24 [some (vR 47), some (vI p), some (vI m), some (vI w), some (vI B)] [] f = some ([vI (if rLet (f 69 p) (f 47 10) (f 47 11) (f 47 13) m w then 1 else 0)], f) := fun q => by
    rw [X10_isLetIn_24]
    by_cases q1 : w = f 47 11
    · rw [if_neg (fun z => z q1)]
      by_cases q2 : iAnd B 2 = 2
      · rw [if_neg (fun z => z q2), if_pos]
        have := b2.1 q2
        omega
      · rw [if_pos q2, if_neg]
        have : ¬ (f 47 10 = f 47 11 ∨ (0 ≤ f 69 p ∧ f 69 p ≤ m)) := fun z => q2 (b2.2 z)
        omega
    · rw [if_pos q1, if_neg]
      intro z
      refine q ⟨by omega, b1.2 ?_⟩
      omega
  by_cases q : w = f 47 10
  · rw [if_neg (fun z => z q)]
    by_cases q2 : iAnd B 1 = 1
    · rw [if_pos q2, if_pos]
      have := b1.1 q2
      omega
    · rw [if_neg q2]
      exact e24 (fun z => q2 z.2)
  · rw [if_pos q]
    exact e24 (fun z => q z.1)
def rKn (f : mm_M) (k : Int) : Int := if f 53 k < f 47 12 then f 47 10 else f 47 11
theorem s_knows (f : mm_M) (k : Int) (hk : 0 ≤ k ∧ k < 4) : mm_call mX10_knows [vR 47, vI k] f = some ([vI (rKn f k)], f) := by
  unfold rKn
  rw [X10_knows_c, if_pos hk]
  by_cases q : f 53 k < f 47 12
  · rw [if_pos q, if_pos q]
  · rw [if_neg q, if_neg q]
def mm_rby (f : mm_M) : Prop := (0 ≤ f 47 1 ∧ f 47 1 ≤ 7) ∧ ∀ k : Int, 0 ≤ k → k < 4 → 0 ≤ f 55 k ∧ f 55 k ≤ 6
theorem s_post (f : mm_M) (a : Int) (hn : 0 ≤ f 47 1 ∧ f 47 1 ≤ 7) : mm_call mX10_isPost [vR 47, vI a] f = some ([vI (if 0 ≤ a ∧ a < f 47 1 then 1 else 0)], f) := by
  have w1 : w32 (f 47 1 - 1) = f 47 1 - 1 := w32_id (by unfold mm_r32; omega)
  rw [s_isPost, w1]
  by_cases q : 0 ≤ a ∧ a < f 47 1
  · rw [if_pos (by omega), if_pos q]
  · rw [if_neg (by omega), if_neg q]
abbrev rHome (f : mm_M) (k : Int) : Prop := f 55 k < f 47 1 ∧ rLet (f 69 (f 55 k)) (f 47 10) (f 47 11) (f 47 13) (f 54 k) (rKn f k)
theorem s_isHome (f : mm_M) (k : Int) (hk : 0 ≤ k ∧ k < 4) (ho : mm_rok f) (hb : mm_rby f) : mm_call mX10_isHome [vR 47, vI k] f = some ([vI (if rHome f k then 1 else 0)], f) := by
  have b := hb.2 k hk.1 hk.2
  rw [X10_isHome_c, if_pos hk, s_post f _ hb.1, mm_be1]
  refine (X10_isHome_10 _ _ _).trans ?_
  by_cases q : f 55 k < f 47 1
  · rw [if_pos (⟨b.1, q⟩ : 0 ≤ f 55 k ∧ f 55 k < f 47 1), if_neg (by decide), if_pos hk, if_pos hk, s_knows f k hk, mm_be1]
    refine (X10_isHome_31 _ _ _ _ _).trans ?_
    rw [s_isLetIn f _ _ _ (by omega) ho, mm_be1]
    refine (X10_isHome_34 _ _ _).trans ?_
    by_cases q2 : rLet (f 69 (f 55 k)) (f 47 10) (f 47 11) (f 47 13) (f 54 k) (rKn f k)
    · rw [if_pos q2, if_neg (by decide), if_pos ⟨q, q2⟩]
    · rw [if_neg q2, if_pos rfl, if_neg (fun w => q2 w.2)]
  · rw [if_neg (fun w : 0 ≤ f 55 k ∧ f 55 k < f 47 1 => q w.2), if_pos rfl, if_neg (fun w => q w.1)]
def rPat (f : mm_M) (k : Int) : Int := if rHome f k then 1 else 0
theorem rPat_b (f : mm_M) (k : Int) : 0 ≤ rPat f k ∧ rPat f k ≤ 1 := by
  unfold rPat
  split <;> omega
theorem s_homeMany (f : mm_M) (ho : mm_rok f) (hb : mm_rby f) : mm_call mX10_homeMany [vR 47] f = some ([vI (rPat f 0 + rPat f 1 + rPat f 2 + rPat f 3)], f) := by
  have st : ∀ a k : Int, 0 ≤ k ∧ k < 4 → 0 ≤ a ∧ a ≤ k → mm_ev mX10_homeMany 5 4 [some (vR 47), some (vI a), some (vI k)] [] f = mm_ev mX10_homeMany 5 4 [some (vR 47), some (vI (a + rPat f k)), some (vI (k + 1))] [] f := by
    intro a k hk ha
    have w1 : w32 (k + 1) = k + 1 := w32_id (by unfold mm_r32; omega)
    have w2 : w32 (a + 1) = a + 1 := w32_id (by unfold mm_r32; omega)
    rw [X10_homeMany_4, if_neg (by omega), s_isHome f k hk ho hb, mm_be1]
    refine (X10_homeMany_14 _ _ _ _).trans ?_
    unfold rPat
    by_cases q : rHome f k
    · rw [if_pos q, if_neg (by decide), w1, w2]
    · rw [if_neg q, if_pos rfl, w1, show a + 0 = a from by omega]
  have b0 := rPat_b f 0
  have b1 := rPat_b f 1
  have b2 := rPat_b f 2
  have b3 := rPat_b f 3
  rw [X10_homeMany_c, st 0 0 (by decide) (by decide), show (0 : Int) + 1 = 1 from rfl, st _ 1 (by decide) (by omega), show (1 : Int) + 1 = 2 from rfl, st _ 2 (by decide) (by omega), show (2 : Int) + 1 = 3 from rfl, st _ 3 (by decide) (by omega), X10_homeMany_4, if_pos (by decide)]
  rw [show 0 + rPat f 0 + rPat f 1 + rPat f 2 + rPat f 3 = rPat f 0 + rPat f 1 + rPat f 2 + rPat f 3 from by omega]
