/-! the reference goes a way: when each post hears -/
theorem s_goB (f : mm_M) (n6 : 0 ≤ f 47 35 ∧ f 47 35 ≤ 6) (hv : ∀ j : Int, 0 ≤ j → j < f 47 35 → 0 < f 68 j ∧ f 68 j < 7) (hd : ∀ i j : Int, 0 ≤ i → i < j → j < f 47 35 → ¬ f 68 i = f 68 j) (h12 : 0 ≤ f 47 12 ∧ f 47 12 ≤ 999) (hb : ∀ i : Int, 0 ≤ i → i < 7 → (0 ≤ f 48 i ∧ f 48 i ≤ 99) ∧ 0 ≤ f 49 i ∧ f 49 i ≤ 99) : ∃ g, mm_call mX10_goRoute [vR 47] f = some ([], g) ∧ (∀ c, c ≠ 69 → g c = f c) ∧ ∀ p : Int, 0 ≤ p → p < 7 → g 69 p = mm_tH (pB (rDi f) (f 68) (f 47 35) p) (f 47 12) := by
  obtain ⟨g, a1, a2, a3, a4, a5⟩ := s_goR f n6 hv hd h12 hb
  refine ⟨g, a1, a2, fun p p0 p7 => ?_⟩
  by_cases q : p = 0
  · rw [q, pB0, a3]
    unfold mm_tH
    rw [if_neg (by decide)]
    omega
  · by_cases w : ∃ j : Int, 0 ≤ j ∧ j < f 47 35 ∧ f 68 j = p
    · obtain ⟨j, j0, j1, ej⟩ := w
      have t := pB_in (d := rDi f) (fun i i0 i1 => (hv i i0 i1).1) hd j0 j1
      have u := a4 j j0 j1
      rw [ej] at t u
      have b := ar_b (d := rDi f) (e := f 68) (fun p q p0 p1 q0 q1 => rDi_b ⟨p0, p1⟩ ⟨q0, q1⟩ hb) j.toNat (fun i i0 i1 => by
        have := hv i i0 (by omega)
        omega)
      rw [show ((j.toNat : Nat) : Int) = j from by omega] at b
      rw [t, u]
      unfold mm_tH
      rw [if_neg (by omega)]
    · have w2 : ∀ j : Int, 0 ≤ j → j < f 47 35 → ¬ f 68 j = p := fun j j0 j1 ej => w ⟨j, j0, j1, ej⟩
      rw [pB_out q w2, a5 p (by omega) p7 w2]
      rfl
/-- who goes in, when the posts hear so late as b tells -/
abbrev pG (g : mm_M) (b : Int → Int) (k e : Int) : Prop := g 11 (49 + k) < g 1 1 ∧ cLet (cT (b (g 11 (49 + k))) (g 11 55)) (g 11 53) e (g 11 56) (g 11 (45 + k)) (kn g k)
def pVk (g : mm_M) (b : Int → Int) (k : Int) : Int := if pG g b k (g 11 54) then 1 else 0
def pV (g : mm_M) (b : Int → Int) : Int := pVk g b 0 + pVk g b 1 + pVk g b 2 + pVk g b 3
theorem pVk_b (g : mm_M) (b : Int → Int) (k : Int) : 0 ≤ pVk g b k ∧ pVk g b k ≤ 1 := by
  unfold pVk
  split <;> omega
theorem pVk_co {g g' : mm_M} {b b' : Int → Int} {k : Int} (hk : 0 ≤ k ∧ k < 4) (hn : mm_nok g) (e11 : ∀ i, g' 11 i = g 11 i) (e1 : g' 1 1 = g 1 1) (hb : ∀ p : Int, 0 ≤ p → p < 7 → b' p = b p) : pVk g' b' k = pVk g b k := by
  obtain ⟨m1, m2, m3, m4⟩ := hn.2.2.2.2 k hk.1 hk.2
  unfold pVk pG kn
  rw [e11, e11, e11, e11, e11, e11, e11, e1, hb _ m3 (by omega)]
theorem home_b {g f : mm_M} {b : Int → Int} {k : Int} (hk : 0 ≤ k ∧ k < 4) (hn : mm_nok g) (z : mm_RN f) (e11 : ∀ i, f 11 i = g 11 i) (e1 : f 1 1 = g 1 1) (hb : ∀ p : Int, 0 ≤ p → p < 7 → mm_bok (b p)) (h69 : ∀ p : Int, 0 ≤ p → p < 7 → f 69 p = mm_tH (b p) (g 11 55)) : rPat f k = pVk g b k := by
  obtain ⟨n1, n2, n3, n4, n5⟩ := hn
  obtain ⟨m1, m2, m3, m4⟩ := n5 k hk.1 hk.2
  have le := let_eq (b := b (g 11 (49 + k))) (a := g 11 55) (m := g 11 (45 + k)) (old := g 11 53) (e := g 11 54) (hd := g 11 56) (w := kn g k) (hb _ m3 (by omega)) n1 (by omega) n2.1
  have ek : rKn f k = kn g k := by
    unfold rKn kn
    rw [(N5 z k hk.1 hk.2).1, (N10 z).1, (N8 z).1, (N9 z).1, e11, e11, e11, e11]
  have key : rHome f k ↔ pG g b k (g 11 54) := by
    unfold rHome pG
    rw [(N7 z k hk.1 hk.2).1, (N6 z k hk.1 hk.2).1, ek, z.2.2.1, e1, (N8 z).1, (N9 z).1, (N11 z).1, e11, e11, e11, e11, e11, h69 _ m3 (by omega), le]
  unfold rPat pVk
  by_cases q : rHome f k
  · rw [if_pos q, if_pos (key.1 q)]
  · rw [if_neg q, if_neg (fun w => q (key.2 w))]
theorem s_homeB {g f : mm_M} {b : Int → Int} (hn : mm_nok g) (z : mm_RN f) (e11 : ∀ i, f 11 i = g 11 i) (e1 : f 1 1 = g 1 1) (hb : ∀ p : Int, 0 ≤ p → p < 7 → mm_bok (b p)) (h69 : ∀ p : Int, 0 ≤ p → p < 7 → f 69 p = mm_tH (b p) (g 11 55)) : mm_call mX10_homeMany [vR 47] f = some ([vI (pV g b)], f) := by
  have n11 := N11 z
  rw [s_homeMany f ⟨fun p p0 p7 => by rw [h69 p p0 p7]; have := tm_b (hb p p0 p7) hn.1; exact ⟨this.1, this.2.1⟩, by omega, by omega⟩ ⟨by rw [z.2.2.1]; exact ⟨z.1, z.2.1⟩, fun k k0 k1 => by have := N7 z k k0 k1; omega⟩]
  unfold pV
  rw [home_b (by decide) hn z e11 e1 hb h69, home_b (by decide) hn z e11 e1 hb h69, home_b (by decide) hn z e11 e1 hb h69, home_b (by decide) hn z e11 e1 hb h69]
theorem s_putFirst (f : mm_M) (k : Int) (n6 : 0 ≤ f 47 35 ∧ f 47 35 ≤ 6) (k0 : 0 ≤ k) (k1 : k < f 47 35) (hv : ∀ j : Int, 0 ≤ j → j < f 47 35 → 0 < f 68 j ∧ f 68 j < 7) (hd : ∀ i j : Int, 0 ≤ i → i < j → j < f 47 35 → ¬ f 68 i = f 68 j) (h12 : 0 ≤ f 47 12 ∧ f 47 12 ≤ 999) (hb : ∀ i : Int, 0 ≤ i → i < 7 → (0 ≤ f 48 i ∧ f 48 i ≤ 99) ∧ 0 ≤ f 49 i ∧ f 49 i ≤ 99) : ∃ g, mm_call mX10_putFirst [vR 47, vI k] f = some ([], g) ∧ (∀ c, c ≠ 68 → c ≠ 69 → g c = f c) ∧ ∀ p : Int, 0 ≤ p → p < 7 → g 69 p = mm_tH (pB (rDi f) (eF (f 68) k) (f 47 35) p) (f 47 12) := by
  have L : ∀ (m : Nat) (i : Int) (x : mm_M), 0 ≤ i → i ≤ k → i ≤ m → (∀ c, c ≠ 68 → x c = f c) → (∀ j : Int, j ≤ i ∨ k < j → x 68 j = f 68 j) → (∀ j : Int, i < j → j ≤ k → x 68 j = f 68 (j - 1)) → ∃ y, mm_ev mX10_putFirst 4 9 [some (vR 47), some (vI k), some (vI (f 68 k)), some (vI i)] [] x = (mm_call mX10_goRoute [vR 47] y).bind (fun w => mm_ev mX10_putFirst 4 44 [some (vR 47), some (vI k), some (vI (f 68 k)), some (vI 0)] (w.1 ++ []) w.2) ∧ (∀ c, c ≠ 68 → y c = f c) ∧ ∀ j : Int, 0 ≤ j → y 68 j = eF (f 68) k j := by
    intro m
    induction m with
    | zero =>
      intro i x i0 ik im x1 x2 x3
      have : i = 0 := by omega
      subst this
      refine ⟨mUp x 68 0 (f 68 k), ?_, fun c hc => by rw [mUp_ne hc, x1 c hc], fun j j0 => ?_⟩
      · rw [X10_putFirst_9, if_pos (Int.le_refl _), if_pos (by decide)]
      · unfold eF
        by_cases q : j = 0
        · rw [q, mUp_self, if_pos rfl]
        · rw [mUp_nei q, if_neg q]
          by_cases q2 : j ≤ k
          · rw [if_pos q2, x3 j (by omega) q2]
          · rw [if_neg q2, x2 j (by omega)]
    | succ m ih =>
      intro i x i0 ik im x1 x2 x3
      by_cases q : i = 0
      · subst q
        refine ⟨mUp x 68 0 (f 68 k), ?_, fun c hc => by rw [mUp_ne hc, x1 c hc], fun j j0 => ?_⟩
        · rw [X10_putFirst_9, if_pos (Int.le_refl _), if_pos (by decide)]
        · unfold eF
          by_cases q : j = 0
          · rw [q, mUp_self, if_pos rfl]
          · rw [mUp_nei q, if_neg q]
            by_cases q2 : j ≤ k
            · rw [if_pos q2, x3 j (by omega) q2]
            · rw [if_neg q2, x2 j (by omega)]
      · have w1 : w32 (i - 1) = i - 1 := w32_id (by unfold mm_r32; omega)
        have w2 : w32 (i + -1) = i - 1 := by
          rw [w32_id (by unfold mm_r32; omega)]
          omega
        obtain ⟨y, y1, y2, y3⟩ := ih (i - 1) (mUp x 68 i (x 68 (i - 1))) (by omega) (by omega) (by omega) (fun c hc => by rw [mUp_ne hc, x1 c hc]) (fun j hj => by rw [mUp_nei (by omega)]; exact x2 j (by omega)) (fun j j0 j1 => by
          by_cases z : j = i
          · rw [z, mUp_self, x2 (i - 1) (by omega)]
          · rw [mUp_nei z]
            exact x3 j (by omega) j1)
        refine ⟨y, ?_, y2, y3⟩
        rw [X10_putFirst_9, if_neg (by omega), w1, w2, if_pos (by omega), if_pos (by omega)]
        exact y1
  obtain ⟨y, y1, y2, y3⟩ := L 6 k f k0 (by omega) (by omega) (fun _ _ => rfl) (fun _ _ => rfl) (fun j j0 j1 => by omega)
  have e35 : y 47 35 = f 47 35 := by rw [y2 47 (by decide)]
  have e12 : y 47 12 = f 47 12 := by rw [y2 47 (by decide)]
  have hvF : ∀ j : Int, 0 ≤ j → j < f 47 35 → 0 < eF (f 68) k j ∧ eF (f 68) k j < 7 := fun j j0 j1 => eF_in k0 k1 hv j0 j1
  obtain ⟨g, a1, a2, a3⟩ := s_goB y (by rw [e35]; exact n6) (fun j j0 j1 => by rw [y3 j j0]; exact hvF j j0 (by omega)) (fun i j i0 ij j1 => by rw [y3 i i0, y3 j (by omega)]; exact eF_d k0 k1 hd i0 ij (by omega)) (by rw [e12]; exact h12) (fun i i0 i1 => by rw [y2 48 (by decide), y2 49 (by decide)]; exact hb i i0 i1)
  refine ⟨g, ?_, fun c q1 q2 => by rw [a2 c q2, y2 c q1], fun p p0 p7 => ?_⟩
  · rw [X10_putFirst_c, if_pos (by omega), y1, a1, mm_be0, X10_putFirst_44]
  · rw [a3 p p0 p7, e35, e12]
    refine congrArg (fun v => mm_tH v (f 47 12)) (pB_co (fun a b _ _ _ _ => ?_) (fun i i0 i1 => ?_))
    · unfold rDi
      rw [y2 48 (by decide), y2 49 (by decide)]
    · have := hvF i i0 i1
      exact ⟨y3 i i0, by omega, by omega⟩
