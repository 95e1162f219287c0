/-! the reference goes a route -/
def rDi (h : mm_M) (p q : Int) : Int := dd (h 48 p) (h 48 q) + dd (h 49 p) (h 49 q)
def gvN (h : mm_M) (s : Int) : Nat → Int
  | 0 => h 47 12 + rDi h 0 (qE h s 0)
  | j + 1 => gvN h s j + 1 + rDi h (qE h s (j : Int)) (qE h s ((j : Int) + 1))
def gv (h : mm_M) (s j : Int) : Int := gvN h s j.toNat
theorem gv1 (h : mm_M) (s j : Int) (z : 0 ≤ j) : gv h s (j + 1) = gv h s j + 1 + rDi h (qE h s j) (qE h s (j + 1)) := by
  unfold gv
  have e : (j + 1).toNat = j.toNat + 1 := by omega
  have e2 : (j.toNat : Int) = j := by omega
  rw [e]
  show gvN h s j.toNat + 1 + rDi h (qE h s (j.toNat : Int)) (qE h s ((j.toNat : Int) + 1)) = _
  rw [e2]
theorem L_go1 : ∀ (m : Nat) (k : Int) (g : mm_M), 0 ≤ k → 7 - k ≤ m → ∃ g', mm_ev mX10_goRoute 3 2 [some (vR 47), some (vI k), none, none] [] g = mm_ev mX10_goRoute 3 41 [some (vR 47), some (vI (g 47 12)), some (vI 0), some (vI 0)] [] g' ∧ (∀ c, c ≠ 69 → g' c = g c) ∧ g' 69 0 = g 47 12 ∧ (∀ p, k ≤ p → p < 7 → ¬ p = 0 → g' 69 p = -2) ∧ ∀ p, p < k → ¬ p = 0 → g' 69 p = g 69 p := by
  intro m
  induction m with
  | zero =>
    intro k g k0 hm
    refine ⟨mUp g 69 0 (g 47 12), ?_, fun c hc => mUp_ne hc, mUp_self _ _ _ _, fun p a b => by omega, fun p a b => mUp_nei b⟩
    rw [X10_goRoute_2, if_pos (by omega), if_pos (by decide)]
    rfl
  | succ m ih =>
    intro k g k0 hm
    by_cases z : 7 ≤ k
    · refine ⟨mUp g 69 0 (g 47 12), ?_, fun c hc => mUp_ne hc, mUp_self _ _ _ _, fun p a b => by omega, fun p a b => mUp_nei b⟩
      rw [X10_goRoute_2, if_pos z, if_pos (by decide)]
      rfl
    · have w4 : w32 (k + 1) = k + 1 := w32_id (by unfold mm_r32; omega)
      obtain ⟨g', e1, e2, e3, e4, e5⟩ := ih (k + 1) (mUp g 69 k (-2)) (by omega) (by omega)
      refine ⟨g', ?_, fun c hc => ?_, e3, fun p a b c => ?_, fun p a b => ?_⟩
      · rw [X10_goRoute_2, if_neg z, if_pos (by omega), w4]
        exact e1
      · rw [e2 c hc, mUp_ne hc]
      · by_cases q : p = k
        · rw [e5 p (by omega) c, q, mUp_self]
        · exact e4 p (by omega) b c
      · rw [e5 p (by omega) b, mUp_nei (by omega)]
def mm_HR (h g : mm_M) (s n : Int) : Prop := g 69 0 = h 47 12 ∧ (∀ j : Int, 0 ≤ j → j < n → g 69 (qE h s j) = gv h s j) ∧ ∀ p : Int, 1 ≤ p → p < 7 → (∀ j : Int, 0 ≤ j → j < n → ¬ qE h s j = p) → g 69 p = -2
theorem rDi_b {h : mm_M} {p q : Int} (hp : 0 ≤ p ∧ p < 7) (hq : 0 ≤ q ∧ q < 7) (hb : ∀ i : Int, 0 ≤ i → i < 7 → (0 ≤ h 48 i ∧ h 48 i ≤ 99) ∧ 0 ≤ h 49 i ∧ h 49 i ≤ 99) : 0 ≤ rDi h p q ∧ rDi h p q ≤ 198 := by
  obtain ⟨a1, a2, a3, a4⟩ := dd_w (hb p hp.1 hp.2).1 (hb q hq.1 hq.2).1
  obtain ⟨b1, b2, b3, b4⟩ := dd_w (hb p hp.1 hp.2).2 (hb q hq.1 hq.2).2
  unfold rDi
  omega
theorem L_go2 (h : mm_M) (s n : Int) (n6 : n ≤ 6) (p7 : h 47 1 ≤ 7) (hV : ∀ j : Int, 0 ≤ j → j < n → qV h s j) (hb : ∀ i : Int, 0 ≤ i → i < 7 → (0 ≤ h 48 i ∧ h 48 i ≤ 99) ∧ 0 ≤ h 49 i ∧ h 49 i ≤ 99) : ∀ (m : Nat) (k a b : Int) (g : mm_M), 0 ≤ k → k ≤ n → n - k ≤ m → g 47 35 = n → (∀ j : Int, 0 ≤ j → j < n → g 68 j = qE h s j) → (∀ i, g 48 i = h 48 i ∧ g 49 i = h 49 i) → mm_HR h g s k → (0 ≤ b ∧ b < 7) → (0 ≤ a ∧ a ≤ 999 + 199 * k) → (k < n → gv h s k = a + rDi h b (qE h s k)) → ∃ g', mm_ev mX10_goRoute 3 41 [some (vR 47), some (vI a), some (vI b), some (vI k)] [] g = some ([], g') ∧ (∀ c, c ≠ 69 → g' c = g c) ∧ mm_HR h g' s n := by
  intro m
  induction m with
  | zero =>
    intro k a b g k0 kn hm g35 g68 g48 hH hb7 ha hg
    have e : k = n := by omega
    subst e
    refine ⟨g, ?_, fun _ _ => rfl, hH⟩
    rw [X10_goRoute_41, g35, if_pos (Int.le_refl _)]
  | succ m ih =>
    intro k a b g k0 kn hm g35 g68 g48 hH hb7 ha hg
    by_cases z : n ≤ k
    · have e : k = n := by omega
      subst e
      refine ⟨g, ?_, fun _ _ => rfl, hH⟩
      rw [X10_goRoute_41, g35, if_pos z]
    · obtain ⟨⟨v1, v2⟩, v3⟩ := hV k k0 (by omega)
      have q7 : 0 ≤ qE h s k ∧ qE h s k < 7 := by omega
      have db := rDi_b (h := h) hb7 q7 hb
      have gd : rDi g b (qE h s k) = rDi h b (qE h s k) := by
        unfold rDi
        rw [(g48 b).1, (g48 b).2, (g48 (qE h s k)).1, (g48 (qE h s k)).2]
      have ds := s_distance g b (qE h s k) hb7 q7 (fun i i0 i1 => by rw [(g48 i).1, (g48 i).2]; exact hb i i0 i1)
      have ds2 : mm_call mX10_distance [vR 47, vI b, vI (qE h s k)] g = some ([vI (rDi h b (qE h s k))], g) := by rw [← gd]; exact ds
      have w1 : w32 (a + rDi h b (qE h s k)) = a + rDi h b (qE h s k) := w32_id (by unfold mm_r32; omega)
      have w2 : w32 (a + rDi h b (qE h s k) + 1) = a + rDi h b (qE h s k) + 1 := w32_id (by unfold mm_r32; omega)
      have w4 : w32 (k + 1) = k + 1 := w32_id (by unfold mm_r32; omega)
      have gk := hg (by omega)
      obtain ⟨h1, h2, h3⟩ := hH
      obtain ⟨g', e1, e2, e3⟩ := ih (k + 1) (a + rDi h b (qE h s k) + 1) (qE h s k) (mUp g 69 (qE h s k) (a + rDi h b (qE h s k))) (by omega) (by omega) (by omega) g35 g68 g48 (by
        refine ⟨?_, fun j j0 j1 => ?_, fun p p1 p2 pj => ?_⟩
        · rw [mUp_nei (by omega)]
          exact h1
        · by_cases q : j = k
          · rw [q, mUp_self, gk]
          · rw [mUp_nei (v3 j j0 (by omega))]
            exact h2 j j0 (by omega)
        · rw [mUp_nei (fun w => pj k k0 (by omega) w.symm)]
          exact h3 p p1 p2 (fun j j0 j1 => pj j j0 (by omega))) q7 (by omega) (fun kn2 => by rw [gv1 h s k k0, gk])
      refine ⟨g', ?_, fun c hc => ?_, e3⟩
      · rw [X10_goRoute_41, g35, if_neg z, if_pos (by omega), g68 k k0 (by omega), ds2, mm_bs]
        refine (X10_goRoute_61 _ _ _ _ _ _).trans ?_
        show (if 0 ≤ k ∧ k < 7 then if 0 ≤ g 68 k ∧ g 68 k < 7 then mm_ev mX10_goRoute 3 41 [some (vR 47), some (vI (w32 (w32 (a + rDi h b (qE h s k)) + 1))), some (vI (g 68 k)), some (vI (w32 (k + 1)))] [] (mUp g 69 (g 68 k) (w32 (a + rDi h b (qE h s k)))) else none else none) = _
        rw [g68 k k0 (by omega), if_pos (by omega), if_pos q7, w1, w2, w4]
        exact e1
      · rw [e2 c hc, mUp_ne hc]
