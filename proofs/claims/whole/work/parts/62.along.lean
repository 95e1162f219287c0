/-! a way along posts that are given; the other way, the first told first -/
def fj (e : Int → Int) (p : Int) : Nat → Int
  | 0 => -1
  | n + 1 => if e (n : Int) = p then (n : Int) else fj e p n
theorem fj_s (e : Int → Int) (p : Int) : ∀ n : Nat, (0 ≤ fj e p n ∧ fj e p n < n ∧ e (fj e p n) = p) ∨ (fj e p n = -1 ∧ ∀ j : Int, 0 ≤ j → j < n → ¬ e j = p) := by
  intro n
  induction n with
  | zero => exact Or.inr ⟨rfl, fun j j0 j1 => by omega⟩
  | succ n ih =>
    show (0 ≤ (if e (n : Int) = p then (n : Int) else fj e p n) ∧ (if e (n : Int) = p then (n : Int) else fj e p n) < ((n + 1 : Nat) : Int) ∧ e (if e (n : Int) = p then (n : Int) else fj e p n) = p) ∨ ((if e (n : Int) = p then (n : Int) else fj e p n) = -1 ∧ _)
    by_cases q : e (n : Int) = p
    · rw [if_pos q]
      exact Or.inl ⟨by omega, by omega, q⟩
    · rw [if_neg q]
      rcases ih with ⟨a, b, c⟩ | ⟨a, b⟩
      · exact Or.inl ⟨a, by omega, c⟩
      · refine Or.inr ⟨a, fun j j0 j1 => ?_⟩
        by_cases z : j = n
        · rw [z]
          exact q
        · exact b j j0 (by omega)
/-- minutes behind AT by the way e of n posts -/
def pB (d : Int → Int → Int) (e : Int → Int) (n p : Int) : Int := if p = 0 then 0 else if 0 ≤ fj e p n.toNat then ar d e (fj e p n.toNat) else 1000000
theorem pB0 (d : Int → Int → Int) (e : Int → Int) (n : Int) : pB d e n 0 = 0 := rfl
theorem pB_in {d : Int → Int → Int} {e : Int → Int} {n j : Int} (hv : ∀ i : Int, 0 ≤ i → i < n → 0 < e i) (hd : ∀ i k : Int, 0 ≤ i → i < k → k < n → ¬ e i = e k) (j0 : 0 ≤ j) (j1 : j < n) : pB d e n (e j) = ar d e j := by
  have s := fj_s e (e j) n.toNat
  have v := hv j j0 j1
  unfold pB
  rw [if_neg (by omega)]
  rcases s with ⟨a, b, c⟩ | ⟨a, b⟩
  · have : fj e (e j) n.toNat = j := by
      rcases Int.lt_trichotomy (fj e (e j) n.toNat) j with z | z | z
      · exact absurd c (hd _ _ a z j1)
      · exact z
      · exact absurd c.symm (hd _ _ j0 z (by omega))
    rw [this, if_pos j0]
  · exact absurd rfl (b j j0 (by omega))
theorem pB_out {d : Int → Int → Int} {e : Int → Int} {n p : Int} (hp : ¬ p = 0) (h : ∀ i : Int, 0 ≤ i → i < n → ¬ e i = p) : pB d e n p = 1000000 := by
  have s := fj_s e p n.toNat
  unfold pB
  rw [if_neg hp]
  rcases s with ⟨a, b, c⟩ | ⟨a, b⟩
  · exact absurd c (h _ a (by omega))
  · rw [a, if_neg (show ¬ (0 : Int) ≤ -1 by decide)]
theorem pB_ok {d : Int → Int → Int} {e : Int → Int} {n p : Int} (hn : n ≤ 6) (hd : ∀ p q, 0 ≤ p → p < 7 → 0 ≤ q → q < 7 → 0 ≤ d p q ∧ d p q ≤ 198) (he : ∀ i : Int, 0 ≤ i → i < n → 0 < e i ∧ e i < 7) : mm_bok (pB d e n p) := by
  unfold pB
  by_cases q : p = 0
  · rw [if_pos q]
    right
    omega
  · rw [if_neg q]
    by_cases q2 : 0 ≤ fj e p n.toNat
    · rw [if_pos q2]
      right
      rcases fj_s e p n.toNat with ⟨a, b, c⟩ | ⟨a, b⟩
      · have := ar_b hd (e := e) (fj e p n.toNat).toNat (fun i i0 i1 => by have := he i i0 (by omega); omega)
        rw [show (((fj e p n.toNat).toNat : Nat) : Int) = fj e p n.toNat from by omega] at this
        omega
      · omega
    · rw [if_neg q2]
      left
      rfl
theorem pB_co {d d' : Int → Int → Int} {e e' : Int → Int} {n p : Int} (hd : ∀ p q, 0 ≤ p → p < 7 → 0 ≤ q → q < 7 → d p q = d' p q) (he : ∀ i : Int, 0 ≤ i → i < n → e i = e' i ∧ 0 ≤ e' i ∧ e' i < 7) : pB d e n p = pB d' e' n p := by
  have f : ∀ m : Nat, (m : Int) ≤ n → fj e p m = fj e' p m := by
    intro m
    induction m with
    | zero => intro _; rfl
    | succ m ih =>
      intro hm
      show (if e (m : Int) = p then (m : Int) else fj e p m) = if e' (m : Int) = p then (m : Int) else fj e' p m
      rw [ih (by omega), (he m (by omega) (by omega)).1]
  unfold pB
  by_cases hn : 0 ≤ n
  · rw [f n.toNat (by omega)]
    rcases fj_s e' p n.toNat with ⟨a, b, c⟩ | ⟨a, b⟩
    · rw [ar_co a hd (fun i i0 i1 => he i i0 (by omega))]
    · rw [a]
      rfl
  · rw [show n.toNat = 0 from by omega]
    rfl
/-- otherWay lies along e -/
def mm_We (g : mm_M) (e : Int → Int) (n : Int) : Prop := 0 ≤ n ∧ n ≤ 6 ∧ g 5 0 = n ∧ (∀ j : Int, 0 ≤ j → j < n → (0 < e j ∧ e j < 7) ∧ g 26 j = e j ∧ g 27 (e j) = j ∧ g 28 (e j) = ar (wDi g) e j) ∧ ∀ p : Int, 0 ≤ p → p < 7 → (∀ j : Int, 0 ≤ j → j < n → ¬ e j = p) → g 27 p = -1
def mm_ofr (h g : mm_M) : Prop := ∀ c i, c ≠ 26 → c ≠ 27 → c ≠ 28 → ¬ (c = 5 ∧ i = 0) → g c i = h c i
theorem We_d {g : mm_M} {e : Int → Int} {n : Int} (z : mm_We g e n) {i j : Int} (i0 : 0 ≤ i) (ij : i < j) (j1 : j < n) : ¬ e i = e j := fun w => by
  have a := (z.2.2.2.1 i i0 (by omega)).2.2.1
  have b := (z.2.2.2.1 j (by omega) j1).2.2.1
  rw [w] at a
  omega
theorem We_bh {g : mm_M} {e : Int → Int} {n : Int} (z : mm_We g e n) (p : Int) (p0 : 0 ≤ p) (p7 : p < 7) : bh5 g p = pB (wDi g) e n p := by
  unfold bh5
  by_cases q : p = 0
  · rw [if_pos q, q]
    rfl
  · rw [if_neg q]
    by_cases w : ∃ j : Int, 0 ≤ j ∧ j < n ∧ e j = p
    · obtain ⟨j, j0, j1, ej⟩ := w
      obtain ⟨a, b, c, d⟩ := z.2.2.2.1 j j0 j1
      have t := pB_in (d := wDi g) (fun i i0 i1 => (z.2.2.2.1 i i0 i1).1.1) (fun i k i0 ik k1 => We_d z i0 ik k1) j0 j1
      rw [ej] at t c d
      rw [c, if_pos j0, d, t]
    · have w2 : ∀ j : Int, 0 ≤ j → j < n → ¬ e j = p := fun j j0 j1 ej => w ⟨j, j0, j1, ej⟩
      rw [z.2.2.2.2 p p0 p7 w2, pB_out q w2, if_neg (show ¬ (0 : Int) ≤ -1 by decide)]
theorem We_go (g : mm_M) (e : Int → Int) (n : Int) (z : mm_We g e n) (n5 : n < 6) (he : 0 < e n ∧ e n < 7) (hd : ∀ i : Int, 0 ≤ i → i < n → ¬ e i = e n) (hb : ∀ i : Int, 0 ≤ i → i < 14 → 0 ≤ g 11 i ∧ g 11 i ≤ 99) : ∃ g', mm_call mX8_goTo [vR 5, vR 1, vI (e n)] g = some ([], g') ∧ mm_We g' e (n + 1) ∧ mm_ofr g g' := by
  obtain ⟨a1, a2, a3, a4, a5⟩ := id z
  have at0 : wAt5 g = if n = 0 then 0 else e (n - 1) := by
    unfold wAt5
    rw [a3]
    by_cases q : n = 0
    · rw [if_pos q, if_pos q]
    · rw [if_neg q, if_neg q]
      exact (a4 (n - 1) (by omega) (by omega)).2.1
  have of0 : wOff5 g = if n = 0 then 0 else ar (wDi g) e (n - 1) + 1 := by
    unfold wOff5
    rw [at0, a3]
    by_cases q : n = 0
    · rw [if_pos q, if_pos q]
    · rw [if_neg q, if_neg q, if_neg q]
      rw [(a4 (n - 1) (by omega) (by omega)).2.2.2]
  have hvk : wOff5 g + wDi g (wAt5 g) (e n) = ar (wDi g) e n := by
    rw [of0, at0]
    by_cases q : n = 0
    · rw [if_pos q, if_pos q, q, ar0]
      omega
    · rw [if_neg q, if_neg q]
      have := ar1 (wDi g) e (n - 1) (by omega)
      rw [show n - 1 + 1 = n from by omega] at this
      exact this.symm
  have ha : 0 ≤ wAt5 g ∧ wAt5 g < 7 := by
    rw [at0]
    by_cases q : n = 0
    · rw [if_pos q]
      decide
    · rw [if_neg q]
      have := (a4 (n - 1) (by omega) (by omega)).1
      omega
  have ho : 0 ≤ wOff5 g ∧ wOff5 g ≤ 10000 := by
    rw [of0]
    by_cases q : n = 0
    · rw [if_pos q]
      decide
    · rw [if_neg q]
      have := ar_b (d := wDi g) (e := e) (fun p q p0 p1 q0 q1 => wDi_b ⟨p0, p1⟩ ⟨q0, q1⟩ hb) (n - 1).toNat (fun i i0 i1 => by
        have := (a4 i i0 (by omega)).1
        omega)
      rw [show (((n - 1).toNat : Nat) : Int) = n - 1 from by omega] at this
      omega
  have go := c_goTo5 g (e n) (by omega) (by omega) ha ho hb
  rw [hvk, a3] at go
  refine ⟨_, go, ⟨by omega, by omega, rfl, fun j j0 j1 => ?_, fun p p0 p7 pj => ?_⟩, fun c i q1 q2 q3 q4 => ?_⟩
  · show (0 < e j ∧ e j < 7) ∧ (if 26 = 26 ∧ j = n then e n else g 26 j) = e j ∧ (if 27 = 27 ∧ e j = e n then n else g 27 (e j)) = j ∧ (if 28 = 28 ∧ e j = e n then ar (wDi g) e n else g 28 (e j)) = ar (wDi g) e j
    by_cases q : j = n
    · rw [q, if_pos ⟨rfl, rfl⟩, if_pos ⟨rfl, rfl⟩, if_pos ⟨rfl, rfl⟩]
      exact ⟨he, rfl, rfl, rfl⟩
    · have ne := hd j j0 (by omega)
      rw [if_neg (fun w => q w.2), if_neg (fun w => ne w.2), if_neg (fun w => ne w.2)]
      exact a4 j j0 (by omega)
  · show (if 27 = 27 ∧ p = e n then n else g 27 p) = -1
    rw [if_neg (fun w => pj n a1 (by omega) w.2.symm)]
    exact a5 p p0 p7 (fun j j0 j1 => pj j j0 (by omega))
  · rw [mUp_at, if_neg q4, mUp_ne q1, mUp_ne q2, mUp_ne q3]
/-- the k-th ahead of all others -/
def eF (o : Int → Int) (k j : Int) : Int := if j = 0 then o k else if j ≤ k then o (j - 1) else o j
theorem eF_in {o : Int → Int} {k n : Int} (k0 : 0 ≤ k) (k1 : k < n) (hv : ∀ i : Int, 0 ≤ i → i < n → 0 < o i ∧ o i < 7) {j : Int} (j0 : 0 ≤ j) (j1 : j < n) : 0 < eF o k j ∧ eF o k j < 7 := by
  unfold eF
  by_cases q : j = 0
  · rw [if_pos q]
    exact hv k k0 k1
  · rw [if_neg q]
    by_cases q2 : j ≤ k
    · rw [if_pos q2]
      exact hv _ (by omega) (by omega)
    · rw [if_neg q2]
      exact hv _ j0 j1
theorem eF_d {o : Int → Int} {k n : Int} (k0 : 0 ≤ k) (k1 : k < n) (hd : ∀ i j : Int, 0 ≤ i → i < j → j < n → ¬ o i = o j) {i j : Int} (i0 : 0 ≤ i) (ij : i < j) (j1 : j < n) : ¬ eF o k i = eF o k j := by
  have ne : ∀ a b : Int, 0 ≤ a → a < n → 0 ≤ b → b < n → ¬ a = b → ¬ o a = o b := fun a b a0 a1 b0 b1 w => by
    by_cases q : a < b
    · exact hd a b a0 q b1
    · exact fun e => hd b a b0 (by omega) a1 e.symm
  have px : ∀ j : Int, 0 ≤ j → j < n → ∃ a : Int, eF o k j = o a ∧ 0 ≤ a ∧ a < n ∧ ((j = 0 ∧ a = k) ∨ (0 < j ∧ j ≤ k ∧ a = j - 1) ∨ (k < j ∧ a = j)) := fun j j0 j1 => by
    unfold eF
    by_cases q : j = 0
    · rw [if_pos q]
      exact ⟨k, rfl, k0, k1, Or.inl ⟨q, rfl⟩⟩
    · rw [if_neg q]
      by_cases q2 : j ≤ k
      · rw [if_pos q2]
        exact ⟨j - 1, rfl, by omega, by omega, Or.inr (Or.inl ⟨by omega, q2, rfl⟩)⟩
      · rw [if_neg q2]
        exact ⟨j, rfl, j0, j1, Or.inr (Or.inr ⟨by omega, rfl⟩)⟩
  obtain ⟨a, a1, a2, a3, a4⟩ := px i i0 (by omega)
  obtain ⟨b, b1, b2, b3, b4⟩ := px j (by omega) j1
  rw [a1, b1]
  exact ne a b a2 a3 b2 b3 (by omega)
theorem c_twf (g : mm_M) (k : Int) (W : mm_WG g) (n7 : g 1 1 ≤ 7) (hb : ∀ i : Int, 0 ≤ i → i < 14 → 0 ≤ g 11 i ∧ g 11 i ≤ 99) (k0 : 0 ≤ k) (k1 : k < g 4 0) : ∃ g', mm_call mX8_takeWithFirst [vR 5, vR 1, vR 4, vI k] g = some ([], g') ∧ mm_We g' (eF (g 23) k) (g 4 0) ∧ mm_ofr g g' := by
  have W6 := W.2.1
  have hv : ∀ i : Int, 0 ≤ i → i < g 4 0 → 0 < g 23 i ∧ g 23 i < 7 := fun i i0 i1 => by
    have := (W.2.2.1 i i0 i1).1
    omega
  have hd : ∀ i j : Int, 0 ≤ i → i < j → j < g 4 0 → ¬ g 23 i = g 23 j := fun i j i0 ij j1 => WG_d W i0 ij j1
  obtain ⟨g0, a1, a2, a3, a4⟩ := c_clear5 g
  have f0 : mm_ofr g g0 := fun c i q1 q2 q3 q4 => a2 c i q2 q4
  have ofr_tr : ∀ {a b c : mm_M}, mm_ofr a b → mm_ofr b c → mm_ofr a c := fun x y c i q1 q2 q3 q4 => (y c i q1 q2 q3 q4).trans (x c i q1 q2 q3 q4)
  have z0 : mm_We g0 (eF (g 23) k) 0 := ⟨by omega, by omega, a3, fun j j0 j1 => by omega, fun p p0 p7 _ => a4 p p0 p7⟩
  have sam : ∀ {x : mm_M}, mm_ofr g x → (x 4 0 = g 4 0 ∧ (∀ i, x 23 i = g 23 i) ∧ ∀ i, x 11 i = g 11 i) := fun hx => ⟨hx 4 0 (by decide) (by decide) (by decide) (by omega), fun i => hx 23 i (by decide) (by decide) (by decide) (by omega), fun i => hx 11 i (by decide) (by decide) (by decide) (by omega)⟩
  have step : ∀ (x : mm_M) (n : Int), mm_We x (eF (g 23) k) n → mm_ofr g x → n < g 4 0 → ∃ y, mm_call mX8_goTo [vR 5, vR 1, vI (eF (g 23) k n)] x = some ([], y) ∧ mm_We y (eF (g 23) k) (n + 1) ∧ mm_ofr g y := fun x n hx fx n1 => by
    obtain ⟨y, y1, y2, y3⟩ := We_go x _ n hx (by omega) (eF_in k0 k1 hv hx.1 n1) (fun i i0 i1 => eF_d k0 k1 hd i0 i1 n1) (fun i i0 i1 => by rw [(sam fx).2.2]; exact hb i i0 i1)
    exact ⟨y, y1, y2, ofr_tr fx y3⟩
  obtain ⟨g1, b1, b2, b3⟩ := step g0 0 z0 f0 (by omega)
  have e0 : eF (g 23) k 0 = g 23 k := if_pos rfl
  rw [e0] at b1
  have L : ∀ (m : Nat) (i : Int) (x : mm_M), 0 ≤ i → i ≤ g 4 0 → g 4 0 - i ≤ m → mm_We x (eF (g 23) k) (if i ≤ k then i + 1 else i) → mm_ofr g x → ∃ g', mm_ev mX8_takeWithFirst 4 18 [some (vR 5), some (vR 1), some (vR 4), some (vI k), some (vI i)] [] x = some ([], g') ∧ mm_We g' (eF (g 23) k) (g 4 0) ∧ mm_ofr g g' := by
    intro m
    induction m with
    | zero =>
      intro i x i0 i1 im hx fx
      refine ⟨x, ?_, ?_, fx⟩
      · rw [X8b_takeWithFirst_18, if_pos (by rw [(sam fx).1]; omega)]
      · rw [if_neg (by omega), show i = g 4 0 from by omega] at hx
        exact hx
    | succ m ih =>
      intro i x i0 i1 im hx fx
      by_cases q : g 4 0 ≤ i
      · refine ⟨x, ?_, ?_, fx⟩
        · rw [X8b_takeWithFirst_18, if_pos (by rw [(sam fx).1]; omega)]
        · rw [if_neg (by omega), show i = g 4 0 from by omega] at hx
          exact hx
      · have w4 : w32 (i + 1) = i + 1 := w32_id (by unfold mm_r32; omega)
        rw [X8b_takeWithFirst_18, if_neg (by rw [(sam fx).1]; omega)]
        by_cases q2 : i = k
        · rw [if_pos q2, X8b_takeWithFirst_45, w4]
          refine ih (i + 1) x (by omega) (by omega) (by omega) ?_ fx
          rw [if_pos (by omega)] at hx
          rw [if_neg (by omega)]
          exact hx
        · have en : eF (g 23) k (if i ≤ k then i + 1 else i) = g 23 i := by
            unfold eF
            by_cases q3 : i ≤ k
            · rw [if_pos q3, if_neg (by omega), if_pos (by omega), show i + 1 - 1 = i from by omega]
            · rw [if_neg q3, if_neg (by omega), if_neg (by omega)]
          obtain ⟨y, y1, y2, y3⟩ := step x _ hx fx (by split <;> omega)
          rw [en] at y1
          rw [if_neg q2, if_pos (by omega), (sam fx).2.1, y1, mm_be0, X8b_takeWithFirst_45, w4]
          refine ih (i + 1) y (by omega) (by omega) (by omega) ?_ y3
          by_cases q3 : i ≤ k
          · rw [if_pos q3] at y2
            rw [if_pos (by omega)]
            exact y2
          · rw [if_neg q3] at y2
            rw [if_neg (by omega)]
            exact y2
  obtain ⟨g', c1, c2, c3⟩ := L 6 0 g1 (by omega) (by omega) (by omega) (by rw [if_pos k0]; exact b2) b3
  refine ⟨g', ?_, c2, c3⟩
  rw [X8b_takeWithFirst_c, a1, mm_be0, X8b_takeWithFirst_4, if_pos (by omega), (sam f0).2.1, b1, mm_be0, X8b_takeWithFirst_15]
  exact c1
