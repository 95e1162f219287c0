/-! twice: the pair -/
theorem tb_sub : ∀ (u m : Fin 128), (iAnd (u.val : Int) (iXor (m.val : Int) (-1)) = 0) ↔ (∀ q : Fin 7, iAnd (iShr (u.val : Int) (q.val : Int)) 1 = 1 → iAnd (iShr (m.val : Int) (q.val : Int)) 1 = 1) := by decide +kernel
theorem tb_subs {u m : Int} (hu : 0 ≤ u ∧ u < 128) (hm : 0 ≤ m ∧ m < 128) : iAnd u (iXor m (-1)) = 0 ↔ ∀ q : Int, 0 ≤ q → q < 7 → tb u q = 1 → tb m q = 1 := by
  have t := tb_sub ⟨u.toNat, by omega⟩ ⟨m.toNat, by omega⟩
  have eu : ((u.toNat : Nat) : Int) = u := by omega
  have em : ((m.toNat : Nat) : Int) = m := by omega
  simp only [eu, em] at t
  rw [t]
  constructor
  · intro w q q0 q7 h
    have := w ⟨q.toNat, by omega⟩
    have eq' : ((q.toNat : Nat) : Int) = q := by omega
    simp only [eq'] at this
    exact this h
  · intro w q h
    exact w q.val (by omega) (by omega) h
theorem tb_lt : ∀ (u : Fin 128) (n : Fin 8), (∀ q : Fin 7, n.val ≤ q.val → iAnd (iShr (u.val : Int) (q.val : Int)) 1 = 0) → (u.val : Int) < iShl 1 (n.val : Int) := by decide +kernel
theorem tb_lts {u n : Int} (hu : 0 ≤ u ∧ u < 128) (hn : 0 ≤ n ∧ n ≤ 7) (h : ∀ q : Int, n ≤ q → q < 7 → tb u q = 0) : u < iShl 1 n := by
  have t := tb_lt ⟨u.toNat, by omega⟩ ⟨n.toNat, by omega⟩
  have eu : ((u.toNat : Nat) : Int) = u := by omega
  have en : ((n.toNat : Nat) : Int) = n := by omega
  simp only [eu, en] at t
  exact t (fun q hq => h q.val (by have := hq; omega) (by omega))
abbrev mm_cd (mk due u : Int) : Prop := iAnd u (iXor mk (-1)) = 0 ∧ bcE u = due
def bsS (mk due : Int) (V : Int → Int) : Nat → Int
  | 0 => -1
  | k + 1 => if mm_cd mk due (k : Int) ∧ (bsS mk due V k < 0 ∨ V (bsS mk due V k) < V (k : Int)) then (k : Int) else bsS mk due V k
theorem bsS_s (mk due : Int) (V : Int → Int) {k : Int} (k0 : 0 ≤ k) : bsS mk due V (k + 1).toNat = if mm_cd mk due k ∧ (bsS mk due V k.toNat < 0 ∨ V (bsS mk due V k.toNat) < V k) then k else bsS mk due V k.toNat := by
  rw [show (k + 1).toNat = k.toNat + 1 from by omega]
  show (if mm_cd mk due (k.toNat : Int) ∧ (bsS mk due V k.toNat < 0 ∨ V (bsS mk due V k.toNat) < V (k.toNat : Int)) then (k.toNat : Int) else bsS mk due V k.toNat) = _
  rw [show (k.toNat : Int) = k from by omega]
theorem bsS_b (mk due : Int) (V : Int → Int) : ∀ n : Nat, bsS mk due V n = -1 ∨ (0 ≤ bsS mk due V n ∧ bsS mk due V n < n) := by
  intro n
  induction n with
  | zero => exact Or.inl rfl
  | succ n ih =>
    have e : bsS mk due V (n + 1) = if mm_cd mk due (n : Int) ∧ (bsS mk due V n < 0 ∨ V (bsS mk due V n) < V (n : Int)) then (n : Int) else bsS mk due V n := rfl
    rw [e]
    split
    · right
      omega
    · rcases ih with w | w
      · exact Or.inl w
      · exact Or.inr ⟨w.1, by omega⟩
/-- behind a place with no more candidates nothing changes -/
theorem bsS_up (mk due : Int) (V : Int → Int) (N : Nat) : ∀ k : Nat, (∀ u : Int, (N : Int) ≤ u → u < N + k → ¬ mm_cd mk due u) → bsS mk due V (N + k) = bsS mk due V N := by
  intro k
  induction k with
  | zero => intro _; rfl
  | succ k ih =>
    intro h
    have e : bsS mk due V (N + k + 1) = if mm_cd mk due ((N + k : Nat) : Int) ∧ (bsS mk due V (N + k) < 0 ∨ V (bsS mk due V (N + k)) < V ((N + k : Nat) : Int)) then ((N + k : Nat) : Int) else bsS mk due V (N + k) := rfl
    rw [show N + (k + 1) = N + k + 1 from rfl, e, if_neg (fun w => h ((N + k : Nat) : Int) (by omega) (by omega) w.1)]
    exact ih (fun u u0 u1 => h u u0 (by omega))
/-- the route's posts as bits -/
def mkN (e : Int → Int) : Nat → Int
  | 0 => 0
  | j + 1 => iOr (mkN e j) (iShl 1 (e (j : Int)))
theorem mkN_b {e : Int → Int} {n : Int} (he : ∀ j : Int, 0 ≤ j → j < n → 0 ≤ e j ∧ e j < 7) : ∀ j : Nat, (j : Int) ≤ n → (0 ≤ mkN e j ∧ mkN e j < 128) ∧ ∀ q : Int, 0 ≤ q → q < 7 → (tb (mkN e j) q = 1 ↔ ∃ i : Int, 0 ≤ i ∧ i < j ∧ e i = q) := by
  intro j
  induction j with
  | zero =>
    intro _
    refine ⟨⟨Int.le_refl _, by show (0 : Int) < 128; decide⟩, fun q q0 q7 => ?_⟩
    show tb 0 q = 1 ↔ _
    rw [tb_0 ⟨q0, q7⟩]
    constructor
    · intro w; omega
    · intro ⟨i, i0, i1, _⟩; omega
  | succ j ih =>
    intro hj
    obtain ⟨a, b⟩ := ih (by omega)
    have ej := he j (by omega) (by omega)
    show (0 ≤ iOr (mkN e j) (iShl 1 (e (j : Int))) ∧ iOr (mkN e j) (iShl 1 (e (j : Int))) < 128) ∧ ∀ q : Int, 0 ≤ q → q < 7 → (tb (iOr (mkN e j) (iShl 1 (e (j : Int)))) q = 1 ↔ _)
    refine ⟨(tb_s (q := e (j : Int)) a ej ej).2.1, fun q q0 q7 => ?_⟩
    rw [(tb_s (q := q) a ej ⟨q0, q7⟩).1]
    by_cases z : q = e (j : Int)
    · rw [if_pos z]
      exact ⟨fun _ => ⟨j, by omega, by omega, z.symm⟩, fun _ => rfl⟩
    · rw [if_neg z, b q q0 q7]
      constructor
      · intro ⟨i, i0, i1, ei⟩
        exact ⟨i, i0, by omega, ei⟩
      · intro ⟨i, i0, i1, ei⟩
        by_cases ij : i = j
        · rw [ij] at ei
          exact absurd ei.symm z
        · exact ⟨i, i0, by omega, ei⟩
def tV (h : mm_M) (w : Int) (e : Int → Int) (n u : Int) : Int := prN (vRt h w e u) n.toNat
theorem c_best (h x : mm_M) (w : Int) (e : Int → Int) (n due : Int) (wt : mm_wt h x w e n) (n0 : 0 ≤ n ∧ n ≤ 6) (x4 : x 4 0 = n) (x23 : ∀ j : Int, 0 ≤ j → j < n → x 23 j = e j ∧ 0 ≤ e j ∧ e j < 7) : mm_call mX1_bestSet [vR 6, vR 4, vI due] x = some ([vI (if bsS (mkN e n.toNat) due (tV h w e n) 128 < 0 then 0 else bsS (mkN e n.toNat) due (tV h w e n) 128)], x) := by
  have L1 : ∀ (c : Nat) (k : Int), 0 ≤ k → k ≤ n → n - k ≤ c → mm_ev mX1_bestSet 3 5 [some (vR 6), some (vR 4), some (vI due), some (vI (mkN e k.toNat)), some (vI k), none, none, none] [] x = mm_ev mX1_bestSet 3 43 [some (vR 6), some (vR 4), some (vI due), some (vI (mkN e n.toNat)), some (vI 0), some (vL (-1)), none, some (vI 0)] [] x := by
    intro c
    induction c with
    | zero =>
      intro k k0 k1 kc
      rw [X1_bestSet_5, x4, if_pos (by omega), show k = n from by omega]
    | succ c ih =>
      intro k k0 k1 kc
      by_cases q : n ≤ k
      · rw [X1_bestSet_5, x4, if_pos q, show k = n from by omega]
      · have w4 : w32 (k + 1) = k + 1 := w32_id (by unfold mm_r32; omega)
        have e1 : iOr (mkN e k.toNat) (iShl 1 (e k)) = mkN e (k + 1).toNat := by
          rw [show (k + 1).toNat = k.toNat + 1 from by omega]
          show _ = iOr (mkN e k.toNat) (iShl 1 (e (k.toNat : Int)))
          rw [show (k.toNat : Int) = k from by omega]
        rw [X1_bestSet_5, x4, if_neg q, if_pos (by omega), (x23 k k0 (by omega)).1, e1, w4]
        exact ih (k + 1) (by omega) (by omega) (by omega)
  have L2 : ∀ (c : Nat) (k a b : Int), 0 ≤ k → k ≤ 128 → 128 - k ≤ c → (a = if bsS (mkN e n.toNat) due (tV h w e n) k.toNat < 0 then 0 else bsS (mkN e n.toNat) due (tV h w e n) k.toNat) → (b = if bsS (mkN e n.toNat) due (tV h w e n) k.toNat < 0 then -1 else tV h w e n (bsS (mkN e n.toNat) due (tV h w e n) k.toNat)) → mm_ev mX1_bestSet 3 43 [some (vR 6), some (vR 4), some (vI due), some (vI (mkN e n.toNat)), some (vI a), some (vL b), none, some (vI k)] [] x = some ([vI (if bsS (mkN e n.toNat) due (tV h w e n) 128 < 0 then 0 else bsS (mkN e n.toNat) due (tV h w e n) 128)], x) := by
    intro c
    induction c with
    | zero =>
      intro k a b k0 k1 kc ha hb
      have : k = 128 := by omega
      subst this
      rw [X1_bestSet_43, if_pos (by decide), ha]
      rfl
    | succ c ih =>
      intro k a b k0 k1 kc ha hb
      by_cases q : k = 128
      · subst q
        rw [X1_bestSet_43, if_pos (by decide), ha]
        rfl
      · have w4 : w32 (k + 1) = k + 1 := w32_id (by unfold mm_r32; omega)
        have sb := bsS_s (mkN e n.toNat) due (tV h w e n) k0
        have vb : 0 ≤ tV h w e n k := (prN_6 (A := vRt h w e k) n.toNat (by omega) (fun i i0 i1 => vRt_b _ _ _ _ _)).1
        have oA : mm_call mX1_ofAll [vR 6, vR 4, vI k] x = some ([vL (tV h w e n k)], x) := c_ofAll h x w e n k wt n0 x4 x23
        have nxt : ¬ (mm_cd (mkN e n.toNat) due k ∧ (bsS (mkN e n.toNat) due (tV h w e n) k.toNat < 0 ∨ tV h w e n (bsS (mkN e n.toNat) due (tV h w e n) k.toNat) < tV h w e n k)) → mm_ev mX1_bestSet 3 43 [some (vR 6), some (vR 4), some (vI due), some (vI (mkN e n.toNat)), some (vI a), some (vL b), none, some (vI (k + 1))] [] x = some ([vI (if bsS (mkN e n.toNat) due (tV h w e n) 128 < 0 then 0 else bsS (mkN e n.toNat) due (tV h w e n) 128)], x) := fun no => by
          rw [if_neg no] at sb
          exact ih (k + 1) a b (by omega) (by omega) (by omega) (by rw [sb]; exact ha) (by rw [sb]; exact hb)
        rw [X1_bestSet_43, if_neg (by omega), w4]
        by_cases q1 : iAnd k (iXor (mkN e n.toNat) (-1)) = 0
        · rw [if_neg (fun w => w q1), c_bitCount, mm_be1, X1_bestSet_65, w4]
          by_cases q2 : bcE k = due
          · rw [if_neg (fun w => w q2), oA, mm_be1, X1_bestSet_76, w4]
            by_cases q3 : tV h w e n k ≤ b
            · rw [if_pos (lCmp_le.2 q3)]
              refine nxt (fun w => ?_)
              by_cases z : bsS (mkN e n.toNat) due (tV h w e n) k.toNat < 0
              · rw [if_pos z] at hb
                omega
              · rw [if_neg z] at hb
                omega
            · have ps : mm_cd (mkN e n.toNat) due k ∧ (bsS (mkN e n.toNat) due (tV h w e n) k.toNat < 0 ∨ tV h w e n (bsS (mkN e n.toNat) due (tV h w e n) k.toNat) < tV h w e n k) := by
                refine ⟨⟨q1, q2⟩, ?_⟩
                by_cases z : bsS (mkN e n.toNat) due (tV h w e n) k.toNat < 0
                · exact Or.inl z
                · rw [if_neg z] at hb
                  right
                  omega
              rw [if_pos ps] at sb
              rw [if_neg (fun w => q3 (lCmp_le.1 w)), oA, mm_be1, X1_bestSet_89, w4]
              exact ih (k + 1) _ _ (by omega) (by omega) (by omega) (by rw [sb, if_neg (by omega)]) (by rw [sb, if_neg (by omega)])
          · rw [if_pos q2]
            exact nxt (fun w => q2 w.1.2)
        · rw [if_pos q1]
          exact nxt (fun w => q1 w.1.1)
  rw [X1_bestSet_c]
  have t := L1 6 0 (by decide) n0.1 (by omega)
  exact t.trans (L2 128 0 0 (-1) (by decide) (by decide) (by decide) rfl rfl)
/-- how many the reference counts of a set -/
def rmN (e : Int → Int) (n u : Int) : Nat → Int
  | 0 => 0
  | p + 1 => rmN e n u p + if tb u (p : Int) = 1 then (if 0 ≤ fj e (p : Int) n.toNat then 1 else 8) else 0
theorem rm_cd {e : Int → Int} {n u due P : Int} (hu : 0 ≤ u ∧ u < 128) (n0 : 0 ≤ n ∧ n ≤ 6) (hP : P ≤ 7) (P0 : 0 ≤ P) (hd6 : due ≤ 6) (he : ∀ j : Int, 0 ≤ j → j < n → 0 ≤ e j ∧ e j < P) (hz : ∀ q : Int, P ≤ q → q < 7 → tb u q = 0) : rmN e n u P.toNat = due ↔ mm_cd (mkN e n.toNat) due u := by
  have mb := mkN_b (e := e) (n := n) (fun j j0 j1 => by have := he j j0 j1; omega) n.toNat (by omega)
  have inR : ∀ p : Int, 0 ≤ fj e p n.toNat ↔ ∃ i : Int, 0 ≤ i ∧ i < n ∧ e i = p := fun p => by
    rcases fj_s e p n.toNat with ⟨a, b, c⟩ | ⟨a, b⟩
    · exact ⟨fun _ => ⟨_, a, by omega, c⟩, fun _ => a⟩
    · constructor
      · intro w; omega
      · intro ⟨i, i0, i1, ei⟩
        exact absurd ei (b i i0 (by omega))
  have t01 : ∀ q : Int, 0 ≤ q → q < 7 → tb u q = 0 ∨ tb u q = 1 := fun q q0 q7 => (tb_s (p := q) hu ⟨q0, q7⟩ ⟨q0, q7⟩).2.2
  -- the partial sums
  have low : ∀ p : Nat, (p : Int) ≤ P → 0 ≤ rmN e n u p ∧ ((∃ q : Int, 0 ≤ q ∧ q < p ∧ tb u q = 1 ∧ ¬ 0 ≤ fj e q n.toNat) → 8 ≤ rmN e n u p) := by
    intro p
    induction p with
    | zero => intro _; exact ⟨Int.le_refl _, fun ⟨q, q0, q1, _⟩ => by omega⟩
    | succ p ih =>
      intro hp
      obtain ⟨a, b⟩ := ih (by omega)
      have e1 : rmN e n u (p + 1) = rmN e n u p + if tb u (p : Int) = 1 then (if 0 ≤ fj e (p : Int) n.toNat then 1 else 8) else 0 := rfl
      refine ⟨by rw [e1]; split <;> (try split) <;> omega, fun ⟨q, q0, q1, q2, q3⟩ => ?_⟩
      by_cases qp : q = p
      · rw [qp] at q2 q3
        rw [e1, if_pos q2, if_neg q3]
        omega
      · have := b ⟨q, q0, by omega, q2, q3⟩
        rw [e1]
        split <;> (try split) <;> omega
  have all : (∀ q : Int, 0 ≤ q → q < P → tb u q = 1 → 0 ≤ fj e q n.toNat) → rmN e n u P.toNat = bcS u := fun A => by
    have st : ∀ p : Nat, (p : Int) < P → rmN e n u (p + 1) = rmN e n u p + tb u p := fun p hp => by
      show rmN e n u p + (if tb u (p : Int) = 1 then (if 0 ≤ fj e (p : Int) n.toNat then 1 else 8) else 0) = _
      rcases t01 p (by omega) (by omega) with t | t
      · rw [if_neg (by omega), t]
      · rw [if_pos t, if_pos (A p (by omega) hp t), t]
    have z0 : rmN e n u 0 = 0 := rfl
    have PP : P = 0 ∨ P = 1 ∨ P = 2 ∨ P = 3 ∨ P = 4 ∨ P = 5 ∨ P = 6 ∨ P = 7 := by omega
    have zz : ∀ q : Int, P ≤ q → q < 7 → tb u q = 0 := hz
    unfold bcS
    rcases PP with h | h | h | h | h | h | h | h
    · subst h
      show rmN e n u 0 = _
      rw [zz 0 (by decide) (by decide), zz 1 (by decide) (by decide), zz 2 (by decide) (by decide), zz 3 (by decide) (by decide), zz 4 (by decide) (by decide), zz 5 (by decide) (by decide), zz 6 (by decide) (by decide), z0]
      rfl
    · subst h
      show rmN e n u 1 = _
      have s0 := st 0 (by decide)
      rw [zz 1 (by decide) (by decide), zz 2 (by decide) (by decide), zz 3 (by decide) (by decide), zz 4 (by decide) (by decide), zz 5 (by decide) (by decide), zz 6 (by decide) (by decide)]
      simp only [Nat.cast_zero, Nat.zero_add] at s0
      rw [s0, z0]
      simp
    · sorry
    · sorry
    · sorry
    · sorry
    · sorry
    · sorry
  rw [tb_subs hu mb.1]
  sorry
