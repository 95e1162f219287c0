/-! twice: sets as bits -/
theorem tb_sub : ∀ (u m : Fin 128), (iAnd (u.val : Int) (iXor (m.val : Int) (-1)) = 0) ↔ (∀ q : Fin 7, iAnd (iShr (u.val : Int) (q.val : Int)) 1 = 1 → iAnd (iShr (m.val : Int) (q.val : Int)) 1 = 1) := by decide +kernel
theorem tb_subs {u m : Int} (hu : 0 ≤ u ∧ u < 128) (hm : 0 ≤ m ∧ m < 128) : iAnd u (iXor m (-1)) = 0 ↔ ∀ q : Int, 0 ≤ q → q < 7 → tb u q = 1 → tb m q = 1 := by
  have t := tb_sub ⟨u.toNat, by omega⟩ ⟨m.toNat, by omega⟩
  have eu : ((u.toNat : Nat) : Int) = u := by omega
  have em : ((m.toNat : Nat) : Int) = m := by omega
  simp only [eu, em] at t
  rw [t]
  constructor
  · intro w q q0 q7 h
    have := w ⟨q.toNat, by omega⟩
    have eq' : ((q.toNat : Nat) : Int) = q := by omega
    simp only [eq'] at this
    exact this h
  · intro w q h
    exact w q.val (by omega) (by omega) h
theorem tb_lt : ∀ (u : Fin 128) (n : Fin 8), (∀ q : Fin 7, n.val ≤ q.val → iAnd (iShr (u.val : Int) (q.val : Int)) 1 = 0) → (u.val : Int) < iShl 1 (n.val : Int) := by decide +kernel
theorem tb_lts {u n : Int} (hu : 0 ≤ u ∧ u < 128) (hn : 0 ≤ n ∧ n ≤ 7) (h : ∀ q : Int, n ≤ q → q < 7 → tb u q = 0) : u < iShl 1 n := by
  have t := tb_lt ⟨u.toNat, by omega⟩ ⟨n.toNat, by omega⟩
  have eu : ((u.toNat : Nat) : Int) = u := by omega
  have en : ((n.toNat : Nat) : Int) = n := by omega
  simp only [eu, en] at t
  exact t (fun q hq => h q.val (by have := hq; omega) (by omega))
theorem tb_ge : ∀ (u : Fin 128) (n : Fin 8), (u.val : Int) < iShl 1 (n.val : Int) → ∀ q : Fin 7, n.val ≤ q.val → iAnd (iShr (u.val : Int) (q.val : Int)) 1 = 0 := by decide +kernel
theorem tb_ges {u n : Int} (hu : 0 ≤ u ∧ u < 128) (hn : 0 ≤ n ∧ n ≤ 7) (h : u < iShl 1 n) (q : Int) (q0 : n ≤ q) (q7 : q < 7) : tb u q = 0 := by
  have t := tb_ge ⟨u.toNat, by omega⟩ ⟨n.toNat, by omega⟩
  have eu : ((u.toNat : Nat) : Int) = u := by omega
  have en : ((n.toNat : Nat) : Int) = n := by omega
  simp only [eu, en] at t
  have t := t h ⟨q.toNat, by omega⟩ (by show n.toNat ≤ q.toNat; omega)
  have eq' : ((q.toNat : Nat) : Int) = q := by omega
  simp only [eq'] at t
  exact t
abbrev mm_cd (mk due u : Int) : Prop := iAnd u (iXor mk (-1)) = 0 ∧ bcE u = due
def bsS (mk due : Int) (V : Int → Int) : Nat → Int
  | 0 => -1
  | k + 1 => if mm_cd mk due (k : Int) ∧ (bsS mk due V k < 0 ∨ V (bsS mk due V k) < V (k : Int)) then (k : Int) else bsS mk due V k
theorem bsS_s (mk due : Int) (V : Int → Int) {k : Int} (k0 : 0 ≤ k) : bsS mk due V (k + 1).toNat = if mm_cd mk due k ∧ (bsS mk due V k.toNat < 0 ∨ V (bsS mk due V k.toNat) < V k) then k else bsS mk due V k.toNat := by
  rw [show (k + 1).toNat = k.toNat + 1 from by omega]
  show (if mm_cd mk due (k.toNat : Int) ∧ (bsS mk due V k.toNat < 0 ∨ V (bsS mk due V k.toNat) < V (k.toNat : Int)) then (k.toNat : Int) else bsS mk due V k.toNat) = _
  rw [show (k.toNat : Int) = k from by omega]
theorem bsS_b (mk due : Int) (V : Int → Int) : ∀ n : Nat, bsS mk due V n = -1 ∨ (0 ≤ bsS mk due V n ∧ bsS mk due V n < n) := by
  intro n
  induction n with
  | zero => exact Or.inl rfl
  | succ n ih =>
    have e : bsS mk due V (n + 1) = if mm_cd mk due (n : Int) ∧ (bsS mk due V n < 0 ∨ V (bsS mk due V n) < V (n : Int)) then (n : Int) else bsS mk due V n := rfl
    rw [e]
    split
    · right
      omega
    · rcases ih with w | w
      · exact Or.inl w
      · exact Or.inr ⟨w.1, by omega⟩
/-- behind a place with no more candidates nothing changes -/
theorem bsS_up (mk due : Int) (V : Int → Int) (N : Nat) : ∀ k : Nat, (∀ u : Int, (N : Int) ≤ u → u < N + k → ¬ mm_cd mk due u) → bsS mk due V (N + k) = bsS mk due V N := by
  intro k
  induction k with
  | zero => intro _; rfl
  | succ k ih =>
    intro h
    have e : bsS mk due V (N + k + 1) = if mm_cd mk due ((N + k : Nat) : Int) ∧ (bsS mk due V (N + k) < 0 ∨ V (bsS mk due V (N + k)) < V ((N + k : Nat) : Int)) then ((N + k : Nat) : Int) else bsS mk due V (N + k) := rfl
    rw [show N + (k + 1) = N + k + 1 from rfl, e, if_neg (fun w => h ((N + k : Nat) : Int) (by omega) (by omega) w.1)]
    exact ih (fun u u0 u1 => h u u0 (by omega))
/-- the route's posts as bits -/
def mkN (e : Int → Int) : Nat → Int
  | 0 => 0
  | j + 1 => iOr (mkN e j) (iShl 1 (e (j : Int)))
theorem mkN_b {e : Int → Int} {n : Int} (he : ∀ j : Int, 0 ≤ j → j < n → 0 ≤ e j ∧ e j < 7) : ∀ j : Nat, (j : Int) ≤ n → (0 ≤ mkN e j ∧ mkN e j < 128) ∧ ∀ q : Int, 0 ≤ q → q < 7 → (tb (mkN e j) q = 1 ↔ ∃ i : Int, 0 ≤ i ∧ i < j ∧ e i = q) := by
  intro j
  induction j with
  | zero =>
    intro _
    refine ⟨⟨Int.le_refl _, by show (0 : Int) < 128; decide⟩, fun q q0 q7 => ?_⟩
    show tb 0 q = 1 ↔ _
    rw [tb_0 ⟨q0, q7⟩]
    constructor
    · intro w; omega
    · intro ⟨i, i0, i1, _⟩; omega
  | succ j ih =>
    intro hj
    obtain ⟨a, b⟩ := ih (by omega)
    have ej := he j (by omega) (by omega)
    show (0 ≤ iOr (mkN e j) (iShl 1 (e (j : Int))) ∧ iOr (mkN e j) (iShl 1 (e (j : Int))) < 128) ∧ ∀ q : Int, 0 ≤ q → q < 7 → (tb (iOr (mkN e j) (iShl 1 (e (j : Int)))) q = 1 ↔ _)
    refine ⟨(tb_s (q := e (j : Int)) a ej ej).2.1, fun q q0 q7 => ?_⟩
    rw [(tb_s (q := q) a ej ⟨q0, q7⟩).1]
    by_cases z : q = e (j : Int)
    · rw [if_pos z]
      exact ⟨fun _ => ⟨j, by omega, by omega, z.symm⟩, fun _ => rfl⟩
    · rw [if_neg z, b q q0 q7]
      constructor
      · intro ⟨i, i0, i1, ei⟩
        exact ⟨i, i0, by omega, ei⟩
      · intro ⟨i, i0, i1, ei⟩
        by_cases ij : i = j
        · rw [ij] at ei
          exact absurd ei.symm z
        · exact ⟨i, i0, by omega, ei⟩
/-- how many the reference counts of a set -/
def rmN (e : Int → Int) (n u : Int) : Nat → Int
  | 0 => 0
  | p + 1 => rmN e n u p + if tb u (p : Int) = 1 then (if 0 ≤ fj e (p : Int) n.toNat then 1 else 8) else 0
theorem rm_b (e : Int → Int) (n u : Int) : ∀ p : Nat, 0 ≤ rmN e n u p ∧ rmN e n u p ≤ 8 * p := by
  intro p
  induction p with
  | zero => exact ⟨Int.le_refl _, by show (0 : Int) ≤ 8 * 0; decide⟩
  | succ p ih =>
    have e1 : rmN e n u (p + 1) = rmN e n u p + if tb u (p : Int) = 1 then (if 0 ≤ fj e (p : Int) n.toNat then 1 else 8) else 0 := rfl
    rw [e1]
    constructor
    · split <;> (try split) <;> omega
    · split <;> (try split) <;> omega
theorem rm_s (e : Int → Int) (n u : Int) {p : Int} (p0 : 0 ≤ p) : rmN e n u (p + 1).toNat = rmN e n u p.toNat + if tb u p = 1 then (if 0 ≤ fj e p n.toNat then 1 else 8) else 0 := by
  rw [show (p + 1).toNat = p.toNat + 1 from by omega]
  show rmN e n u p.toNat + (if tb u (p.toNat : Int) = 1 then (if 0 ≤ fj e (p.toNat : Int) n.toNat then 1 else 8) else 0) = _
  rw [show (p.toNat : Int) = p from by omega]
def bcP (u : Int) : Nat → Int
  | 0 => 0
  | p + 1 => bcP u p + tb u (p : Int)
theorem bcP_7 (u : Int) : bcP u 7 = bcS u := by
  have e : bcP u 7 = 0 + tb u 0 + tb u 1 + tb u 2 + tb u 3 + tb u 4 + tb u 5 + tb u 6 := rfl
  rw [e]
  unfold bcS
  omega
theorem bcP_up {u P : Int} (P0 : 0 ≤ P) (hz : ∀ q : Int, P ≤ q → q < 7 → tb u q = 0) : ∀ k : Nat, P + k ≤ 7 → bcP u (P.toNat + k) = bcP u P.toNat := by
  intro k
  induction k with
  | zero => intro _; rfl
  | succ k ih =>
    intro hk
    have e : bcP u (P.toNat + (k + 1)) = bcP u (P.toNat + k) + tb u ((P.toNat + k : Nat) : Int) := rfl
    rw [e, ih (by omega), hz _ (by omega) (by omega)]
    omega
theorem rm_cd {e : Int → Int} {n u due P : Int} (hu : 0 ≤ u ∧ u < 128) (n0 : 0 ≤ n ∧ n ≤ 6) (hP : P ≤ 7) (P0 : 0 ≤ P) (hd6 : due ≤ 6) (he : ∀ j : Int, 0 ≤ j → j < n → 0 ≤ e j ∧ e j < P) (hz : ∀ q : Int, P ≤ q → q < 7 → tb u q = 0) : rmN e n u P.toNat = due ↔ mm_cd (mkN e n.toNat) due u := by
  have mb := mkN_b (e := e) (n := n) (fun j j0 j1 => by have := he j j0 j1; omega) n.toNat (by omega)
  have inR : ∀ p : Int, 0 ≤ fj e p n.toNat ↔ ∃ i : Int, 0 ≤ i ∧ i < n ∧ e i = p := fun p => by
    rcases fj_s e p n.toNat with ⟨a, b, c⟩ | ⟨a, b⟩
    · exact ⟨fun _ => ⟨_, a, by omega, c⟩, fun _ => a⟩
    · constructor
      · intro w; omega
      · intro ⟨i, i0, i1, ei⟩
        exact absurd ei (b i i0 (by omega))
  have t01 : ∀ q : Int, 0 ≤ q → q < 7 → tb u q = 0 ∨ tb u q = 1 := fun q q0 q7 => (tb_s (p := q) hu ⟨q0, q7⟩ ⟨q0, q7⟩).2.2
  -- the partial sums
  have low : ∀ p : Nat, (p : Int) ≤ P → 0 ≤ rmN e n u p ∧ ((∃ q : Int, 0 ≤ q ∧ q < p ∧ tb u q = 1 ∧ ¬ 0 ≤ fj e q n.toNat) → 8 ≤ rmN e n u p) := by
    intro p
    induction p with
    | zero => intro _; exact ⟨Int.le_refl _, fun ⟨q, q0, q1, _⟩ => by omega⟩
    | succ p ih =>
      intro hp
      obtain ⟨a, b⟩ := ih (by omega)
      have e1 : rmN e n u (p + 1) = rmN e n u p + if tb u (p : Int) = 1 then (if 0 ≤ fj e (p : Int) n.toNat then 1 else 8) else 0 := rfl
      refine ⟨by rw [e1]; split <;> (try split) <;> omega, fun ⟨q, q0, q1, q2, q3⟩ => ?_⟩
      by_cases qp : q = p
      · rw [qp] at q2 q3
        rw [e1, if_pos q2, if_neg q3]
        omega
      · have := b ⟨q, q0, by omega, q2, q3⟩
        rw [e1]
        split <;> (try split) <;> omega
  have all : (∀ q : Int, 0 ≤ q → q < P → tb u q = 1 → 0 ≤ fj e q n.toNat) → rmN e n u P.toNat = bcS u := fun A => by
    have st : ∀ p : Nat, (p : Int) ≤ P → rmN e n u p = bcP u p := by
      intro p
      induction p with
      | zero => intro _; rfl
      | succ p ih =>
        intro hp
        have e1 : rmN e n u (p + 1) = rmN e n u p + if tb u (p : Int) = 1 then (if 0 ≤ fj e (p : Int) n.toNat then 1 else 8) else 0 := rfl
        have e2 : bcP u (p + 1) = bcP u p + tb u (p : Int) := rfl
        rw [e1, e2, ih (by omega)]
        rcases t01 p (by omega) (by omega) with t | t
        · rw [if_neg (by omega), t]
        · rw [if_pos t, if_pos (A p (by omega) (by omega) t), t]
    have up := bcP_up P0 hz (7 - P).toNat (by omega)
    rw [show P.toNat + (7 - P).toNat = 7 from by omega, bcP_7] at up
    rw [st P.toNat (by omega), up]
  have lo := low P.toNat (by omega)
  show _ ↔ (iAnd u (iXor (mkN e n.toNat) (-1)) = 0 ∧ bcE u = due)
  rw [tb_subs hu mb.1, bcE_s hu]
  constructor
  · intro hr
    have A : ∀ q : Int, 0 ≤ q → q < P → tb u q = 1 → 0 ≤ fj e q n.toNat := fun q q0 q1 q2 => by
      by_cases z : 0 ≤ fj e q n.toNat
      · exact z
      · have := lo.2 ⟨q, q0, by omega, q2, z⟩
        omega
    refine ⟨fun q q0 q7 q2 => ?_, (all A).symm.trans hr⟩
    by_cases z : q < P
    · rw [mb.2 q q0 q7]
      obtain ⟨i, i0, i1, ei⟩ := (inR q).1 (A q q0 z q2)
      exact ⟨i, i0, by omega, ei⟩
    · have := hz q (by omega) q7
      omega
  · intro ⟨h1, h2⟩
    rw [all (fun q q0 q1 q2 => ?_), h2]
    obtain ⟨i, i0, i1, ei⟩ := (mb.2 q q0 (by omega)).1 (h1 q q0 (by omega) q2)
    exact (inR q).2 ⟨i, i0, by omega, ei⟩
