/-! no call writes the script -/
theorem fr_up {h : mm_M} {c : Nat} {i v : Int} (hc : mm_ak c ≠ 6) (j : Int) : mUp h c i v 110 j = h 110 j := by
  have n : (110 : Nat) ≠ c := fun w => hc (by rw [← w]; exact ak110)
  rw [mUp_ne n]
theorem fr_ld {pc i k : Nat} {L : mm_L} {st : List mm_V} {h : mm_M} {q : mm_N} (e : mm_ld pc i k L st h = some q) : q.2.2.2 = h := by
  unfold mm_ld at e
  split at e
  · split at e
    · cases e; rfl
    · cases e
  · split at e
    · cases e; rfl
    · cases e
  · split at e
    · cases e; rfl
    · cases e
  · cases e
theorem fr_b {α : Type} {o : Option α} {f : α → Option mm_N} {h : mm_M} {q : mm_N} (e : o.bind f = some q) (hf : ∀ a q, f a = some q → q.2.2.2 = h) : q.2.2.2 = h := by
  cases o with
  | none => cases e
  | some a => exact hf a q e
theorem fr_st1 {pc i : Nat} {L : mm_L} {st : List mm_V} {h : mm_M} {q : mm_N} (e : mm_st1 pc i L st h = some q) : q.2.2.2 = h := by
  unfold mm_st1 at e
  split at e
  · exact fr_b e (fun a q e => by cases e; rfl)
  · cases e
theorem fr_st2 {pc i : Nat} {L : mm_L} {st : List mm_V} {h : mm_M} {q : mm_N} (e : mm_st2 pc i L st h = some q) : q.2.2.2 = h := by
  unfold mm_st2 at e
  split at e
  · exact fr_b e (fun a q e => by cases e; rfl)
  · cases e
theorem fr_st3 {pc i : Nat} {L : mm_L} {st : List mm_V} {h : mm_M} {q : mm_N} (e : mm_st3 pc i L st h = some q) : q.2.2.2 = h := by
  unfold mm_st3 at e
  split at e
  · exact fr_b e (fun a q e => by cases e; rfl)
  · cases e
theorem fr_inc {pc i : Nat} {n : Int} {L : mm_L} {st : List mm_V} {h : mm_M} {q : mm_N} (e : mm_inc pc i n L st h = some q) : q.2.2.2 = h := by
  unfold mm_inc at e
  split at e
  · exact fr_b e (fun a q e => by cases e; rfl)
  · cases e
theorem fr_1 {pc : Nat} {L : mm_L} {st : List mm_V} {h : mm_M} {f : Int → mm_V} {q : mm_N} (e : mm_1 pc L st h f = some q) : q.2.2.2 = h := by
  unfold mm_1 at e
  split at e
  · cases e; rfl
  · cases e
theorem fr_2 {pc : Nat} {L : mm_L} {st : List mm_V} {h : mm_M} {f : Int → Int → Option Int} {q : mm_N} (e : mm_2 pc L st h f = some q) : q.2.2.2 = h := by
  unfold mm_2 at e
  split at e
  · exact fr_b e (fun a q e => by cases e; rfl)
  · cases e
theorem fr_3 {pc : Nat} {L : mm_L} {st : List mm_V} {h : mm_M} {f : Int → Int → Option mm_V} {q : mm_N} (e : mm_3 pc L st h f = some q) : q.2.2.2 = h := by
  unfold mm_3 at e
  split at e
  · exact fr_b e (fun a q e => by cases e; rfl)
  · cases e
theorem fr_if {pc : Nat} {off : Int} {L : mm_L} {st : List mm_V} {h : mm_M} {p : Int → Bool} {q : mm_N} (e : mm_if pc off L st h p = some q) : q.2.2.2 = h := by
  unfold mm_if at e
  split at e
  · split at e
    · split at e <;> (cases e; rfl)
    · cases e
  · cases e
theorem fr_ic {pc : Nat} {off : Int} {L : mm_L} {st : List mm_V} {h : mm_M} {p : Int → Int → Bool} {q : mm_N} (e : mm_ic pc off L st h p = some q) : q.2.2.2 = h := by
  unfold mm_ic at e
  split at e
  · split at e
    · split at e <;> (cases e; rfl)
    · cases e
  · cases e
theorem fr_jmp {pc : Nat} {off : Int} {L : mm_L} {st : List mm_V} {h : mm_M} {q : mm_N} (e : mm_jmp pc off L st h = some q) : q.2.2.2 = h := by
  unfold mm_jmp at e
  split at e
  · cases e; rfl
  · cases e
theorem fr_lda {pc k : Nat} {L : mm_L} {st : List mm_V} {h : mm_M} {q : mm_N} (e : mm_lda pc k L st h = some q) : q.2.2.2 = h := by
  unfold mm_lda at e
  split at e
  · split at e
    · split at e
      · cases e; rfl
      · split at e
        · cases e; rfl
        · cases e
    · cases e
  · cases e
theorem fr_gf {pc : Nat} {f : Option (Nat × Nat)} {L : mm_L} {st : List mm_V} {h : mm_M} {q : mm_N} (e : mm_gf pc f L st h = some q) : q.2.2.2 = h := by
  unfold mm_gf at e
  split at e
  · split at e
    · split at e
      · cases e; rfl
      · split at e
        · cases e; rfl
        · split at e
          · cases e; rfl
          · cases e
    · cases e
  · cases e
theorem fr_sta {pc k : Nat} {L : mm_L} {st : List mm_V} {h : mm_M} {q : mm_N} (e : mm_sta pc k L st h = some q) (j : Int) : q.2.2.2 110 j = h 110 j := by
  unfold mm_sta at e
  split at e
  · split at e
    · split at e
      · rename_i w
        cases e
        exact fr_up (by omega) j
      · cases e
    · cases e
  · split at e
    · split at e
      · rename_i w
        cases e
        exact fr_up (by omega) j
      · cases e
    · cases e
  · cases e
theorem fr_pf {pc : Nat} {f : Option (Nat × Nat)} {L : mm_L} {st : List mm_V} {h : mm_M} {q : mm_N} (e : mm_pf pc f L st h = some q) (j : Int) : q.2.2.2 110 j = h 110 j := by
  unfold mm_pf at e
  split at e
  · split at e
    · rename_i w
      split at e
      · cases e
        exact fr_up (by omega) j
      · cases e
    · cases e
  · split at e
    · rename_i w
      cases e
      exact fr_up (by omega) j
    · cases e
  · cases e
theorem fr_nat {pc k : Nat} {L : mm_L} {st : List mm_V} {h : mm_M} {q : mm_N} (e : mm_nat pc k L st h = some q) (j : Int) : q.2.2.2 110 j = h 110 j := by
  unfold mm_nat at e
  split at e
  · split at e
    · cases e; rfl
    · cases e
  · split at e
    · cases e; rfl
    · cases e
  · split at e
    · cases e; rfl
    · cases e
  · split at e
    · rename_i w
      split at e
      · cases e
        show mCpy _ _ _ _ _ _ 110 j = _
        unfold mCpy
        refine if_neg (fun z => ?_)
        have := ak110
        rw [z.1] at this
        omega
      · cases e
    · cases e
  · cases e
theorem fr_s {K : mm_K} {pc : Nat} {ins : Instr} {L : mm_L} {st : List mm_V} {h : mm_M} {q : mm_N} (e : mm_s K pc ins L st h = some q) (j : Int) : q.2.2.2 110 j = h 110 j := by
  unfold mm_s at e
  split at e
  all_goals first
    | (rw [fr_ld e])
    | (rw [fr_st1 e])
    | (rw [fr_st2 e])
    | (rw [fr_st3 e])
    | (rw [fr_inc e])
    | (rw [fr_1 e])
    | (rw [fr_2 e])
    | (rw [fr_3 e])
    | (rw [fr_if e])
    | (rw [fr_ic e])
    | (rw [fr_jmp e])
    | (rw [fr_lda e])
    | (rw [fr_gf e])
    | (exact fr_sta e j)
    | (exact fr_pf e j)
    | (cases e; rfl)
    | (rw [fr_b e (fun a q e => by cases e; rfl)])
    | (split at e <;> first | (exact fr_nat e j) | (cases e; rfl) | (split at e <;> first | (cases e; rfl) | (rw [fr_jmp e]) | (cases e) | (split at e <;> first | (rw [fr_jmp e]) | (cases e))) | (cases e))
    | (cases e)
theorem fr_ex (n : Nat) : ∀ K r pc L st h q, mm_ex n K r pc L st h = some q → ∀ j, q.2 110 j = h 110 j := by
  induction n with
  | zero => intro K r pc L st h q e; cases e
  | succ n ih =>
    intro K r pc L st h q e j
    rw [mm_ex_s] at e
    unfold mm_step at e
    split at e
    · rename_i ins len hd
      by_cases hl : mm_lok ins len = true
      · rw [if_pos hl] at e
        cases hr : mm_ret ins K.2.2.1 st with
        | some v =>
          rw [hr] at e
          cases e
          rfl
        | none =>
          rw [hr] at e
          dsimp only at e
          cases hi : mm_inv ins K.2.2.2.1 st with
          | some z =>
            obtain ⟨k, a, rest⟩ := z
            rw [hi] at e
            dsimp only at e
            split at e
            · cases hf : mm_ex n (mm_k k) (mm_rk (mm_k k) a h) 0 (mm_ent (mm_k k).2.1 a) [] h with
              | none => rw [hf] at e; cases e
              | some w =>
                rw [hf] at e
                exact (ih _ _ _ _ _ _ _ e j).trans (ih _ _ _ _ _ _ _ hf j)
            · cases e
          | none =>
            rw [hi] at e
            dsimp only at e
            cases hs : mm_s K pc ins L st h with
            | none => rw [hs] at e; cases e
            | some w =>
              rw [hs] at e
              exact (ih _ _ _ _ _ _ _ e j).trans (fr_s hs j)
      · rw [if_neg hl] at e; cases e
    · cases e
theorem fr_call {K : mm_K} {a : List mm_V} {h : mm_M} {q : List mm_V × mm_M} (e : mm_call K a h = some q) (j : Int) : q.2 110 j = h 110 j := by
  obtain ⟨n, en⟩ := mm_ev_some e
  exact fr_ex n _ _ _ _ _ _ _ en j
