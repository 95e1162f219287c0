/-! what is known at the start: rows of each type -/
theorem st_int {s : State} {args : Array Value} (h : (Cond.arrayClass .int).before args s = true) : ∃ cA : ClassId, ArrOfT s cA .int ∧ va_RA s cA .int := by
  obtain ⟨cA, kA, comp, h1, h2, h3⟩ := Cond.arrayClass_spec h
  exact ⟨cA, fun n z => ⟨fun k h => (by cases h), kA, h2, comp, h3⟩, h1⟩
theorem ia_int : Cond.arrayClass .int ∈ lw_tbl := by decide +kernel
theorem st_long {s : State} {args : Array Value} (h : (Cond.arrayClass .long).before args s = true) : ∃ cA : ClassId, ArrOfT s cA .long ∧ va_RA s cA .long := by
  obtain ⟨cA, kA, comp, h1, h2, h3⟩ := Cond.arrayClass_spec h
  exact ⟨cA, fun n z => ⟨fun k h => (by cases h), kA, h2, comp, h3⟩, h1⟩
theorem ia_long : Cond.arrayClass .long ∈ lw_tbl := by decide +kernel
theorem st_byte {s : State} {args : Array Value} (h : (Cond.arrayClass .byte).before args s = true) : ∃ cA : ClassId, ArrOfT s cA .byte ∧ va_RA s cA .byte := by
  obtain ⟨cA, kA, comp, h1, h2, h3⟩ := Cond.arrayClass_spec h
  exact ⟨cA, fun n z => ⟨fun k h => (by cases h), kA, h2, comp, h3⟩, h1⟩
theorem ia_byte : Cond.arrayClass .byte ∈ lw_tbl := by decide +kernel
theorem st_short {s : State} {args : Array Value} (h : (Cond.arrayClass .short).before args s = true) : ∃ cA : ClassId, ArrOfT s cA .short ∧ va_RA s cA .short := by
  obtain ⟨cA, kA, comp, h1, h2, h3⟩ := Cond.arrayClass_spec h
  exact ⟨cA, fun n z => ⟨fun k h => (by cases h), kA, h2, comp, h3⟩, h1⟩
theorem ia_short : Cond.arrayClass .short ∈ lw_tbl := by decide +kernel
theorem st_K {s : State} {args : Array Value} (hts : ∀ w ∈ lw_tbl, w.before args s = true) : ∃ (D : va_G) (cy : Nat → ClassId), va_K D vwCl (mm_tys cy) s := by
  obtain ⟨D, hD⟩ := st_D hts
  obtain ⟨c1, a1, r1⟩ := st_int (hts _ ia_int)
  obtain ⟨c2, a2, r2⟩ := st_long (hts _ ia_long)
  obtain ⟨c3, a3, r3⟩ := st_byte (hts _ ia_byte)
  obtain ⟨c4, a4, r4⟩ := st_short (hts _ ia_short)
  refine ⟨D, fun k => [c1, c1, c2, c3, c4].getD k c1, hD, ?_⟩
  intro k q hq
  match k, hq with
  | 0, hq => cases hq; exact ⟨a1, r1⟩
  | 1, hq => cases hq; exact ⟨a2, r2⟩
  | 2, hq => cases hq; exact ⟨a3, r3⟩
  | 3, hq => cases hq; exact ⟨a4, r4⟩
  | k + 4, hq => simp [mm_tys] at hq
