/-! what is known at the start: classes -/
theorem in_X0 : ∀ w ∈ wsX00, w ∈ lw_tbl := by decide +kernel
theorem is_X0 : Cond.instantiable RX0 5 ∈ lw_tbl := by decide +kernel
theorem in_X1 : ∀ w ∈ wsX10, w ∈ lw_tbl := by decide +kernel
theorem is_X1 : Cond.instantiable RX1 4 ∈ lw_tbl := by decide +kernel
theorem in_X2 : ∀ w ∈ wsX20, w ∈ lw_tbl := by decide +kernel
theorem is_X2 : Cond.instantiable RX2 11 ∈ lw_tbl := by decide +kernel
theorem in_X3 : ∀ w ∈ wsX30, w ∈ lw_tbl := by decide +kernel
theorem is_X3 : Cond.instantiable RX3 10 ∈ lw_tbl := by decide +kernel
theorem in_X4 : ∀ w ∈ wsX40, w ∈ lw_tbl := by decide +kernel
theorem is_X4 : Cond.instantiable RX4 8 ∈ lw_tbl := by decide +kernel
theorem in_X5 : ∀ w ∈ wsX50, w ∈ lw_tbl := by decide +kernel
theorem is_X5 : Cond.instantiable RX5 2 ∈ lw_tbl := by decide +kernel
theorem in_X6 : ∀ w ∈ wsX60, w ∈ lw_tbl := by decide +kernel
theorem is_X6 : Cond.instantiable RX6 8 ∈ lw_tbl := by decide +kernel
theorem in_X7 : ∀ w ∈ wsX70, w ∈ lw_tbl := by decide +kernel
theorem is_X7 : Cond.instantiable RX7 4 ∈ lw_tbl := by decide +kernel
theorem in_X8 : ∀ w ∈ wsX80, w ∈ lw_tbl := by decide +kernel
theorem is_X8 : Cond.instantiable RX8 4 ∈ lw_tbl := by decide +kernel
theorem in_X9 : ∀ w ∈ wsX90, w ∈ lw_tbl := by decide +kernel
theorem is_X9 : Cond.instantiable RX9 10 ∈ lw_tbl := by decide +kernel
theorem in_X10 : ∀ w ∈ wsX100, w ∈ lw_tbl := by decide +kernel
theorem is_X10 : Cond.instantiable RX10 57 ∈ lw_tbl := by decide +kernel
theorem st_D {s : State} {args : Array Value} (hts : ∀ w ∈ lw_tbl, w.before args s = true) : ∃ D : va_G, ∀ (k : Nat) (q : vw_C), vwCl[k]? = some q → u_Kn s q.1 q.2.1 q.2.2 (D.1 k) (D.2 k) := by
  obtain ⟨c0, i0, h0⟩ := u_known (C := RX0) (T := TX0) (N := 5) (n := 5) hts in_X0 (hts _ is_X0)
  obtain ⟨c1, i1, h1⟩ := u_known (C := RX1) (T := TX1) (N := 4) (n := 4) hts in_X1 (hts _ is_X1)
  obtain ⟨c2, i2, h2⟩ := u_known (C := RX2) (T := TX2) (N := 11) (n := 11) hts in_X2 (hts _ is_X2)
  obtain ⟨c3, i3, h3⟩ := u_known (C := RX3) (T := TX3) (N := 10) (n := 10) hts in_X3 (hts _ is_X3)
  obtain ⟨c4, i4, h4⟩ := u_known (C := RX4) (T := TX4) (N := 8) (n := 8) hts in_X4 (hts _ is_X4)
  obtain ⟨c5, i5, h5⟩ := u_known (C := RX5) (T := TX5) (N := 2) (n := 2) hts in_X5 (hts _ is_X5)
  obtain ⟨c6, i6, h6⟩ := u_known (C := RX6) (T := TX6) (N := 8) (n := 8) hts in_X6 (hts _ is_X6)
  obtain ⟨c7, i7, h7⟩ := u_known (C := RX7) (T := TX7) (N := 4) (n := 4) hts in_X7 (hts _ is_X7)
  obtain ⟨c8, i8, h8⟩ := u_known (C := RX8) (T := TX8) (N := 4) (n := 4) hts in_X8 (hts _ is_X8)
  obtain ⟨c9, i9, h9⟩ := u_known (C := RX9) (T := TX9) (N := 10) (n := 10) hts in_X9 (hts _ is_X9)
  obtain ⟨c10, i10, h10⟩ := u_known (C := RX10) (T := TX10) (N := 57) (n := 57) hts in_X10 (hts _ is_X10)
  refine ⟨(fun k => [c0, c1, c2, c3, c4, c5, c6, c7, c8, c9, c10].getD k c0, fun k => [i0, i1, i2, i3, i4, i5, i6, i7, i8, i9, i10].getD k i0), ?_⟩
  intro k q hq
  match k, hq with
  | 0, hq => cases hq; exact h0
  | 1, hq => cases hq; exact h1
  | 2, hq => cases hq; exact h2
  | 3, hq => cases hq; exact h3
  | 4, hq => cases hq; exact h4
  | 5, hq => cases hq; exact h5
  | 6, hq => cases hq; exact h6
  | 7, hq => cases hq; exact h7
  | 8, hq => cases hq; exact h8
  | 9, hq => cases hq; exact h9
  | 10, hq => cases hq; exact h10
  | k + 11, hq => simp [vwCl] at hq
