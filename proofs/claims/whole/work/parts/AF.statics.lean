/-! what is known at the start: the static tables and the script -/
def lw_fl : List Cond := flatC (Jvm.Cond.and given_1 narrow_1)
theorem sv_tab {args : Array Value} {s : State} {C n : String} {N q : Nat} {A : Nat → Prop} (hN : N < 2 ^ 31) (hts : ∀ w ∈ lw_tbl, w.before args s = true) (hfl : ∀ w ∈ lw_fl, w.before args s = true) (hl : Cond.laysStatic C n "[I" ∈ lw_tbl) (hi : Cond.initialized C ∈ lw_tbl) (ha : Cond.arrayOf (.static C n "[I") .int ∈ lw_fl) (hn : Cond.eq (.length (.static C n "[I")) (.int (Int32.ofNat N)) ∈ lw_fl) (he : ∀ j : Nat, j < N → Cond.eq (.elem (.static C n "[I") (.int (Int32.ofNat j))) (.int (Int32.ofInt (mm_ct q (j : Int)))) ∈ lw_fl) (hA : ∀ a : Nat, a < s.heap.size → ¬ A a) : ∃ t : Nat, va_Z C n "[I" (.ref t) A s s.heap ∧ va_T .int t N (fun i => .int (Int32.ofInt (mm_ct q (i : Int)))) A s s.heap := by
  obtain ⟨t, h1, h2⟩ := va_Tof (f := fun j => .int (Int32.ofInt (mm_ct q (j : Int)))) (A := A) hN (hfl _ ha) (va_eqt (hfl _ hn)) (fun j hj => va_eqt (hfl _ (he j hj))) hA
  exact ⟨t, va_Zref (hts _ hl) (hts _ hi) h1 hA, h2⟩
theorem sw_100l : Cond.laysStatic RX4 "BASE" "[I" ∈ lw_tbl := by decide +kernel
theorem sw_100a : Cond.arrayOf (.static RX4 "BASE" "[I") .int ∈ lw_fl := by decide +kernel
theorem sw_100n : Cond.eq (.length (.static RX4 "BASE" "[I")) (.int (Int32.ofNat 12)) ∈ lw_fl := by decide +kernel
theorem sw_100e : ∀ j : Nat, j < 12 → Cond.eq (.elem (.static RX4 "BASE" "[I") (.int (Int32.ofNat j))) (.int (Int32.ofInt (mm_ct 100 (j : Int)))) ∈ lw_fl := by decide +kernel
theorem sw_101l : Cond.laysStatic RX4 "AMOUNT" "[I" ∈ lw_tbl := by decide +kernel
theorem sw_101a : Cond.arrayOf (.static RX4 "AMOUNT" "[I") .int ∈ lw_fl := by decide +kernel
theorem sw_101n : Cond.eq (.length (.static RX4 "AMOUNT" "[I")) (.int (Int32.ofNat 12)) ∈ lw_fl := by decide +kernel
theorem sw_101e : ∀ j : Nat, j < 12 → Cond.eq (.elem (.static RX4 "AMOUNT" "[I") (.int (Int32.ofNat j))) (.int (Int32.ofInt (mm_ct 101 (j : Int)))) ∈ lw_fl := by decide +kernel
theorem sw_102l : Cond.laysStatic RX4 "LEAST" "[I" ∈ lw_tbl := by decide +kernel
theorem sw_102a : Cond.arrayOf (.static RX4 "LEAST" "[I") .int ∈ lw_fl := by decide +kernel
theorem sw_102n : Cond.eq (.length (.static RX4 "LEAST" "[I")) (.int (Int32.ofNat 12)) ∈ lw_fl := by decide +kernel
theorem sw_102e : ∀ j : Nat, j < 12 → Cond.eq (.elem (.static RX4 "LEAST" "[I") (.int (Int32.ofNat j))) (.int (Int32.ofInt (mm_ct 102 (j : Int)))) ∈ lw_fl := by decide +kernel
theorem sw_103l : Cond.laysStatic RX4 "MOST" "[I" ∈ lw_tbl := by decide +kernel
theorem sw_103a : Cond.arrayOf (.static RX4 "MOST" "[I") .int ∈ lw_fl := by decide +kernel
theorem sw_103n : Cond.eq (.length (.static RX4 "MOST" "[I")) (.int (Int32.ofNat 12)) ∈ lw_fl := by decide +kernel
theorem sw_103e : ∀ j : Nat, j < 12 → Cond.eq (.elem (.static RX4 "MOST" "[I") (.int (Int32.ofNat j))) (.int (Int32.ofInt (mm_ct 103 (j : Int)))) ∈ lw_fl := by decide +kernel
theorem sw_104l : Cond.laysStatic RX0 "ABOVE" "[I" ∈ lw_tbl := by decide +kernel
theorem sw_104a : Cond.arrayOf (.static RX0 "ABOVE" "[I") .int ∈ lw_fl := by decide +kernel
theorem sw_104n : Cond.eq (.length (.static RX0 "ABOVE" "[I")) (.int (Int32.ofNat 8)) ∈ lw_fl := by decide +kernel
theorem sw_104e : ∀ j : Nat, j < 8 → Cond.eq (.elem (.static RX0 "ABOVE" "[I") (.int (Int32.ofNat j))) (.int (Int32.ofInt (mm_ct 104 (j : Int)))) ∈ lw_fl := by decide +kernel
theorem sw_105l : Cond.laysStatic RX0 "OWN" "[I" ∈ lw_tbl := by decide +kernel
theorem sw_105a : Cond.arrayOf (.static RX0 "OWN" "[I") .int ∈ lw_fl := by decide +kernel
theorem sw_105n : Cond.eq (.length (.static RX0 "OWN" "[I")) (.int (Int32.ofNat 32)) ∈ lw_fl := by decide +kernel
theorem sw_105e : ∀ j : Nat, j < 32 → Cond.eq (.elem (.static RX0 "OWN" "[I") (.int (Int32.ofNat j))) (.int (Int32.ofInt (mm_ct 105 (j : Int)))) ∈ lw_fl := by decide +kernel
theorem sw_i4 : Cond.initialized RX4 ∈ lw_tbl := by decide +kernel
theorem sw_i0 : Cond.initialized RX0 ∈ lw_tbl := by decide +kernel
theorem st_St {args : Array Value} {s : State} {A : Nat → Prop} (hts : ∀ w ∈ lw_tbl, w.before args s = true) (hgv : (Jvm.Cond.and given_1 narrow_1).before args s = true) (hA : ∀ a : Nat, a < s.heap.size → ¬ A a) : ∃ f : Nat → Nat, ∀ ad : Nat → Nat, (∀ k, 100 ≤ k → k ≤ 105 → ad k = f k) → mm_St ad A s := by
  have hfl : ∀ w ∈ lw_fl, w.before args s = true := flat_of_before _ hgv
  obtain ⟨t100, z100, y100⟩ := sv_tab (A := A) (N := 12) (q := 100) (by decide) hts hfl sw_100l sw_i4 sw_100a sw_100n sw_100e hA
  obtain ⟨t101, z101, y101⟩ := sv_tab (A := A) (N := 12) (q := 101) (by decide) hts hfl sw_101l sw_i4 sw_101a sw_101n sw_101e hA
  obtain ⟨t102, z102, y102⟩ := sv_tab (A := A) (N := 12) (q := 102) (by decide) hts hfl sw_102l sw_i4 sw_102a sw_102n sw_102e hA
  obtain ⟨t103, z103, y103⟩ := sv_tab (A := A) (N := 12) (q := 103) (by decide) hts hfl sw_103l sw_i4 sw_103a sw_103n sw_103e hA
  obtain ⟨t104, z104, y104⟩ := sv_tab (A := A) (N := 8) (q := 104) (by decide) hts hfl sw_104l sw_i0 sw_104a sw_104n sw_104e hA
  obtain ⟨t105, z105, y105⟩ := sv_tab (A := A) (N := 32) (q := 105) (by decide) hts hfl sw_105l sw_i0 sw_105a sw_105n sw_105e hA
  refine ⟨fun k => [t100, t101, t102, t103, t104, t105].getD (k - 100) 0, fun ad had q hq => ?_⟩
  simp only [mm_statT, List.mem_cons, List.not_mem_nil, or_false] at hq
  rcases hq with rfl | rfl | rfl | rfl | rfl | rfl
  · have e : ad 100 = t100 := had 100 (by decide) (by decide)
    exact ⟨by rw [e]; exact z100, by rw [e]; exact y100⟩
  · have e : ad 101 = t101 := had 101 (by decide) (by decide)
    exact ⟨by rw [e]; exact z101, by rw [e]; exact y101⟩
  · have e : ad 102 = t102 := had 102 (by decide) (by decide)
    exact ⟨by rw [e]; exact z102, by rw [e]; exact y102⟩
  · have e : ad 103 = t103 := had 103 (by decide) (by decide)
    exact ⟨by rw [e]; exact z103, by rw [e]; exact y103⟩
  · have e : ad 104 = t104 := had 104 (by decide) (by decide)
    exact ⟨by rw [e]; exact z104, by rw [e]; exact y104⟩
  · have e : ad 105 = t105 := had 105 (by decide) (by decide)
    exact ⟨by rw [e]; exact z105, by rw [e]; exact y105⟩
theorem st_Sc {s : State} {A : Nat → Prop} {b L : Nat} {xs : Nat → Int32} (hL : L ≤ 3072) (hX : va_X b L xs s s.heap) (hA : ¬ A b) (ad : Nat → Nat) (had : ad 110 = b) : mm_Sc ad A ((fun i => (xs i).toInt), L) s := by
  obtain ⟨scr, hcb, hof, hkn, hsz, hval⟩ := hX
  refine ⟨by show L < 2147483648; omega, scr, by rw [had]; exact hcb, hof, hkn, by show L ≤ _; omega, by rw [hsz], fun j hj => ?_, by rw [had]; exact hA⟩
  rw [hval j hj]
  show some (Value.int (xs j)) = some (Value.int (Int32.ofInt (xs j).toInt))
  rw [Int32.ofInt_toInt]
