/-! whole numbers and the machine's ints -/
theorem mm_bm32 (x : Int) : x.bmod 4294967296 = w32 x := by unfold w32 Int.bmod; dsimp only; split <;> omega
theorem mm_bm64 (x : Int) : x.bmod 18446744073709551616 = w64 x := by unfold w64 Int.bmod; dsimp only; split <;> omega
theorem mm_bm16 (x : Int) : x.bmod 65536 = w16 x := by unfold w16 Int.bmod; dsimp only; split <;> omega
theorem mm_bm8 (x : Int) : x.bmod 256 = w8 x := by unfold w8 Int.bmod; dsimp only; split <;> omega
theorem w32_r (x : Int) : mm_r32 (w32 x) := by unfold mm_r32 w32; omega
theorem w64_r (x : Int) : mm_r64 (w64 x) := by unfold mm_r64 w64; omega
theorem w16_r (x : Int) : -32768 ≤ w16 x ∧ w16 x < 32768 := by unfold w16; omega
theorem w8_r (x : Int) : -128 ≤ w8 x ∧ w8 x < 128 := by unfold w8; omega
theorem w16_r32 (x : Int) : mm_r32 (w16 x) := by unfold mm_r32 w16; omega
theorem w8_r32 (x : Int) : mm_r32 (w8 x) := by unfold mm_r32 w8; omega
theorem w32_id {x : Int} (h : mm_r32 x) : w32 x = x := by unfold mm_r32 at h; unfold w32; omega
theorem w64_id {x : Int} (h : mm_r64 x) : w64 x = x := by unfold mm_r64 at h; unfold w64; omega
theorem mm_t32 {x : Int} (h : mm_r32 x) : (Int32.ofInt x).toInt = x := Int32.toInt_ofInt_of_le (by unfold mm_r32 at h; omega) (by unfold mm_r32 at h; omega)
theorem mm_t64 {x : Int} (h : mm_r64 x) : (Int64.ofInt x).toInt = x := Int64.toInt_ofInt_of_le (by unfold mm_r64 at h; omega) (by unfold mm_r64 at h; omega)
theorem mm_T32 (x : Int) : (Int32.ofInt x).toInt = w32 x := by rw [Int32.toInt_ofInt]; exact mm_bm32 x
theorem mm_T64 (x : Int) : (Int64.ofInt x).toInt = w64 x := by rw [Int64.toInt_ofInt]; exact mm_bm64 x
theorem mm_i32r (x : Int32) : mm_r32 x.toInt := ⟨by have := x.le_toInt; omega, by have := x.toInt_lt; omega⟩
theorem mm_i64r (x : Int64) : mm_r64 x.toInt := ⟨by have := x.le_toInt; omega, by have := x.toInt_lt; omega⟩
theorem mm_of32 {x : Int} {y : Int32} (h : w32 x = y.toInt) : Int32.ofInt x = y := Int32.toInt_inj.mp (by rw [mm_T32]; exact h)
theorem mm_of64 {x : Int} {y : Int64} (h : w64 x = y.toInt) : Int64.ofInt x = y := Int64.toInt_inj.mp (by rw [mm_T64]; exact h)
theorem mm_w32w (x : Int) : Int32.ofInt (w32 x) = Int32.ofInt x := mm_of32 (by rw [mm_T32, w32_id (w32_r x)])
theorem mm_w64w (x : Int) : Int64.ofInt (w64 x) = Int64.ofInt x := mm_of64 (by rw [mm_T64, w64_id (w64_r x)])
theorem mm_lt32 {x y : Int} (hx : mm_r32 x) (hy : mm_r32 y) : Int32.ofInt x < Int32.ofInt y ↔ x < y := by rw [Int32.lt_iff_toInt_lt, mm_t32 hx, mm_t32 hy]
theorem mm_le32 {x y : Int} (hx : mm_r32 x) (hy : mm_r32 y) : Int32.ofInt x ≤ Int32.ofInt y ↔ x ≤ y := by rw [Int32.le_iff_toInt_le, mm_t32 hx, mm_t32 hy]
theorem mm_eq32 {x y : Int} (hx : mm_r32 x) (hy : mm_r32 y) : Int32.ofInt x = Int32.ofInt y ↔ x = y := by rw [← Int32.toInt_inj, mm_t32 hx, mm_t32 hy]
theorem mm_lt64 {x y : Int} (hx : mm_r64 x) (hy : mm_r64 y) : Int64.ofInt x < Int64.ofInt y ↔ x < y := by rw [Int64.lt_iff_toInt_lt, mm_t64 hx, mm_t64 hy]
theorem mm_eq64 {x y : Int} (hx : mm_r64 x) (hy : mm_r64 y) : Int64.ofInt x = Int64.ofInt y ↔ x = y := by rw [← Int64.toInt_inj, mm_t64 hx, mm_t64 hy]
theorem mm_z32 : (0 : Int32) = Int32.ofInt 0 := by decide +kernel
theorem mm_z64 : (0 : Int64) = Int64.ofInt 0 := by decide +kernel
theorem mm_rz : mm_r32 0 := ⟨by decide, by decide⟩
theorem mm_rz64 : mm_r64 0 := ⟨by decide, by decide⟩
theorem mm_add (x y : Int) : Int32.ofInt (w32 (x + y)) = Int32.ofInt x + Int32.ofInt y := by rw [mm_w32w, Int32.ofInt_add]
theorem mm_sub (x y : Int) : Int32.ofInt (w32 (x - y)) = Int32.ofInt x - Int32.ofInt y := by rw [mm_w32w, Int32.ofInt_sub]
theorem mm_mul (x y : Int) : Int32.ofInt (w32 (x * y)) = Int32.ofInt x * Int32.ofInt y := by rw [mm_w32w, Int32.ofInt_mul]
theorem mm_neg (x : Int) : Int32.ofInt (w32 (-x)) = -Int32.ofInt x := by rw [mm_w32w, Int32.ofInt_neg]
theorem mm_addL (x y : Int) : Int64.ofInt (w64 (x + y)) = Int64.ofInt x + Int64.ofInt y := by rw [mm_w64w, Int64.ofInt_add]
theorem mm_subL (x y : Int) : Int64.ofInt (w64 (x - y)) = Int64.ofInt x - Int64.ofInt y := by rw [mm_w64w, Int64.ofInt_sub]
theorem mm_mulL (x y : Int) : Int64.ofInt (w64 (x * y)) = Int64.ofInt x * Int64.ofInt y := by rw [mm_w64w, Int64.ofInt_mul]
theorem mm_div {x y : Int} (hx : mm_r32 x) (hy : mm_r32 y) : Int32.ofInt (w32 (x.tdiv y)) = Int32.ofInt x / Int32.ofInt y := by
  refine Int32.toInt_inj.mp ?_
  rw [mm_T32, w32_id (w32_r _), Int32.toInt_div, mm_t32 hx, mm_t32 hy]
  exact (mm_bm32 _).symm
theorem mm_divL {x y : Int} (hx : mm_r64 x) (hy : mm_r64 y) : Int64.ofInt (w64 (x.tdiv y)) = Int64.ofInt x / Int64.ofInt y := by
  refine Int64.toInt_inj.mp ?_
  rw [mm_T64, w64_id (w64_r _), Int64.toInt_div, mm_t64 hx, mm_t64 hy]
  exact (mm_bm64 _).symm
theorem mm_tmod_r {x y M : Int} (hM : 0 ≤ M) (hx : -M ≤ x ∧ x ≤ M) : -M ≤ x.tmod y ∧ x.tmod y ≤ M := by
  have h1 : (x.tmod y).natAbs ≤ x.natAbs := by rw [Int.natAbs_tmod]; exact Nat.mod_le _ _
  omega
theorem mm_tmod_r32 {x y : Int} (hx : mm_r32 x) : mm_r32 (x.tmod y) := by
  unfold mm_r32 at hx ⊢
  have h1 : (x.tmod y).natAbs ≤ x.natAbs := by rw [Int.natAbs_tmod]; exact Nat.mod_le _ _
  have h2 : 0 ≤ x → 0 ≤ x.tmod y := fun h => Int.tmod_nonneg y h
  have h3 : x ≤ 0 → x.tmod y ≤ 0 := fun h => by
    have := Int.tmod_nonneg y (a := -x) (by omega)
    rw [Int.neg_tmod] at this
    omega
  omega
theorem mm_tmod_r64 {x y : Int} (hx : mm_r64 x) : mm_r64 (x.tmod y) := by
  unfold mm_r64 at hx ⊢
  have h1 : (x.tmod y).natAbs ≤ x.natAbs := by rw [Int.natAbs_tmod]; exact Nat.mod_le _ _
  have h2 : 0 ≤ x → 0 ≤ x.tmod y := fun h => Int.tmod_nonneg y h
  have h3 : x ≤ 0 → x.tmod y ≤ 0 := fun h => by
    have := Int.tmod_nonneg y (a := -x) (by omega)
    rw [Int.neg_tmod] at this
    omega
  omega
theorem mm_rem {x y : Int} (hx : mm_r32 x) (hy : mm_r32 y) : Int32.ofInt (x.tmod y) = Int32.ofInt x - Int32.ofInt x / Int32.ofInt y * Int32.ofInt y := by
  rw [← mm_div hx hy, mm_w32w, ← Int32.ofInt_mul, ← Int32.ofInt_sub]
  congr 1
  rw [Int.tmod_def, Int.mul_comm]
theorem mm_remL {x y : Int} (hx : mm_r64 x) (hy : mm_r64 y) : Int64.ofInt (x.tmod y) = Int64.ofInt x - Int64.ofInt x / Int64.ofInt y * Int64.ofInt y := by
  rw [← mm_divL hx hy, mm_w64w, ← Int64.ofInt_mul, ← Int64.ofInt_sub]
  congr 1
  rw [Int.tmod_def, Int.mul_comm]
theorem mm_b8 (x : Int) : (Int32.ofInt x).toInt8.toInt32 = Int32.ofInt (w8 x) := by
  refine Int32.toInt_inj.mp ?_
  rw [Int8.toInt_toInt32, Int32.toInt_toInt8, mm_T32, mm_t32 (w8_r32 x)]
  show Int.bmod _ 256 = _
  rw [mm_bm8]; unfold w8 w32; omega
theorem mm_s16 (x : Int) : (Int32.ofInt x).toInt16.toInt32 = Int32.ofInt (w16 x) := by
  refine Int32.toInt_inj.mp ?_
  rw [Int16.toInt_toInt32, Int32.toInt_toInt16, mm_T32, mm_t32 (w16_r32 x)]
  show Int.bmod _ 65536 = _
  rw [mm_bm16]; unfold w16 w32; omega
theorem mm_c8 (x : Int) : (Int8.ofInt x).toInt32 = Int32.ofInt (w8 x) := by
  refine Int32.toInt_inj.mp ?_
  rw [Int8.toInt_toInt32, Int8.toInt_ofInt, mm_t32 (w8_r32 x)]
  exact mm_bm8 x
theorem mm_c16 (x : Int) : (Int16.ofInt x).toInt32 = Int32.ofInt (w16 x) := by
  refine Int32.toInt_inj.mp ?_
  rw [Int16.toInt_toInt32, Int16.toInt_ofInt, mm_t32 (w16_r32 x)]
  exact mm_bm16 x
theorem mm_i2l {x : Int} (hx : mm_r32 x) : (Int32.ofInt x).toInt64 = Int64.ofInt x := by
  refine Int64.toInt_inj.mp ?_
  rw [Int32.toInt_toInt64, mm_t32 hx, mm_t64]
  unfold mm_r32 at hx; unfold mm_r64; omega
theorem mm_l2i (x : Int) : (Int64.ofInt x).toInt32 = Int32.ofInt (w32 x) := by
  refine Int32.toInt_inj.mp ?_
  rw [Int64.toInt_toInt32, mm_T64, mm_t32 (w32_r x)]
  show Int.bmod _ 4294967296 = _
  rw [mm_bm32]; unfold w32 w64; omega
theorem mm_nn {x : Int} (hx : mm_r32 x) : (Int32.ofInt x).toNatClampNeg = x.toNat := by
  show (Int32.ofInt x).toInt.toNat = _
  rw [mm_t32 hx]
theorem mm_vin {x : Int} {n : Nat} (hx : mm_r32 x) (h0 : 0 ≤ x) (h1 : x < n) : vp_in (Int32.ofInt x) n := by
  rw [vp_in_iff, mm_t32 hx]; exact ⟨h0, h1⟩
theorem mm_lcmp {x y : Int} (hx : mm_r64 x) (hy : mm_r64 y) : lg_cmp (Int64.ofInt x) (Int64.ofInt y) = Int32.ofInt (lCmp x y) := by
  unfold lg_cmp lCmp
  by_cases h1 : y < x
  · rw [if_pos h1]; have := (mm_lt64 hy hx).mpr h1; simp [this]; try decide +kernel
  · rw [if_neg h1]
    have h1' : ¬ Int64.ofInt y < Int64.ofInt x := fun z => h1 ((mm_lt64 hy hx).mp z)
    by_cases h2 : x = y
    · subst h2; simp; try decide +kernel
    · have h2' : ¬ Int64.ofInt x = Int64.ofInt y := fun z => h2 ((mm_eq64 hx hy).mp z)
      simp [h1', h2', h2]; try decide +kernel
