/-! constructors without a loop, by program (wip/whole/ctor.py) -/
abbrev zI (cy : Nat → ClassId) (n : Nat) : va_E := .inl (cy 1, n, .inl (fun _ => (0 : Int32)))
abbrev zL (cy : Nat → ClassId) (n : Nat) : va_E := .inl (cy 2, n, .inr (.inl (fun _ => (0 : Int64))))
abbrev zB (cy : Nat → ClassId) (n : Nat) : va_E := .inl (cy 3, n, .inl (fun _ => (0 : Int32)))
abbrev zS (cy : Nat → ClassId) (n : Nat) : va_E := .inl (cy 4, n, .inl (fun _ => (0 : Int32)))
abbrev oX5 : va_E := .inr (5, [.null, .null])
def wiX0 : List Cond := .code yX0_init cX0_init 1 none :: ([.methodLink RX0 3 objectInit, .instanceMethod objectInit, .code objectInit ⟨#[0xb1]⟩ 1 none, .arrayClass .int, .fieldLink RX0 11 "WordChanged$Bodies" "traced" "[I", .fieldLink RX0 15 "WordChanged$Bodies" "kinds" "[I"] ++ wsX00)
theorem iX0_0 : decode cX0_init 0 = .ok (.aload_n 0, 1) := by decide +kernel
theorem iX0_1 : decode cX0_init 1 = .ok (.invokespecial 3, 3) := by decide +kernel
theorem iX0_4 : decode cX0_init 4 = .ok (.aload_n 0, 1) := by decide +kernel
theorem iX0_5 : decode cX0_init 5 = .ok (.bipush 24, 2) := by decide +kernel
theorem iX0_7 : decode cX0_init 7 = .ok (.newarray .int, 2) := by decide +kernel
theorem iX0_9 : decode cX0_init 9 = .ok (.putfield 11, 3) := by decide +kernel
theorem iX0_12 : decode cX0_init 12 = .ok (.aload_n 0, 1) := by decide +kernel
theorem iX0_13 : decode cX0_init 13 = .ok (.bipush 50, 2) := by decide +kernel
theorem iX0_15 : decode cX0_init 15 = .ok (.newarray .int, 2) := by decide +kernel
theorem iX0_17 : decode cX0_init 17 = .ok (.putfield 15, 3) := by decide +kernel
theorem iX0_20 : decode cX0_init 20 = .ok (.return_, 1) := by decide +kernel
abbrev oX0 : va_E := .inr (0, [.int 0, .int 0, .null, .null, .int 0])
set_option maxHeartbeats 4000000 in
set_option maxRecDepth 100000 in
theorem c_X0_init (l : Launch) (D : va_G) (cy : Nat → ClassId) (h0 sz : Nat) : Met l yX0_init wiX0 ({ frames := 1, cells := 2, slots := 74, locals := 12 }) (va_Pc [.ref h0] (fun U => U.heap.size = sz ∧ va_P D vwCl [(h0, oX0)] U.heap ∧ va_K D vwCl (mm_tys cy) U ∧ va_D (fun _ => True) [(h0, oX0)])) (va_Qv (fun _ : Nat → Nat => True) (fun u t => va_P D vwCl [(h0, .inr (0, [.int 0, .int 0, .ref (u 0), .ref (u 1), .int 0])), (u 0, zI cy 24), (u 1, zI cy 50)] t.heap ∧ va_K D vwCl (mm_tys cy) t ∧ va_D (va_A [(h0, oX0)] sz) [(h0, .inr (0, [.int 0, .int 0, .ref (u 0), .ref (u 1), .int 0])), (u 0, zI cy 24), (u 1, zI cy 50)]) (va_A [(h0, oX0)] sz)) 2 74 (va_A [(h0, oX0)] sz) := by
  refine Met.ofW (cc := cX0_init) (maxL := 1) (ret := none) (by decide) rfl ?_
  intro p e s m args below meth c s₁ B hml hv
  obtain ⟨rfl, hsz, hP, hK, hD0⟩ := hv
  have hx := B.exec
  have hb := B.bytes
  have hr := B.returns
  have hts := atoms_spec (ws := wiX0) B.pre
  have hown : s.vm.findClass RX0 = some m.cls := findClass_of_methodNamed B.named
  have hlocks := B.notSynchronized
  have hin : meth.name = "<init>" := (name_of_methodNamed B.named B.method).1
  subst hsz
  have hD := hD0.self (sz := s.heap.size)
  generalize hAe : va_A [(h0, oX0)] s.heap.size = A at hD ⊢
  have hA : ∀ q : Nat, s.heap.size ≤ q → A q := fun q h => by rw [← hAe]; exact Or.inr h
  have hS : va_S A s.heap s.heap [] := va_S.rf
  have hP : va_P D vwCl [(h0, oX0)] s.heap := hP
  have hl := lv_entry ([.ref h0]) (n := 1) (Nat.le_of_ble_eq_true rfl)
  rw [lg_entry_eq]
  generalize (lg_sl ([.ref h0]) ++ List.replicate (1 - (lg_sl ([.ref h0])).length) Slot.unset).toArray = ls at hl ⊢
  have hl : lv_has ls 1 [(0, .ref h0)] := hl
  refine lv_aload_n hx hb iX0_0 rfl (lv_at hl 0 rfl) ?_
  refine W.objInit hx hb hown (hts (.methodLink RX0 3 objectInit) (by decide +kernel)) (hts (.instanceMethod objectInit) (by decide +kernel)) (hts _ (List.mem_cons_of_mem _ (List.mem_append_left _ (List.mem_of_getElem? (i := 2) rfl)))) rfl (by rw [hml]; exact hl.1) rfl iX0_1 (Nat.le_of_ble_eq_true rfl) (Nat.le_of_ble_eq_true rfl) ?_
  refine W.eq (g2 := F0 m 4 ls []) rfl ?_
  refine lv_aload_n hx hb iX0_4 rfl (lv_at hl 0 rfl) ?_
  refine lv_bipush (v := 24) hx hb iX0_5 (by decide +kernel) ?_
  refine va_newC (atype := .int) (ty := .int) (a0 := (24, .inl (fun _ => (0 : Int32)))) (N' := 24) hx hb (hts (.arrayClass .int) (by decide +kernel)) rfl hK hP hD hS hA (fun _ => rfl) (by decide +kernel) (by decide +kernel) (Nat.le_of_ble_eq_true rfl) (Nat.le_of_ble_eq_true rfl) (Nat.le_of_ble_eq_true rfl) iX0_7 (fun _ h => h) 0 rfl (fun q1 H hP hD hS => ?_)
  have hP : va_P D vwCl [(h0, .inr (0, [.int 0, .int 0, .null, .null, .int 0])), (q1, zI cy 24)] H := hP
  have hD : va_D A [(h0, .inr (0, [.int 0, .int 0, .null, .null, .int 0])), (q1, zI cy 24)] := hD
  refine va_putF (D := D) (ci := 0) (v := .ref q1) (ty := .array .int) (C := RX0) (T := TX0) (N := 5) hx hb hts (by decide +kernel) tyX0 tyX0_ok nmX0 hown hK hP hD hS 0 rfl rfl 2 (by decide) (hts (.fieldLink RX0 11 "WordChanged$Bodies" "traced" "[I") (by decide +kernel)) (fun _ h9 => h9) rfl hin rfl (by decide +kernel) rfl rfl (Nat.le_of_ble_eq_true rfl) iX0_9 (fun H locs hP hD hS => ?_)
  have hP : va_P D vwCl [(h0, .inr (0, [.int 0, .int 0, .ref q1, .null, .int 0])), (q1, zI cy 24)] H := hP
  have hD : va_D A [(h0, .inr (0, [.int 0, .int 0, .ref q1, .null, .int 0])), (q1, zI cy 24)] := hD
  refine lv_aload_n hx hb iX0_12 rfl (lv_at hl 0 rfl) ?_
  refine lv_bipush (v := 50) hx hb iX0_13 (by decide +kernel) ?_
  refine va_newC (atype := .int) (ty := .int) (a0 := (50, .inl (fun _ => (0 : Int32)))) (N' := 50) hx hb (hts (.arrayClass .int) (by decide +kernel)) rfl hK hP hD hS hA (fun _ => rfl) (by decide +kernel) (by decide +kernel) (Nat.le_of_ble_eq_true rfl) (Nat.le_of_ble_eq_true rfl) (Nat.le_of_ble_eq_true rfl) iX0_15 (fun _ h => h) 0 rfl (fun q2 H hP hD hS => ?_)
  have hP : va_P D vwCl [(h0, .inr (0, [.int 0, .int 0, .ref q1, .null, .int 0])), (q1, zI cy 24), (q2, zI cy 50)] H := hP
  have hD : va_D A [(h0, .inr (0, [.int 0, .int 0, .ref q1, .null, .int 0])), (q1, zI cy 24), (q2, zI cy 50)] := hD
  refine va_putF (D := D) (ci := 0) (v := .ref q2) (ty := .array .int) (C := RX0) (T := TX0) (N := 5) hx hb hts (by decide +kernel) tyX0 tyX0_ok nmX0 hown hK hP hD hS 0 rfl rfl 3 (by decide) (hts (.fieldLink RX0 15 "WordChanged$Bodies" "kinds" "[I") (by decide +kernel)) (fun _ h9 => h9) rfl hin rfl (by decide +kernel) rfl rfl (Nat.le_of_ble_eq_true rfl) iX0_17 (fun H locs hP hD hS => ?_)
  have hP : va_P D vwCl [(h0, .inr (0, [.int 0, .int 0, .ref q1, .ref q2, .int 0])), (q1, zI cy 24), (q2, zI cy 50)] H := hP
  have hD : va_D A [(h0, .inr (0, [.int 0, .int 0, .ref q1, .ref q2, .int 0])), (q1, zI cy 24), (q2, zI cy 50)] := hD
  exact W.vret hx hb hr (fun t ht hW => ⟨⟨fun k => [q1, q2].getD k 0, rfl, trivial, by rw [ht]; exact hP, va_K.moved hW.alike hK, hD⟩, hS.F ht⟩) hS.2.2 iX0_20
def wiX1 : List Cond := .code yX1_init cX1_init 1 none :: ([.methodLink RX1 3 objectInit, .instanceMethod objectInit, .code objectInit ⟨#[0xb1]⟩ 1 none, .arrayClass .int, .fieldLink RX1 9 "WordChanged$Chances" "misheard" "[I", .fieldLink RX1 15 "WordChanged$Chances" "once" "[I", .fieldLink RX1 18 "WordChanged$Chances" "again" "[I"] ++ wsX10)
theorem iX1_0 : decode cX1_init 0 = .ok (.aload_n 0, 1) := by decide +kernel
theorem iX1_1 : decode cX1_init 1 = .ok (.invokespecial 3, 3) := by decide +kernel
theorem iX1_4 : decode cX1_init 4 = .ok (.aload_n 0, 1) := by decide +kernel
theorem iX1_5 : decode cX1_init 5 = .ok (.bipush 7, 2) := by decide +kernel
theorem iX1_7 : decode cX1_init 7 = .ok (.newarray .int, 2) := by decide +kernel
theorem iX1_9 : decode cX1_init 9 = .ok (.putfield 9, 3) := by decide +kernel
theorem iX1_12 : decode cX1_init 12 = .ok (.aload_n 0, 1) := by decide +kernel
theorem iX1_13 : decode cX1_init 13 = .ok (.bipush 7, 2) := by decide +kernel
theorem iX1_15 : decode cX1_init 15 = .ok (.newarray .int, 2) := by decide +kernel
theorem iX1_17 : decode cX1_init 17 = .ok (.putfield 15, 3) := by decide +kernel
theorem iX1_20 : decode cX1_init 20 = .ok (.aload_n 0, 1) := by decide +kernel
theorem iX1_21 : decode cX1_init 21 = .ok (.bipush 7, 2) := by decide +kernel
theorem iX1_23 : decode cX1_init 23 = .ok (.newarray .int, 2) := by decide +kernel
theorem iX1_25 : decode cX1_init 25 = .ok (.putfield 18, 3) := by decide +kernel
theorem iX1_28 : decode cX1_init 28 = .ok (.return_, 1) := by decide +kernel
abbrev oX1 : va_E := .inr (1, [.int 0, .null, .null, .null])
set_option maxHeartbeats 4000000 in
set_option maxRecDepth 100000 in
theorem c_X1_init (l : Launch) (D : va_G) (cy : Nat → ClassId) (h0 sz : Nat) : Met l yX1_init wiX1 ({ frames := 1, cells := 3, slots := 21, locals := 12 }) (va_Pc [.ref h0] (fun U => U.heap.size = sz ∧ va_P D vwCl [(h0, oX1)] U.heap ∧ va_K D vwCl (mm_tys cy) U ∧ va_D (fun _ => True) [(h0, oX1)])) (va_Qv (fun _ : Nat → Nat => True) (fun u t => va_P D vwCl [(h0, .inr (1, [.int 0, .ref (u 0), .ref (u 1), .ref (u 2)])), (u 0, zI cy 7), (u 1, zI cy 7), (u 2, zI cy 7)] t.heap ∧ va_K D vwCl (mm_tys cy) t ∧ va_D (va_A [(h0, oX1)] sz) [(h0, .inr (1, [.int 0, .ref (u 0), .ref (u 1), .ref (u 2)])), (u 0, zI cy 7), (u 1, zI cy 7), (u 2, zI cy 7)]) (va_A [(h0, oX1)] sz)) 3 21 (va_A [(h0, oX1)] sz) := by
  refine Met.ofW (cc := cX1_init) (maxL := 1) (ret := none) (by decide) rfl ?_
  intro p e s m args below meth c s₁ B hml hv
  obtain ⟨rfl, hsz, hP, hK, hD0⟩ := hv
  have hx := B.exec
  have hb := B.bytes
  have hr := B.returns
  have hts := atoms_spec (ws := wiX1) B.pre
  have hown : s.vm.findClass RX1 = some m.cls := findClass_of_methodNamed B.named
  have hlocks := B.notSynchronized
  have hin : meth.name = "<init>" := (name_of_methodNamed B.named B.method).1
  subst hsz
  have hD := hD0.self (sz := s.heap.size)
  generalize hAe : va_A [(h0, oX1)] s.heap.size = A at hD ⊢
  have hA : ∀ q : Nat, s.heap.size ≤ q → A q := fun q h => by rw [← hAe]; exact Or.inr h
  have hS : va_S A s.heap s.heap [] := va_S.rf
  have hP : va_P D vwCl [(h0, oX1)] s.heap := hP
  have hl := lv_entry ([.ref h0]) (n := 1) (Nat.le_of_ble_eq_true rfl)
  rw [lg_entry_eq]
  generalize (lg_sl ([.ref h0]) ++ List.replicate (1 - (lg_sl ([.ref h0])).length) Slot.unset).toArray = ls at hl ⊢
  have hl : lv_has ls 1 [(0, .ref h0)] := hl
  refine lv_aload_n hx hb iX1_0 rfl (lv_at hl 0 rfl) ?_
  refine W.objInit hx hb hown (hts (.methodLink RX1 3 objectInit) (by decide +kernel)) (hts (.instanceMethod objectInit) (by decide +kernel)) (hts _ (List.mem_cons_of_mem _ (List.mem_append_left _ (List.mem_of_getElem? (i := 2) rfl)))) rfl (by rw [hml]; exact hl.1) rfl iX1_1 (Nat.le_of_ble_eq_true rfl) (Nat.le_of_ble_eq_true rfl) ?_
  refine W.eq (g2 := F0 m 4 ls []) rfl ?_
  refine lv_aload_n hx hb iX1_4 rfl (lv_at hl 0 rfl) ?_
  refine lv_bipush (v := 7) hx hb iX1_5 (by decide +kernel) ?_
  refine va_newC (atype := .int) (ty := .int) (a0 := (7, .inl (fun _ => (0 : Int32)))) (N' := 7) hx hb (hts (.arrayClass .int) (by decide +kernel)) rfl hK hP hD hS hA (fun _ => rfl) (by decide +kernel) (by decide +kernel) (Nat.le_of_ble_eq_true rfl) (Nat.le_of_ble_eq_true rfl) (Nat.le_of_ble_eq_true rfl) iX1_7 (fun _ h => h) 0 rfl (fun q1 H hP hD hS => ?_)
  have hP : va_P D vwCl [(h0, .inr (1, [.int 0, .null, .null, .null])), (q1, zI cy 7)] H := hP
  have hD : va_D A [(h0, .inr (1, [.int 0, .null, .null, .null])), (q1, zI cy 7)] := hD
  refine va_putF (D := D) (ci := 1) (v := .ref q1) (ty := .array .int) (C := RX1) (T := TX1) (N := 4) hx hb hts (by decide +kernel) tyX1 tyX1_ok nmX1 hown hK hP hD hS 0 rfl rfl 1 (by decide) (hts (.fieldLink RX1 9 "WordChanged$Chances" "misheard" "[I") (by decide +kernel)) (fun _ h9 => h9) rfl hin rfl (by decide +kernel) rfl rfl (Nat.le_of_ble_eq_true rfl) iX1_9 (fun H locs hP hD hS => ?_)
  have hP : va_P D vwCl [(h0, .inr (1, [.int 0, .ref q1, .null, .null])), (q1, zI cy 7)] H := hP
  have hD : va_D A [(h0, .inr (1, [.int 0, .ref q1, .null, .null])), (q1, zI cy 7)] := hD
  refine lv_aload_n hx hb iX1_12 rfl (lv_at hl 0 rfl) ?_
  refine lv_bipush (v := 7) hx hb iX1_13 (by decide +kernel) ?_
  refine va_newC (atype := .int) (ty := .int) (a0 := (7, .inl (fun _ => (0 : Int32)))) (N' := 7) hx hb (hts (.arrayClass .int) (by decide +kernel)) rfl hK hP hD hS hA (fun _ => rfl) (by decide +kernel) (by decide +kernel) (Nat.le_of_ble_eq_true rfl) (Nat.le_of_ble_eq_true rfl) (Nat.le_of_ble_eq_true rfl) iX1_15 (fun _ h => h) 0 rfl (fun q2 H hP hD hS => ?_)
  have hP : va_P D vwCl [(h0, .inr (1, [.int 0, .ref q1, .null, .null])), (q1, zI cy 7), (q2, zI cy 7)] H := hP
  have hD : va_D A [(h0, .inr (1, [.int 0, .ref q1, .null, .null])), (q1, zI cy 7), (q2, zI cy 7)] := hD
  refine va_putF (D := D) (ci := 1) (v := .ref q2) (ty := .array .int) (C := RX1) (T := TX1) (N := 4) hx hb hts (by decide +kernel) tyX1 tyX1_ok nmX1 hown hK hP hD hS 0 rfl rfl 2 (by decide) (hts (.fieldLink RX1 15 "WordChanged$Chances" "once" "[I") (by decide +kernel)) (fun _ h9 => h9) rfl hin rfl (by decide +kernel) rfl rfl (Nat.le_of_ble_eq_true rfl) iX1_17 (fun H locs hP hD hS => ?_)
  have hP : va_P D vwCl [(h0, .inr (1, [.int 0, .ref q1, .ref q2, .null])), (q1, zI cy 7), (q2, zI cy 7)] H := hP
  have hD : va_D A [(h0, .inr (1, [.int 0, .ref q1, .ref q2, .null])), (q1, zI cy 7), (q2, zI cy 7)] := hD
  refine lv_aload_n hx hb iX1_20 rfl (lv_at hl 0 rfl) ?_
  refine lv_bipush (v := 7) hx hb iX1_21 (by decide +kernel) ?_
  refine va_newC (atype := .int) (ty := .int) (a0 := (7, .inl (fun _ => (0 : Int32)))) (N' := 7) hx hb (hts (.arrayClass .int) (by decide +kernel)) rfl hK hP hD hS hA (fun _ => rfl) (by decide +kernel) (by decide +kernel) (Nat.le_of_ble_eq_true rfl) (Nat.le_of_ble_eq_true rfl) (Nat.le_of_ble_eq_true rfl) iX1_23 (fun _ h => h) 0 rfl (fun q3 H hP hD hS => ?_)
  have hP : va_P D vwCl [(h0, .inr (1, [.int 0, .ref q1, .ref q2, .null])), (q1, zI cy 7), (q2, zI cy 7), (q3, zI cy 7)] H := hP
  have hD : va_D A [(h0, .inr (1, [.int 0, .ref q1, .ref q2, .null])), (q1, zI cy 7), (q2, zI cy 7), (q3, zI cy 7)] := hD
  refine va_putF (D := D) (ci := 1) (v := .ref q3) (ty := .array .int) (C := RX1) (T := TX1) (N := 4) hx hb hts (by decide +kernel) tyX1 tyX1_ok nmX1 hown hK hP hD hS 0 rfl rfl 3 (by decide) (hts (.fieldLink RX1 18 "WordChanged$Chances" "again" "[I") (by decide +kernel)) (fun _ h9 => h9) rfl hin rfl (by decide +kernel) rfl rfl (Nat.le_of_ble_eq_true rfl) iX1_25 (fun H locs hP hD hS => ?_)
  have hP : va_P D vwCl [(h0, .inr (1, [.int 0, .ref q1, .ref q2, .ref q3])), (q1, zI cy 7), (q2, zI cy 7), (q3, zI cy 7)] H := hP
  have hD : va_D A [(h0, .inr (1, [.int 0, .ref q1, .ref q2, .ref q3])), (q1, zI cy 7), (q2, zI cy 7), (q3, zI cy 7)] := hD
  exact W.vret hx hb hr (fun t ht hW => ⟨⟨fun k => [q1, q2, q3].getD k 0, rfl, trivial, by rw [ht]; exact hP, va_K.moved hW.alike hK, hD⟩, hS.F ht⟩) hS.2.2 iX1_28
def wiX2 : List Cond := .code yX2_init cX2_init 1 none :: ([.methodLink RX2 3 objectInit, .instanceMethod objectInit, .code objectInit ⟨#[0xb1]⟩ 1 none, .arrayClass .int, .fieldLink RX2 9 "WordChanged$Deed" "has" "[I", .fieldLink RX2 15 "WordChanged$Deed" "had" "[I", .fieldLink RX2 18 "WordChanged$Deed" "since" "[I", .fieldLink RX2 21 "WordChanged$Deed" "led" "[I", .fieldLink RX2 24 "WordChanged$Deed" "depicted" "I", .fieldLink RX2 28 "WordChanged$Deed" "hasThen" "[I", .fieldLink RX2 31 "WordChanged$Deed" "hadThen" "[I", .fieldLink RX2 34 "WordChanged$Deed" "sinceThen" "[I", .fieldLink RX2 37 "WordChanged$Deed" "ledThen" "[I"] ++ wsX20)
theorem iX2_0 : decode cX2_init 0 = .ok (.aload_n 0, 1) := by decide +kernel
theorem iX2_1 : decode cX2_init 1 = .ok (.invokespecial 3, 3) := by decide +kernel
theorem iX2_4 : decode cX2_init 4 = .ok (.aload_n 0, 1) := by decide +kernel
theorem iX2_5 : decode cX2_init 5 = .ok (.bipush 7, 2) := by decide +kernel
theorem iX2_7 : decode cX2_init 7 = .ok (.newarray .int, 2) := by decide +kernel
theorem iX2_9 : decode cX2_init 9 = .ok (.putfield 9, 3) := by decide +kernel
theorem iX2_12 : decode cX2_init 12 = .ok (.aload_n 0, 1) := by decide +kernel
theorem iX2_13 : decode cX2_init 13 = .ok (.bipush 7, 2) := by decide +kernel
theorem iX2_15 : decode cX2_init 15 = .ok (.newarray .int, 2) := by decide +kernel
theorem iX2_17 : decode cX2_init 17 = .ok (.putfield 15, 3) := by decide +kernel
theorem iX2_20 : decode cX2_init 20 = .ok (.aload_n 0, 1) := by decide +kernel
theorem iX2_21 : decode cX2_init 21 = .ok (.bipush 7, 2) := by decide +kernel
theorem iX2_23 : decode cX2_init 23 = .ok (.newarray .int, 2) := by decide +kernel
theorem iX2_25 : decode cX2_init 25 = .ok (.putfield 18, 3) := by decide +kernel
theorem iX2_28 : decode cX2_init 28 = .ok (.aload_n 0, 1) := by decide +kernel
theorem iX2_29 : decode cX2_init 29 = .ok (.iconst 4, 1) := by decide +kernel
theorem iX2_30 : decode cX2_init 30 = .ok (.newarray .int, 2) := by decide +kernel
theorem iX2_32 : decode cX2_init 32 = .ok (.putfield 21, 3) := by decide +kernel
theorem iX2_35 : decode cX2_init 35 = .ok (.aload_n 0, 1) := by decide +kernel
theorem iX2_36 : decode cX2_init 36 = .ok (.iconst (-1), 1) := by decide +kernel
theorem iX2_37 : decode cX2_init 37 = .ok (.putfield 24, 3) := by decide +kernel
theorem iX2_40 : decode cX2_init 40 = .ok (.aload_n 0, 1) := by decide +kernel
theorem iX2_41 : decode cX2_init 41 = .ok (.bipush 7, 2) := by decide +kernel
theorem iX2_43 : decode cX2_init 43 = .ok (.newarray .int, 2) := by decide +kernel
theorem iX2_45 : decode cX2_init 45 = .ok (.putfield 28, 3) := by decide +kernel
theorem iX2_48 : decode cX2_init 48 = .ok (.aload_n 0, 1) := by decide +kernel
theorem iX2_49 : decode cX2_init 49 = .ok (.bipush 7, 2) := by decide +kernel
theorem iX2_51 : decode cX2_init 51 = .ok (.newarray .int, 2) := by decide +kernel
theorem iX2_53 : decode cX2_init 53 = .ok (.putfield 31, 3) := by decide +kernel
theorem iX2_56 : decode cX2_init 56 = .ok (.aload_n 0, 1) := by decide +kernel
theorem iX2_57 : decode cX2_init 57 = .ok (.bipush 7, 2) := by decide +kernel
theorem iX2_59 : decode cX2_init 59 = .ok (.newarray .int, 2) := by decide +kernel
theorem iX2_61 : decode cX2_init 61 = .ok (.putfield 34, 3) := by decide +kernel
theorem iX2_64 : decode cX2_init 64 = .ok (.aload_n 0, 1) := by decide +kernel
theorem iX2_65 : decode cX2_init 65 = .ok (.iconst 4, 1) := by decide +kernel
theorem iX2_66 : decode cX2_init 66 = .ok (.newarray .int, 2) := by decide +kernel
theorem iX2_68 : decode cX2_init 68 = .ok (.putfield 37, 3) := by decide +kernel
theorem iX2_71 : decode cX2_init 71 = .ok (.return_, 1) := by decide +kernel
abbrev oX2 : va_E := .inr (2, [.int 0, .null, .null, .null, .null, .int 0, .int 0, .null, .null, .null, .null])
set_option maxHeartbeats 4000000 in
set_option maxRecDepth 100000 in
theorem c_X2_init (l : Launch) (D : va_G) (cy : Nat → ClassId) (h0 sz : Nat) : Met l yX2_init wiX2 ({ frames := 1, cells := 8, slots := 50, locals := 12 }) (va_Pc [.ref h0] (fun U => U.heap.size = sz ∧ va_P D vwCl [(h0, oX2)] U.heap ∧ va_K D vwCl (mm_tys cy) U ∧ va_D (fun _ => True) [(h0, oX2)])) (va_Qv (fun _ : Nat → Nat => True) (fun u t => va_P D vwCl [(h0, .inr (2, [.int 0, .ref (u 0), .ref (u 1), .ref (u 2), .ref (u 3), .int (-1), .int 0, .ref (u 4), .ref (u 5), .ref (u 6), .ref (u 7)])), (u 0, zI cy 7), (u 1, zI cy 7), (u 2, zI cy 7), (u 3, zI cy 4), (u 4, zI cy 7), (u 5, zI cy 7), (u 6, zI cy 7), (u 7, zI cy 4)] t.heap ∧ va_K D vwCl (mm_tys cy) t ∧ va_D (va_A [(h0, oX2)] sz) [(h0, .inr (2, [.int 0, .ref (u 0), .ref (u 1), .ref (u 2), .ref (u 3), .int (-1), .int 0, .ref (u 4), .ref (u 5), .ref (u 6), .ref (u 7)])), (u 0, zI cy 7), (u 1, zI cy 7), (u 2, zI cy 7), (u 3, zI cy 4), (u 4, zI cy 7), (u 5, zI cy 7), (u 6, zI cy 7), (u 7, zI cy 4)]) (va_A [(h0, oX2)] sz)) 8 50 (va_A [(h0, oX2)] sz) := by
  refine Met.ofW (cc := cX2_init) (maxL := 1) (ret := none) (by decide) rfl ?_
  intro p e s m args below meth c s₁ B hml hv
  obtain ⟨rfl, hsz, hP, hK, hD0⟩ := hv
  have hx := B.exec
  have hb := B.bytes
  have hr := B.returns
  have hts := atoms_spec (ws := wiX2) B.pre
  have hown : s.vm.findClass RX2 = some m.cls := findClass_of_methodNamed B.named
  have hlocks := B.notSynchronized
  have hin : meth.name = "<init>" := (name_of_methodNamed B.named B.method).1
  subst hsz
  have hD := hD0.self (sz := s.heap.size)
  generalize hAe : va_A [(h0, oX2)] s.heap.size = A at hD ⊢
  have hA : ∀ q : Nat, s.heap.size ≤ q → A q := fun q h => by rw [← hAe]; exact Or.inr h
  have hS : va_S A s.heap s.heap [] := va_S.rf
  have hP : va_P D vwCl [(h0, oX2)] s.heap := hP
  have hl := lv_entry ([.ref h0]) (n := 1) (Nat.le_of_ble_eq_true rfl)
  rw [lg_entry_eq]
  generalize (lg_sl ([.ref h0]) ++ List.replicate (1 - (lg_sl ([.ref h0])).length) Slot.unset).toArray = ls at hl ⊢
  have hl : lv_has ls 1 [(0, .ref h0)] := hl
  refine lv_aload_n hx hb iX2_0 rfl (lv_at hl 0 rfl) ?_
  refine W.objInit hx hb hown (hts (.methodLink RX2 3 objectInit) (by decide +kernel)) (hts (.instanceMethod objectInit) (by decide +kernel)) (hts _ (List.mem_cons_of_mem _ (List.mem_append_left _ (List.mem_of_getElem? (i := 2) rfl)))) rfl (by rw [hml]; exact hl.1) rfl iX2_1 (Nat.le_of_ble_eq_true rfl) (Nat.le_of_ble_eq_true rfl) ?_
  refine W.eq (g2 := F0 m 4 ls []) rfl ?_
  refine lv_aload_n hx hb iX2_4 rfl (lv_at hl 0 rfl) ?_
  refine lv_bipush (v := 7) hx hb iX2_5 (by decide +kernel) ?_
  refine va_newC (atype := .int) (ty := .int) (a0 := (7, .inl (fun _ => (0 : Int32)))) (N' := 7) hx hb (hts (.arrayClass .int) (by decide +kernel)) rfl hK hP hD hS hA (fun _ => rfl) (by decide +kernel) (by decide +kernel) (Nat.le_of_ble_eq_true rfl) (Nat.le_of_ble_eq_true rfl) (Nat.le_of_ble_eq_true rfl) iX2_7 (fun _ h => h) 0 rfl (fun q1 H hP hD hS => ?_)
  have hP : va_P D vwCl [(h0, .inr (2, [.int 0, .null, .null, .null, .null, .int 0, .int 0, .null, .null, .null, .null])), (q1, zI cy 7)] H := hP
  have hD : va_D A [(h0, .inr (2, [.int 0, .null, .null, .null, .null, .int 0, .int 0, .null, .null, .null, .null])), (q1, zI cy 7)] := hD
  refine va_putF (D := D) (ci := 2) (v := .ref q1) (ty := .array .int) (C := RX2) (T := TX2) (N := 11) hx hb hts (by decide +kernel) tyX2 tyX2_ok nmX2 hown hK hP hD hS 0 rfl rfl 1 (by decide) (hts (.fieldLink RX2 9 "WordChanged$Deed" "has" "[I") (by decide +kernel)) (fun _ h9 => h9) rfl hin rfl (by decide +kernel) rfl rfl (Nat.le_of_ble_eq_true rfl) iX2_9 (fun H locs hP hD hS => ?_)
  have hP : va_P D vwCl [(h0, .inr (2, [.int 0, .ref q1, .null, .null, .null, .int 0, .int 0, .null, .null, .null, .null])), (q1, zI cy 7)] H := hP
  have hD : va_D A [(h0, .inr (2, [.int 0, .ref q1, .null, .null, .null, .int 0, .int 0, .null, .null, .null, .null])), (q1, zI cy 7)] := hD
  refine lv_aload_n hx hb iX2_12 rfl (lv_at hl 0 rfl) ?_
  refine lv_bipush (v := 7) hx hb iX2_13 (by decide +kernel) ?_
  refine va_newC (atype := .int) (ty := .int) (a0 := (7, .inl (fun _ => (0 : Int32)))) (N' := 7) hx hb (hts (.arrayClass .int) (by decide +kernel)) rfl hK hP hD hS hA (fun _ => rfl) (by decide +kernel) (by decide +kernel) (Nat.le_of_ble_eq_true rfl) (Nat.le_of_ble_eq_true rfl) (Nat.le_of_ble_eq_true rfl) iX2_15 (fun _ h => h) 0 rfl (fun q2 H hP hD hS => ?_)
  have hP : va_P D vwCl [(h0, .inr (2, [.int 0, .ref q1, .null, .null, .null, .int 0, .int 0, .null, .null, .null, .null])), (q1, zI cy 7), (q2, zI cy 7)] H := hP
  have hD : va_D A [(h0, .inr (2, [.int 0, .ref q1, .null, .null, .null, .int 0, .int 0, .null, .null, .null, .null])), (q1, zI cy 7), (q2, zI cy 7)] := hD
  refine va_putF (D := D) (ci := 2) (v := .ref q2) (ty := .array .int) (C := RX2) (T := TX2) (N := 11) hx hb hts (by decide +kernel) tyX2 tyX2_ok nmX2 hown hK hP hD hS 0 rfl rfl 2 (by decide) (hts (.fieldLink RX2 15 "WordChanged$Deed" "had" "[I") (by decide +kernel)) (fun _ h9 => h9) rfl hin rfl (by decide +kernel) rfl rfl (Nat.le_of_ble_eq_true rfl) iX2_17 (fun H locs hP hD hS => ?_)
  have hP : va_P D vwCl [(h0, .inr (2, [.int 0, .ref q1, .ref q2, .null, .null, .int 0, .int 0, .null, .null, .null, .null])), (q1, zI cy 7), (q2, zI cy 7)] H := hP
  have hD : va_D A [(h0, .inr (2, [.int 0, .ref q1, .ref q2, .null, .null, .int 0, .int 0, .null, .null, .null, .null])), (q1, zI cy 7), (q2, zI cy 7)] := hD
  refine lv_aload_n hx hb iX2_20 rfl (lv_at hl 0 rfl) ?_
  refine lv_bipush (v := 7) hx hb iX2_21 (by decide +kernel) ?_
  refine va_newC (atype := .int) (ty := .int) (a0 := (7, .inl (fun _ => (0 : Int32)))) (N' := 7) hx hb (hts (.arrayClass .int) (by decide +kernel)) rfl hK hP hD hS hA (fun _ => rfl) (by decide +kernel) (by decide +kernel) (Nat.le_of_ble_eq_true rfl) (Nat.le_of_ble_eq_true rfl) (Nat.le_of_ble_eq_true rfl) iX2_23 (fun _ h => h) 0 rfl (fun q3 H hP hD hS => ?_)
  have hP : va_P D vwCl [(h0, .inr (2, [.int 0, .ref q1, .ref q2, .null, .null, .int 0, .int 0, .null, .null, .null, .null])), (q1, zI cy 7), (q2, zI cy 7), (q3, zI cy 7)] H := hP
  have hD : va_D A [(h0, .inr (2, [.int 0, .ref q1, .ref q2, .null, .null, .int 0, .int 0, .null, .null, .null, .null])), (q1, zI cy 7), (q2, zI cy 7), (q3, zI cy 7)] := hD
  refine va_putF (D := D) (ci := 2) (v := .ref q3) (ty := .array .int) (C := RX2) (T := TX2) (N := 11) hx hb hts (by decide +kernel) tyX2 tyX2_ok nmX2 hown hK hP hD hS 0 rfl rfl 3 (by decide) (hts (.fieldLink RX2 18 "WordChanged$Deed" "since" "[I") (by decide +kernel)) (fun _ h9 => h9) rfl hin rfl (by decide +kernel) rfl rfl (Nat.le_of_ble_eq_true rfl) iX2_25 (fun H locs hP hD hS => ?_)
  have hP : va_P D vwCl [(h0, .inr (2, [.int 0, .ref q1, .ref q2, .ref q3, .null, .int 0, .int 0, .null, .null, .null, .null])), (q1, zI cy 7), (q2, zI cy 7), (q3, zI cy 7)] H := hP
  have hD : va_D A [(h0, .inr (2, [.int 0, .ref q1, .ref q2, .ref q3, .null, .int 0, .int 0, .null, .null, .null, .null])), (q1, zI cy 7), (q2, zI cy 7), (q3, zI cy 7)] := hD
  refine lv_aload_n hx hb iX2_28 rfl (lv_at hl 0 rfl) ?_
  refine lv_iconst (v := 4) hx hb iX2_29 (by decide +kernel) ?_
  refine va_newC (atype := .int) (ty := .int) (a0 := (4, .inl (fun _ => (0 : Int32)))) (N' := 4) hx hb (hts (.arrayClass .int) (by decide +kernel)) rfl hK hP hD hS hA (fun _ => rfl) (by decide +kernel) (by decide +kernel) (Nat.le_of_ble_eq_true rfl) (Nat.le_of_ble_eq_true rfl) (Nat.le_of_ble_eq_true rfl) iX2_30 (fun _ h => h) 0 rfl (fun q4 H hP hD hS => ?_)
  have hP : va_P D vwCl [(h0, .inr (2, [.int 0, .ref q1, .ref q2, .ref q3, .null, .int 0, .int 0, .null, .null, .null, .null])), (q1, zI cy 7), (q2, zI cy 7), (q3, zI cy 7), (q4, zI cy 4)] H := hP
  have hD : va_D A [(h0, .inr (2, [.int 0, .ref q1, .ref q2, .ref q3, .null, .int 0, .int 0, .null, .null, .null, .null])), (q1, zI cy 7), (q2, zI cy 7), (q3, zI cy 7), (q4, zI cy 4)] := hD
  refine va_putF (D := D) (ci := 2) (v := .ref q4) (ty := .array .int) (C := RX2) (T := TX2) (N := 11) hx hb hts (by decide +kernel) tyX2 tyX2_ok nmX2 hown hK hP hD hS 0 rfl rfl 4 (by decide) (hts (.fieldLink RX2 21 "WordChanged$Deed" "led" "[I") (by decide +kernel)) (fun _ h9 => h9) rfl hin rfl (by decide +kernel) rfl rfl (Nat.le_of_ble_eq_true rfl) iX2_32 (fun H locs hP hD hS => ?_)
  have hP : va_P D vwCl [(h0, .inr (2, [.int 0, .ref q1, .ref q2, .ref q3, .ref q4, .int 0, .int 0, .null, .null, .null, .null])), (q1, zI cy 7), (q2, zI cy 7), (q3, zI cy 7), (q4, zI cy 4)] H := hP
  have hD : va_D A [(h0, .inr (2, [.int 0, .ref q1, .ref q2, .ref q3, .ref q4, .int 0, .int 0, .null, .null, .null, .null])), (q1, zI cy 7), (q2, zI cy 7), (q3, zI cy 7), (q4, zI cy 4)] := hD
  refine lv_aload_n hx hb iX2_35 rfl (lv_at hl 0 rfl) ?_
  refine lv_iconst (v := -1) hx hb iX2_36 (by decide +kernel) ?_
  refine va_put (D := D) (ci := 2) (v := .int (-1)) (ty := .int) (C := RX2) (T := TX2) (N := 11) hx hb hts (by decide +kernel) tyX2 tyX2_ok nmX2 hown hK hP hD hS 0 rfl rfl 5 (by decide) (hts (.fieldLink RX2 24 "WordChanged$Deed" "depicted" "I") (by decide +kernel)) (fun _ h9 => h9) rfl (by decide +kernel) rfl rfl (Nat.le_of_ble_eq_true rfl) iX2_37 (fun H locs hP hD hS => ?_)
  have hP : va_P D vwCl [(h0, .inr (2, [.int 0, .ref q1, .ref q2, .ref q3, .ref q4, .int (-1), .int 0, .null, .null, .null, .null])), (q1, zI cy 7), (q2, zI cy 7), (q3, zI cy 7), (q4, zI cy 4)] H := hP
  have hD : va_D A [(h0, .inr (2, [.int 0, .ref q1, .ref q2, .ref q3, .ref q4, .int (-1), .int 0, .null, .null, .null, .null])), (q1, zI cy 7), (q2, zI cy 7), (q3, zI cy 7), (q4, zI cy 4)] := hD
  refine lv_aload_n hx hb iX2_40 rfl (lv_at hl 0 rfl) ?_
  refine lv_bipush (v := 7) hx hb iX2_41 (by decide +kernel) ?_
  refine va_newC (atype := .int) (ty := .int) (a0 := (7, .inl (fun _ => (0 : Int32)))) (N' := 7) hx hb (hts (.arrayClass .int) (by decide +kernel)) rfl hK hP hD hS hA (fun _ => rfl) (by decide +kernel) (by decide +kernel) (Nat.le_of_ble_eq_true rfl) (Nat.le_of_ble_eq_true rfl) (Nat.le_of_ble_eq_true rfl) iX2_43 (fun _ h => h) 0 rfl (fun q5 H hP hD hS => ?_)
  have hP : va_P D vwCl [(h0, .inr (2, [.int 0, .ref q1, .ref q2, .ref q3, .ref q4, .int (-1), .int 0, .null, .null, .null, .null])), (q1, zI cy 7), (q2, zI cy 7), (q3, zI cy 7), (q4, zI cy 4), (q5, zI cy 7)] H := hP
  have hD : va_D A [(h0, .inr (2, [.int 0, .ref q1, .ref q2, .ref q3, .ref q4, .int (-1), .int 0, .null, .null, .null, .null])), (q1, zI cy 7), (q2, zI cy 7), (q3, zI cy 7), (q4, zI cy 4), (q5, zI cy 7)] := hD
  refine va_putF (D := D) (ci := 2) (v := .ref q5) (ty := .array .int) (C := RX2) (T := TX2) (N := 11) hx hb hts (by decide +kernel) tyX2 tyX2_ok nmX2 hown hK hP hD hS 0 rfl rfl 7 (by decide) (hts (.fieldLink RX2 28 "WordChanged$Deed" "hasThen" "[I") (by decide +kernel)) (fun _ h9 => h9) rfl hin rfl (by decide +kernel) rfl rfl (Nat.le_of_ble_eq_true rfl) iX2_45 (fun H locs hP hD hS => ?_)
  have hP : va_P D vwCl [(h0, .inr (2, [.int 0, .ref q1, .ref q2, .ref q3, .ref q4, .int (-1), .int 0, .ref q5, .null, .null, .null])), (q1, zI cy 7), (q2, zI cy 7), (q3, zI cy 7), (q4, zI cy 4), (q5, zI cy 7)] H := hP
  have hD : va_D A [(h0, .inr (2, [.int 0, .ref q1, .ref q2, .ref q3, .ref q4, .int (-1), .int 0, .ref q5, .null, .null, .null])), (q1, zI cy 7), (q2, zI cy 7), (q3, zI cy 7), (q4, zI cy 4), (q5, zI cy 7)] := hD
  refine lv_aload_n hx hb iX2_48 rfl (lv_at hl 0 rfl) ?_
  refine lv_bipush (v := 7) hx hb iX2_49 (by decide +kernel) ?_
  refine va_newC (atype := .int) (ty := .int) (a0 := (7, .inl (fun _ => (0 : Int32)))) (N' := 7) hx hb (hts (.arrayClass .int) (by decide +kernel)) rfl hK hP hD hS hA (fun _ => rfl) (by decide +kernel) (by decide +kernel) (Nat.le_of_ble_eq_true rfl) (Nat.le_of_ble_eq_true rfl) (Nat.le_of_ble_eq_true rfl) iX2_51 (fun _ h => h) 0 rfl (fun q6 H hP hD hS => ?_)
  have hP : va_P D vwCl [(h0, .inr (2, [.int 0, .ref q1, .ref q2, .ref q3, .ref q4, .int (-1), .int 0, .ref q5, .null, .null, .null])), (q1, zI cy 7), (q2, zI cy 7), (q3, zI cy 7), (q4, zI cy 4), (q5, zI cy 7), (q6, zI cy 7)] H := hP
  have hD : va_D A [(h0, .inr (2, [.int 0, .ref q1, .ref q2, .ref q3, .ref q4, .int (-1), .int 0, .ref q5, .null, .null, .null])), (q1, zI cy 7), (q2, zI cy 7), (q3, zI cy 7), (q4, zI cy 4), (q5, zI cy 7), (q6, zI cy 7)] := hD
  refine va_putF (D := D) (ci := 2) (v := .ref q6) (ty := .array .int) (C := RX2) (T := TX2) (N := 11) hx hb hts (by decide +kernel) tyX2 tyX2_ok nmX2 hown hK hP hD hS 0 rfl rfl 8 (by decide) (hts (.fieldLink RX2 31 "WordChanged$Deed" "hadThen" "[I") (by decide +kernel)) (fun _ h9 => h9) rfl hin rfl (by decide +kernel) rfl rfl (Nat.le_of_ble_eq_true rfl) iX2_53 (fun H locs hP hD hS => ?_)
  have hP : va_P D vwCl [(h0, .inr (2, [.int 0, .ref q1, .ref q2, .ref q3, .ref q4, .int (-1), .int 0, .ref q5, .ref q6, .null, .null])), (q1, zI cy 7), (q2, zI cy 7), (q3, zI cy 7), (q4, zI cy 4), (q5, zI cy 7), (q6, zI cy 7)] H := hP
  have hD : va_D A [(h0, .inr (2, [.int 0, .ref q1, .ref q2, .ref q3, .ref q4, .int (-1), .int 0, .ref q5, .ref q6, .null, .null])), (q1, zI cy 7), (q2, zI cy 7), (q3, zI cy 7), (q4, zI cy 4), (q5, zI cy 7), (q6, zI cy 7)] := hD
  refine lv_aload_n hx hb iX2_56 rfl (lv_at hl 0 rfl) ?_
  refine lv_bipush (v := 7) hx hb iX2_57 (by decide +kernel) ?_
  refine va_newC (atype := .int) (ty := .int) (a0 := (7, .inl (fun _ => (0 : Int32)))) (N' := 7) hx hb (hts (.arrayClass .int) (by decide +kernel)) rfl hK hP hD hS hA (fun _ => rfl) (by decide +kernel) (by decide +kernel) (Nat.le_of_ble_eq_true rfl) (Nat.le_of_ble_eq_true rfl) (Nat.le_of_ble_eq_true rfl) iX2_59 (fun _ h => h) 0 rfl (fun q7 H hP hD hS => ?_)
  have hP : va_P D vwCl [(h0, .inr (2, [.int 0, .ref q1, .ref q2, .ref q3, .ref q4, .int (-1), .int 0, .ref q5, .ref q6, .null, .null])), (q1, zI cy 7), (q2, zI cy 7), (q3, zI cy 7), (q4, zI cy 4), (q5, zI cy 7), (q6, zI cy 7), (q7, zI cy 7)] H := hP
  have hD : va_D A [(h0, .inr (2, [.int 0, .ref q1, .ref q2, .ref q3, .ref q4, .int (-1), .int 0, .ref q5, .ref q6, .null, .null])), (q1, zI cy 7), (q2, zI cy 7), (q3, zI cy 7), (q4, zI cy 4), (q5, zI cy 7), (q6, zI cy 7), (q7, zI cy 7)] := hD
  refine va_putF (D := D) (ci := 2) (v := .ref q7) (ty := .array .int) (C := RX2) (T := TX2) (N := 11) hx hb hts (by decide +kernel) tyX2 tyX2_ok nmX2 hown hK hP hD hS 0 rfl rfl 9 (by decide) (hts (.fieldLink RX2 34 "WordChanged$Deed" "sinceThen" "[I") (by decide +kernel)) (fun _ h9 => h9) rfl hin rfl (by decide +kernel) rfl rfl (Nat.le_of_ble_eq_true rfl) iX2_61 (fun H locs hP hD hS => ?_)
  have hP : va_P D vwCl [(h0, .inr (2, [.int 0, .ref q1, .ref q2, .ref q3, .ref q4, .int (-1), .int 0, .ref q5, .ref q6, .ref q7, .null])), (q1, zI cy 7), (q2, zI cy 7), (q3, zI cy 7), (q4, zI cy 4), (q5, zI cy 7), (q6, zI cy 7), (q7, zI cy 7)] H := hP
  have hD : va_D A [(h0, .inr (2, [.int 0, .ref q1, .ref q2, .ref q3, .ref q4, .int (-1), .int 0, .ref q5, .ref q6, .ref q7, .null])), (q1, zI cy 7), (q2, zI cy 7), (q3, zI cy 7), (q4, zI cy 4), (q5, zI cy 7), (q6, zI cy 7), (q7, zI cy 7)] := hD
  refine lv_aload_n hx hb iX2_64 rfl (lv_at hl 0 rfl) ?_
  refine lv_iconst (v := 4) hx hb iX2_65 (by decide +kernel) ?_
  refine va_newC (atype := .int) (ty := .int) (a0 := (4, .inl (fun _ => (0 : Int32)))) (N' := 4) hx hb (hts (.arrayClass .int) (by decide +kernel)) rfl hK hP hD hS hA (fun _ => rfl) (by decide +kernel) (by decide +kernel) (Nat.le_of_ble_eq_true rfl) (Nat.le_of_ble_eq_true rfl) (Nat.le_of_ble_eq_true rfl) iX2_66 (fun _ h => h) 0 rfl (fun q8 H hP hD hS => ?_)
  have hP : va_P D vwCl [(h0, .inr (2, [.int 0, .ref q1, .ref q2, .ref q3, .ref q4, .int (-1), .int 0, .ref q5, .ref q6, .ref q7, .null])), (q1, zI cy 7), (q2, zI cy 7), (q3, zI cy 7), (q4, zI cy 4), (q5, zI cy 7), (q6, zI cy 7), (q7, zI cy 7), (q8, zI cy 4)] H := hP
  have hD : va_D A [(h0, .inr (2, [.int 0, .ref q1, .ref q2, .ref q3, .ref q4, .int (-1), .int 0, .ref q5, .ref q6, .ref q7, .null])), (q1, zI cy 7), (q2, zI cy 7), (q3, zI cy 7), (q4, zI cy 4), (q5, zI cy 7), (q6, zI cy 7), (q7, zI cy 7), (q8, zI cy 4)] := hD
  refine va_putF (D := D) (ci := 2) (v := .ref q8) (ty := .array .int) (C := RX2) (T := TX2) (N := 11) hx hb hts (by decide +kernel) tyX2 tyX2_ok nmX2 hown hK hP hD hS 0 rfl rfl 10 (by decide) (hts (.fieldLink RX2 37 "WordChanged$Deed" "ledThen" "[I") (by decide +kernel)) (fun _ h9 => h9) rfl hin rfl (by decide +kernel) rfl rfl (Nat.le_of_ble_eq_true rfl) iX2_68 (fun H locs hP hD hS => ?_)
  have hP : va_P D vwCl [(h0, .inr (2, [.int 0, .ref q1, .ref q2, .ref q3, .ref q4, .int (-1), .int 0, .ref q5, .ref q6, .ref q7, .ref q8])), (q1, zI cy 7), (q2, zI cy 7), (q3, zI cy 7), (q4, zI cy 4), (q5, zI cy 7), (q6, zI cy 7), (q7, zI cy 7), (q8, zI cy 4)] H := hP
  have hD : va_D A [(h0, .inr (2, [.int 0, .ref q1, .ref q2, .ref q3, .ref q4, .int (-1), .int 0, .ref q5, .ref q6, .ref q7, .ref q8])), (q1, zI cy 7), (q2, zI cy 7), (q3, zI cy 7), (q4, zI cy 4), (q5, zI cy 7), (q6, zI cy 7), (q7, zI cy 7), (q8, zI cy 4)] := hD
  exact W.vret hx hb hr (fun t ht hW => ⟨⟨fun k => [q1, q2, q3, q4, q5, q6, q7, q8].getD k 0, rfl, trivial, by rw [ht]; exact hP, va_K.moved hW.alike hK, hD⟩, hS.F ht⟩) hS.2.2 iX2_71
def wiX3 : List Cond := .code yX3_init cX3_init 1 none :: ([.methodLink RX3 3 objectInit, .instanceMethod objectInit, .code objectInit ⟨#[0xb1]⟩ 1 none, .arrayClass .int, .fieldLink RX3 11 "WordChanged$Law" "tape" "[I", .fieldLink RX3 15 "WordChanged$Law" "spare" "[I", .fieldLink RX3 18 "WordChanged$Law" "steps" "[I", .fieldLink RX3 21 "WordChanged$Law" "stack" "[I"] ++ wsX30)
theorem iX3_0 : decode cX3_init 0 = .ok (.aload_n 0, 1) := by decide +kernel
theorem iX3_1 : decode cX3_init 1 = .ok (.invokespecial 3, 3) := by decide +kernel
theorem iX3_4 : decode cX3_init 4 = .ok (.aload_n 0, 1) := by decide +kernel
theorem iX3_5 : decode cX3_init 5 = .ok (.bipush 120, 2) := by decide +kernel
theorem iX3_7 : decode cX3_init 7 = .ok (.newarray .int, 2) := by decide +kernel
theorem iX3_9 : decode cX3_init 9 = .ok (.putfield 11, 3) := by decide +kernel
theorem iX3_12 : decode cX3_init 12 = .ok (.aload_n 0, 1) := by decide +kernel
theorem iX3_13 : decode cX3_init 13 = .ok (.bipush 121, 2) := by decide +kernel
theorem iX3_15 : decode cX3_init 15 = .ok (.newarray .int, 2) := by decide +kernel
theorem iX3_17 : decode cX3_init 17 = .ok (.putfield 15, 3) := by decide +kernel
theorem iX3_20 : decode cX3_init 20 = .ok (.aload_n 0, 1) := by decide +kernel
theorem iX3_21 : decode cX3_init 21 = .ok (.bipush 121, 2) := by decide +kernel
theorem iX3_23 : decode cX3_init 23 = .ok (.newarray .int, 2) := by decide +kernel
theorem iX3_25 : decode cX3_init 25 = .ok (.putfield 18, 3) := by decide +kernel
theorem iX3_28 : decode cX3_init 28 = .ok (.aload_n 0, 1) := by decide +kernel
theorem iX3_29 : decode cX3_init 29 = .ok (.bipush 64, 2) := by decide +kernel
theorem iX3_31 : decode cX3_init 31 = .ok (.newarray .int, 2) := by decide +kernel
theorem iX3_33 : decode cX3_init 33 = .ok (.putfield 21, 3) := by decide +kernel
theorem iX3_36 : decode cX3_init 36 = .ok (.return_, 1) := by decide +kernel
abbrev oX3 : va_E := .inr (3, [.int 0, .null, .int 0, .int 0, .null, .int 0, .null, .int 0, .null, .int 0])
set_option maxHeartbeats 4000000 in
set_option maxRecDepth 100000 in
theorem c_X3_init (l : Launch) (D : va_G) (cy : Nat → ClassId) (h0 sz : Nat) : Met l yX3_init wiX3 ({ frames := 1, cells := 4, slots := 426, locals := 12 }) (va_Pc [.ref h0] (fun U => U.heap.size = sz ∧ va_P D vwCl [(h0, oX3)] U.heap ∧ va_K D vwCl (mm_tys cy) U ∧ va_D (fun _ => True) [(h0, oX3)])) (va_Qv (fun _ : Nat → Nat => True) (fun u t => va_P D vwCl [(h0, .inr (3, [.int 0, .ref (u 0), .int 0, .int 0, .ref (u 1), .int 0, .ref (u 2), .int 0, .ref (u 3), .int 0])), (u 0, zI cy 120), (u 1, zI cy 121), (u 2, zI cy 121), (u 3, zI cy 64)] t.heap ∧ va_K D vwCl (mm_tys cy) t ∧ va_D (va_A [(h0, oX3)] sz) [(h0, .inr (3, [.int 0, .ref (u 0), .int 0, .int 0, .ref (u 1), .int 0, .ref (u 2), .int 0, .ref (u 3), .int 0])), (u 0, zI cy 120), (u 1, zI cy 121), (u 2, zI cy 121), (u 3, zI cy 64)]) (va_A [(h0, oX3)] sz)) 4 426 (va_A [(h0, oX3)] sz) := by
  refine Met.ofW (cc := cX3_init) (maxL := 1) (ret := none) (by decide) rfl ?_
  intro p e s m args below meth c s₁ B hml hv
  obtain ⟨rfl, hsz, hP, hK, hD0⟩ := hv
  have hx := B.exec
  have hb := B.bytes
  have hr := B.returns
  have hts := atoms_spec (ws := wiX3) B.pre
  have hown : s.vm.findClass RX3 = some m.cls := findClass_of_methodNamed B.named
  have hlocks := B.notSynchronized
  have hin : meth.name = "<init>" := (name_of_methodNamed B.named B.method).1
  subst hsz
  have hD := hD0.self (sz := s.heap.size)
  generalize hAe : va_A [(h0, oX3)] s.heap.size = A at hD ⊢
  have hA : ∀ q : Nat, s.heap.size ≤ q → A q := fun q h => by rw [← hAe]; exact Or.inr h
  have hS : va_S A s.heap s.heap [] := va_S.rf
  have hP : va_P D vwCl [(h0, oX3)] s.heap := hP
  have hl := lv_entry ([.ref h0]) (n := 1) (Nat.le_of_ble_eq_true rfl)
  rw [lg_entry_eq]
  generalize (lg_sl ([.ref h0]) ++ List.replicate (1 - (lg_sl ([.ref h0])).length) Slot.unset).toArray = ls at hl ⊢
  have hl : lv_has ls 1 [(0, .ref h0)] := hl
  refine lv_aload_n hx hb iX3_0 rfl (lv_at hl 0 rfl) ?_
  refine W.objInit hx hb hown (hts (.methodLink RX3 3 objectInit) (by decide +kernel)) (hts (.instanceMethod objectInit) (by decide +kernel)) (hts _ (List.mem_cons_of_mem _ (List.mem_append_left _ (List.mem_of_getElem? (i := 2) rfl)))) rfl (by rw [hml]; exact hl.1) rfl iX3_1 (Nat.le_of_ble_eq_true rfl) (Nat.le_of_ble_eq_true rfl) ?_
  refine W.eq (g2 := F0 m 4 ls []) rfl ?_
  refine lv_aload_n hx hb iX3_4 rfl (lv_at hl 0 rfl) ?_
  refine lv_bipush (v := 120) hx hb iX3_5 (by decide +kernel) ?_
  refine va_newC (atype := .int) (ty := .int) (a0 := (120, .inl (fun _ => (0 : Int32)))) (N' := 120) hx hb (hts (.arrayClass .int) (by decide +kernel)) rfl hK hP hD hS hA (fun _ => rfl) (by decide +kernel) (by decide +kernel) (Nat.le_of_ble_eq_true rfl) (Nat.le_of_ble_eq_true rfl) (Nat.le_of_ble_eq_true rfl) iX3_7 (fun _ h => h) 0 rfl (fun q1 H hP hD hS => ?_)
  have hP : va_P D vwCl [(h0, .inr (3, [.int 0, .null, .int 0, .int 0, .null, .int 0, .null, .int 0, .null, .int 0])), (q1, zI cy 120)] H := hP
  have hD : va_D A [(h0, .inr (3, [.int 0, .null, .int 0, .int 0, .null, .int 0, .null, .int 0, .null, .int 0])), (q1, zI cy 120)] := hD
  refine va_putF (D := D) (ci := 3) (v := .ref q1) (ty := .array .int) (C := RX3) (T := TX3) (N := 10) hx hb hts (by decide +kernel) tyX3 tyX3_ok nmX3 hown hK hP hD hS 0 rfl rfl 1 (by decide) (hts (.fieldLink RX3 11 "WordChanged$Law" "tape" "[I") (by decide +kernel)) (fun _ h9 => h9) rfl hin rfl (by decide +kernel) rfl rfl (Nat.le_of_ble_eq_true rfl) iX3_9 (fun H locs hP hD hS => ?_)
  have hP : va_P D vwCl [(h0, .inr (3, [.int 0, .ref q1, .int 0, .int 0, .null, .int 0, .null, .int 0, .null, .int 0])), (q1, zI cy 120)] H := hP
  have hD : va_D A [(h0, .inr (3, [.int 0, .ref q1, .int 0, .int 0, .null, .int 0, .null, .int 0, .null, .int 0])), (q1, zI cy 120)] := hD
  refine lv_aload_n hx hb iX3_12 rfl (lv_at hl 0 rfl) ?_
  refine lv_bipush (v := 121) hx hb iX3_13 (by decide +kernel) ?_
  refine va_newC (atype := .int) (ty := .int) (a0 := (121, .inl (fun _ => (0 : Int32)))) (N' := 121) hx hb (hts (.arrayClass .int) (by decide +kernel)) rfl hK hP hD hS hA (fun _ => rfl) (by decide +kernel) (by decide +kernel) (Nat.le_of_ble_eq_true rfl) (Nat.le_of_ble_eq_true rfl) (Nat.le_of_ble_eq_true rfl) iX3_15 (fun _ h => h) 0 rfl (fun q2 H hP hD hS => ?_)
  have hP : va_P D vwCl [(h0, .inr (3, [.int 0, .ref q1, .int 0, .int 0, .null, .int 0, .null, .int 0, .null, .int 0])), (q1, zI cy 120), (q2, zI cy 121)] H := hP
  have hD : va_D A [(h0, .inr (3, [.int 0, .ref q1, .int 0, .int 0, .null, .int 0, .null, .int 0, .null, .int 0])), (q1, zI cy 120), (q2, zI cy 121)] := hD
  refine va_put (D := D) (ci := 3) (v := .ref q2) (ty := .array .int) (C := RX3) (T := TX3) (N := 10) hx hb hts (by decide +kernel) tyX3 tyX3_ok nmX3 hown hK hP hD hS 0 rfl rfl 4 (by decide) (hts (.fieldLink RX3 15 "WordChanged$Law" "spare" "[I") (by decide +kernel)) (fun _ h9 => h9) rfl (by decide +kernel) rfl rfl (Nat.le_of_ble_eq_true rfl) iX3_17 (fun H locs hP hD hS => ?_)
  have hP : va_P D vwCl [(h0, .inr (3, [.int 0, .ref q1, .int 0, .int 0, .ref q2, .int 0, .null, .int 0, .null, .int 0])), (q1, zI cy 120), (q2, zI cy 121)] H := hP
  have hD : va_D A [(h0, .inr (3, [.int 0, .ref q1, .int 0, .int 0, .ref q2, .int 0, .null, .int 0, .null, .int 0])), (q1, zI cy 120), (q2, zI cy 121)] := hD
  refine lv_aload_n hx hb iX3_20 rfl (lv_at hl 0 rfl) ?_
  refine lv_bipush (v := 121) hx hb iX3_21 (by decide +kernel) ?_
  refine va_newC (atype := .int) (ty := .int) (a0 := (121, .inl (fun _ => (0 : Int32)))) (N' := 121) hx hb (hts (.arrayClass .int) (by decide +kernel)) rfl hK hP hD hS hA (fun _ => rfl) (by decide +kernel) (by decide +kernel) (Nat.le_of_ble_eq_true rfl) (Nat.le_of_ble_eq_true rfl) (Nat.le_of_ble_eq_true rfl) iX3_23 (fun _ h => h) 0 rfl (fun q3 H hP hD hS => ?_)
  have hP : va_P D vwCl [(h0, .inr (3, [.int 0, .ref q1, .int 0, .int 0, .ref q2, .int 0, .null, .int 0, .null, .int 0])), (q1, zI cy 120), (q2, zI cy 121), (q3, zI cy 121)] H := hP
  have hD : va_D A [(h0, .inr (3, [.int 0, .ref q1, .int 0, .int 0, .ref q2, .int 0, .null, .int 0, .null, .int 0])), (q1, zI cy 120), (q2, zI cy 121), (q3, zI cy 121)] := hD
  refine va_put (D := D) (ci := 3) (v := .ref q3) (ty := .array .int) (C := RX3) (T := TX3) (N := 10) hx hb hts (by decide +kernel) tyX3 tyX3_ok nmX3 hown hK hP hD hS 0 rfl rfl 6 (by decide) (hts (.fieldLink RX3 18 "WordChanged$Law" "steps" "[I") (by decide +kernel)) (fun _ h9 => h9) rfl (by decide +kernel) rfl rfl (Nat.le_of_ble_eq_true rfl) iX3_25 (fun H locs hP hD hS => ?_)
  have hP : va_P D vwCl [(h0, .inr (3, [.int 0, .ref q1, .int 0, .int 0, .ref q2, .int 0, .ref q3, .int 0, .null, .int 0])), (q1, zI cy 120), (q2, zI cy 121), (q3, zI cy 121)] H := hP
  have hD : va_D A [(h0, .inr (3, [.int 0, .ref q1, .int 0, .int 0, .ref q2, .int 0, .ref q3, .int 0, .null, .int 0])), (q1, zI cy 120), (q2, zI cy 121), (q3, zI cy 121)] := hD
  refine lv_aload_n hx hb iX3_28 rfl (lv_at hl 0 rfl) ?_
  refine lv_bipush (v := 64) hx hb iX3_29 (by decide +kernel) ?_
  refine va_newC (atype := .int) (ty := .int) (a0 := (64, .inl (fun _ => (0 : Int32)))) (N' := 64) hx hb (hts (.arrayClass .int) (by decide +kernel)) rfl hK hP hD hS hA (fun _ => rfl) (by decide +kernel) (by decide +kernel) (Nat.le_of_ble_eq_true rfl) (Nat.le_of_ble_eq_true rfl) (Nat.le_of_ble_eq_true rfl) iX3_31 (fun _ h => h) 0 rfl (fun q4 H hP hD hS => ?_)
  have hP : va_P D vwCl [(h0, .inr (3, [.int 0, .ref q1, .int 0, .int 0, .ref q2, .int 0, .ref q3, .int 0, .null, .int 0])), (q1, zI cy 120), (q2, zI cy 121), (q3, zI cy 121), (q4, zI cy 64)] H := hP
  have hD : va_D A [(h0, .inr (3, [.int 0, .ref q1, .int 0, .int 0, .ref q2, .int 0, .ref q3, .int 0, .null, .int 0])), (q1, zI cy 120), (q2, zI cy 121), (q3, zI cy 121), (q4, zI cy 64)] := hD
  refine va_putF (D := D) (ci := 3) (v := .ref q4) (ty := .array .int) (C := RX3) (T := TX3) (N := 10) hx hb hts (by decide +kernel) tyX3 tyX3_ok nmX3 hown hK hP hD hS 0 rfl rfl 8 (by decide) (hts (.fieldLink RX3 21 "WordChanged$Law" "stack" "[I") (by decide +kernel)) (fun _ h9 => h9) rfl hin rfl (by decide +kernel) rfl rfl (Nat.le_of_ble_eq_true rfl) iX3_33 (fun H locs hP hD hS => ?_)
  have hP : va_P D vwCl [(h0, .inr (3, [.int 0, .ref q1, .int 0, .int 0, .ref q2, .int 0, .ref q3, .int 0, .ref q4, .int 0])), (q1, zI cy 120), (q2, zI cy 121), (q3, zI cy 121), (q4, zI cy 64)] H := hP
  have hD : va_D A [(h0, .inr (3, [.int 0, .ref q1, .int 0, .int 0, .ref q2, .int 0, .ref q3, .int 0, .ref q4, .int 0])), (q1, zI cy 120), (q2, zI cy 121), (q3, zI cy 121), (q4, zI cy 64)] := hD
  exact W.vret hx hb hr (fun t ht hW => ⟨⟨fun k => [q1, q2, q3, q4].getD k 0, rfl, trivial, by rw [ht]; exact hP, va_K.moved hW.alike hK, hD⟩, hS.F ht⟩) hS.2.2 iX3_36
def wiX5 : List Cond := .code yX5_init cX5_init 1 none :: ([.methodLink RX5 3 objectInit, .instanceMethod objectInit, .code objectInit ⟨#[0xb1]⟩ 1 none, .arrayClass .int, .fieldLink RX5 9 "WordChanged$Said" "from" "[I", .fieldLink RX5 15 "WordChanged$Said" "to" "[I"] ++ wsX50)
theorem iX5_0 : decode cX5_init 0 = .ok (.aload_n 0, 1) := by decide +kernel
theorem iX5_1 : decode cX5_init 1 = .ok (.invokespecial 3, 3) := by decide +kernel
theorem iX5_4 : decode cX5_init 4 = .ok (.aload_n 0, 1) := by decide +kernel
theorem iX5_5 : decode cX5_init 5 = .ok (.bipush 7, 2) := by decide +kernel
theorem iX5_7 : decode cX5_init 7 = .ok (.newarray .int, 2) := by decide +kernel
theorem iX5_9 : decode cX5_init 9 = .ok (.putfield 9, 3) := by decide +kernel
theorem iX5_12 : decode cX5_init 12 = .ok (.aload_n 0, 1) := by decide +kernel
theorem iX5_13 : decode cX5_init 13 = .ok (.bipush 7, 2) := by decide +kernel
theorem iX5_15 : decode cX5_init 15 = .ok (.newarray .int, 2) := by decide +kernel
theorem iX5_17 : decode cX5_init 17 = .ok (.putfield 15, 3) := by decide +kernel
theorem iX5_20 : decode cX5_init 20 = .ok (.return_, 1) := by decide +kernel
set_option maxHeartbeats 4000000 in
set_option maxRecDepth 100000 in
theorem c_X5_init (l : Launch) (D : va_G) (cy : Nat → ClassId) (h0 sz : Nat) : Met l yX5_init wiX5 ({ frames := 1, cells := 2, slots := 14, locals := 12 }) (va_Pc [.ref h0] (fun U => U.heap.size = sz ∧ va_P D vwCl [(h0, oX5)] U.heap ∧ va_K D vwCl (mm_tys cy) U ∧ va_D (fun _ => True) [(h0, oX5)])) (va_Qv (fun _ : Nat → Nat => True) (fun u t => va_P D vwCl [(h0, .inr (5, [.ref (u 0), .ref (u 1)])), (u 0, zI cy 7), (u 1, zI cy 7)] t.heap ∧ va_K D vwCl (mm_tys cy) t ∧ va_D (va_A [(h0, oX5)] sz) [(h0, .inr (5, [.ref (u 0), .ref (u 1)])), (u 0, zI cy 7), (u 1, zI cy 7)]) (va_A [(h0, oX5)] sz)) 2 14 (va_A [(h0, oX5)] sz) := by
  refine Met.ofW (cc := cX5_init) (maxL := 1) (ret := none) (by decide) rfl ?_
  intro p e s m args below meth c s₁ B hml hv
  obtain ⟨rfl, hsz, hP, hK, hD0⟩ := hv
  have hx := B.exec
  have hb := B.bytes
  have hr := B.returns
  have hts := atoms_spec (ws := wiX5) B.pre
  have hown : s.vm.findClass RX5 = some m.cls := findClass_of_methodNamed B.named
  have hlocks := B.notSynchronized
  have hin : meth.name = "<init>" := (name_of_methodNamed B.named B.method).1
  subst hsz
  have hD := hD0.self (sz := s.heap.size)
  generalize hAe : va_A [(h0, oX5)] s.heap.size = A at hD ⊢
  have hA : ∀ q : Nat, s.heap.size ≤ q → A q := fun q h => by rw [← hAe]; exact Or.inr h
  have hS : va_S A s.heap s.heap [] := va_S.rf
  have hP : va_P D vwCl [(h0, oX5)] s.heap := hP
  have hl := lv_entry ([.ref h0]) (n := 1) (Nat.le_of_ble_eq_true rfl)
  rw [lg_entry_eq]
  generalize (lg_sl ([.ref h0]) ++ List.replicate (1 - (lg_sl ([.ref h0])).length) Slot.unset).toArray = ls at hl ⊢
  have hl : lv_has ls 1 [(0, .ref h0)] := hl
  refine lv_aload_n hx hb iX5_0 rfl (lv_at hl 0 rfl) ?_
  refine W.objInit hx hb hown (hts (.methodLink RX5 3 objectInit) (by decide +kernel)) (hts (.instanceMethod objectInit) (by decide +kernel)) (hts _ (List.mem_cons_of_mem _ (List.mem_append_left _ (List.mem_of_getElem? (i := 2) rfl)))) rfl (by rw [hml]; exact hl.1) rfl iX5_1 (Nat.le_of_ble_eq_true rfl) (Nat.le_of_ble_eq_true rfl) ?_
  refine W.eq (g2 := F0 m 4 ls []) rfl ?_
  refine lv_aload_n hx hb iX5_4 rfl (lv_at hl 0 rfl) ?_
  refine lv_bipush (v := 7) hx hb iX5_5 (by decide +kernel) ?_
  refine va_newC (atype := .int) (ty := .int) (a0 := (7, .inl (fun _ => (0 : Int32)))) (N' := 7) hx hb (hts (.arrayClass .int) (by decide +kernel)) rfl hK hP hD hS hA (fun _ => rfl) (by decide +kernel) (by decide +kernel) (Nat.le_of_ble_eq_true rfl) (Nat.le_of_ble_eq_true rfl) (Nat.le_of_ble_eq_true rfl) iX5_7 (fun _ h => h) 0 rfl (fun q1 H hP hD hS => ?_)
  have hP : va_P D vwCl [(h0, .inr (5, [.null, .null])), (q1, zI cy 7)] H := hP
  have hD : va_D A [(h0, .inr (5, [.null, .null])), (q1, zI cy 7)] := hD
  refine va_putF (D := D) (ci := 5) (v := .ref q1) (ty := .array .int) (C := RX5) (T := TX5) (N := 2) hx hb hts (by decide +kernel) tyX5 tyX5_ok nmX5 hown hK hP hD hS 0 rfl rfl 0 (by decide) (hts (.fieldLink RX5 9 "WordChanged$Said" "from" "[I") (by decide +kernel)) (fun _ h9 => h9) rfl hin rfl (by decide +kernel) rfl rfl (Nat.le_of_ble_eq_true rfl) iX5_9 (fun H locs hP hD hS => ?_)
  have hP : va_P D vwCl [(h0, .inr (5, [.ref q1, .null])), (q1, zI cy 7)] H := hP
  have hD : va_D A [(h0, .inr (5, [.ref q1, .null])), (q1, zI cy 7)] := hD
  refine lv_aload_n hx hb iX5_12 rfl (lv_at hl 0 rfl) ?_
  refine lv_bipush (v := 7) hx hb iX5_13 (by decide +kernel) ?_
  refine va_newC (atype := .int) (ty := .int) (a0 := (7, .inl (fun _ => (0 : Int32)))) (N' := 7) hx hb (hts (.arrayClass .int) (by decide +kernel)) rfl hK hP hD hS hA (fun _ => rfl) (by decide +kernel) (by decide +kernel) (Nat.le_of_ble_eq_true rfl) (Nat.le_of_ble_eq_true rfl) (Nat.le_of_ble_eq_true rfl) iX5_15 (fun _ h => h) 0 rfl (fun q2 H hP hD hS => ?_)
  have hP : va_P D vwCl [(h0, .inr (5, [.ref q1, .null])), (q1, zI cy 7), (q2, zI cy 7)] H := hP
  have hD : va_D A [(h0, .inr (5, [.ref q1, .null])), (q1, zI cy 7), (q2, zI cy 7)] := hD
  refine va_putF (D := D) (ci := 5) (v := .ref q2) (ty := .array .int) (C := RX5) (T := TX5) (N := 2) hx hb hts (by decide +kernel) tyX5 tyX5_ok nmX5 hown hK hP hD hS 0 rfl rfl 1 (by decide) (hts (.fieldLink RX5 15 "WordChanged$Said" "to" "[I") (by decide +kernel)) (fun _ h9 => h9) rfl hin rfl (by decide +kernel) rfl rfl (Nat.le_of_ble_eq_true rfl) iX5_17 (fun H locs hP hD hS => ?_)
  have hP : va_P D vwCl [(h0, .inr (5, [.ref q1, .ref q2])), (q1, zI cy 7), (q2, zI cy 7)] H := hP
  have hD : va_D A [(h0, .inr (5, [.ref q1, .ref q2])), (q1, zI cy 7), (q2, zI cy 7)] := hD
  exact W.vret hx hb hr (fun t ht hW => ⟨⟨fun k => [q1, q2].getD k 0, rfl, trivial, by rw [ht]; exact hP, va_K.moved hW.alike hK, hD⟩, hS.F ht⟩) hS.2.2 iX5_20
def wiX6 : List Cond := .code yX6_init cX6_init 1 none :: ([.methodLink RX6 3 objectInit, .instanceMethod objectInit, .code objectInit ⟨#[0xb1]⟩ 1 none, .arrayClass .int, .fieldLink RX6 9 "WordChanged$Search" "best" "[I", .fieldLink RX6 15 "WordChanged$Search" "order" "[I", .fieldLink RX6 18 "WordChanged$Search" "apart" "[I"] ++ wsX60)
theorem iX6_0 : decode cX6_init 0 = .ok (.aload_n 0, 1) := by decide +kernel
theorem iX6_1 : decode cX6_init 1 = .ok (.invokespecial 3, 3) := by decide +kernel
theorem iX6_4 : decode cX6_init 4 = .ok (.aload_n 0, 1) := by decide +kernel
theorem iX6_5 : decode cX6_init 5 = .ok (.bipush 6, 2) := by decide +kernel
theorem iX6_7 : decode cX6_init 7 = .ok (.newarray .int, 2) := by decide +kernel
theorem iX6_9 : decode cX6_init 9 = .ok (.putfield 9, 3) := by decide +kernel
theorem iX6_12 : decode cX6_init 12 = .ok (.aload_n 0, 1) := by decide +kernel
theorem iX6_13 : decode cX6_init 13 = .ok (.bipush 6, 2) := by decide +kernel
theorem iX6_15 : decode cX6_init 15 = .ok (.newarray .int, 2) := by decide +kernel
theorem iX6_17 : decode cX6_init 17 = .ok (.putfield 15, 3) := by decide +kernel
theorem iX6_20 : decode cX6_init 20 = .ok (.aload_n 0, 1) := by decide +kernel
theorem iX6_21 : decode cX6_init 21 = .ok (.bipush 49, 2) := by decide +kernel
theorem iX6_23 : decode cX6_init 23 = .ok (.newarray .int, 2) := by decide +kernel
theorem iX6_25 : decode cX6_init 25 = .ok (.putfield 18, 3) := by decide +kernel
theorem iX6_28 : decode cX6_init 28 = .ok (.return_, 1) := by decide +kernel
abbrev oX6 : va_E := .inr (6, [.int 0, .null, .int 0, .int 0, .int 0, .int 0, .null, .null])
set_option maxHeartbeats 4000000 in
set_option maxRecDepth 100000 in
theorem c_X6_init (l : Launch) (D : va_G) (cy : Nat → ClassId) (h0 sz : Nat) : Met l yX6_init wiX6 ({ frames := 1, cells := 3, slots := 61, locals := 12 }) (va_Pc [.ref h0] (fun U => U.heap.size = sz ∧ va_P D vwCl [(h0, oX6)] U.heap ∧ va_K D vwCl (mm_tys cy) U ∧ va_D (fun _ => True) [(h0, oX6)])) (va_Qv (fun _ : Nat → Nat => True) (fun u t => va_P D vwCl [(h0, .inr (6, [.int 0, .ref (u 0), .int 0, .int 0, .int 0, .int 0, .ref (u 1), .ref (u 2)])), (u 0, zI cy 6), (u 1, zI cy 6), (u 2, zI cy 49)] t.heap ∧ va_K D vwCl (mm_tys cy) t ∧ va_D (va_A [(h0, oX6)] sz) [(h0, .inr (6, [.int 0, .ref (u 0), .int 0, .int 0, .int 0, .int 0, .ref (u 1), .ref (u 2)])), (u 0, zI cy 6), (u 1, zI cy 6), (u 2, zI cy 49)]) (va_A [(h0, oX6)] sz)) 3 61 (va_A [(h0, oX6)] sz) := by
  refine Met.ofW (cc := cX6_init) (maxL := 1) (ret := none) (by decide) rfl ?_
  intro p e s m args below meth c s₁ B hml hv
  obtain ⟨rfl, hsz, hP, hK, hD0⟩ := hv
  have hx := B.exec
  have hb := B.bytes
  have hr := B.returns
  have hts := atoms_spec (ws := wiX6) B.pre
  have hown : s.vm.findClass RX6 = some m.cls := findClass_of_methodNamed B.named
  have hlocks := B.notSynchronized
  have hin : meth.name = "<init>" := (name_of_methodNamed B.named B.method).1
  subst hsz
  have hD := hD0.self (sz := s.heap.size)
  generalize hAe : va_A [(h0, oX6)] s.heap.size = A at hD ⊢
  have hA : ∀ q : Nat, s.heap.size ≤ q → A q := fun q h => by rw [← hAe]; exact Or.inr h
  have hS : va_S A s.heap s.heap [] := va_S.rf
  have hP : va_P D vwCl [(h0, oX6)] s.heap := hP
  have hl := lv_entry ([.ref h0]) (n := 1) (Nat.le_of_ble_eq_true rfl)
  rw [lg_entry_eq]
  generalize (lg_sl ([.ref h0]) ++ List.replicate (1 - (lg_sl ([.ref h0])).length) Slot.unset).toArray = ls at hl ⊢
  have hl : lv_has ls 1 [(0, .ref h0)] := hl
  refine lv_aload_n hx hb iX6_0 rfl (lv_at hl 0 rfl) ?_
  refine W.objInit hx hb hown (hts (.methodLink RX6 3 objectInit) (by decide +kernel)) (hts (.instanceMethod objectInit) (by decide +kernel)) (hts _ (List.mem_cons_of_mem _ (List.mem_append_left _ (List.mem_of_getElem? (i := 2) rfl)))) rfl (by rw [hml]; exact hl.1) rfl iX6_1 (Nat.le_of_ble_eq_true rfl) (Nat.le_of_ble_eq_true rfl) ?_
  refine W.eq (g2 := F0 m 4 ls []) rfl ?_
  refine lv_aload_n hx hb iX6_4 rfl (lv_at hl 0 rfl) ?_
  refine lv_bipush (v := 6) hx hb iX6_5 (by decide +kernel) ?_
  refine va_newC (atype := .int) (ty := .int) (a0 := (6, .inl (fun _ => (0 : Int32)))) (N' := 6) hx hb (hts (.arrayClass .int) (by decide +kernel)) rfl hK hP hD hS hA (fun _ => rfl) (by decide +kernel) (by decide +kernel) (Nat.le_of_ble_eq_true rfl) (Nat.le_of_ble_eq_true rfl) (Nat.le_of_ble_eq_true rfl) iX6_7 (fun _ h => h) 0 rfl (fun q1 H hP hD hS => ?_)
  have hP : va_P D vwCl [(h0, .inr (6, [.int 0, .null, .int 0, .int 0, .int 0, .int 0, .null, .null])), (q1, zI cy 6)] H := hP
  have hD : va_D A [(h0, .inr (6, [.int 0, .null, .int 0, .int 0, .int 0, .int 0, .null, .null])), (q1, zI cy 6)] := hD
  refine va_putF (D := D) (ci := 6) (v := .ref q1) (ty := .array .int) (C := RX6) (T := TX6) (N := 8) hx hb hts (by decide +kernel) tyX6 tyX6_ok nmX6 hown hK hP hD hS 0 rfl rfl 1 (by decide) (hts (.fieldLink RX6 9 "WordChanged$Search" "best" "[I") (by decide +kernel)) (fun _ h9 => h9) rfl hin rfl (by decide +kernel) rfl rfl (Nat.le_of_ble_eq_true rfl) iX6_9 (fun H locs hP hD hS => ?_)
  have hP : va_P D vwCl [(h0, .inr (6, [.int 0, .ref q1, .int 0, .int 0, .int 0, .int 0, .null, .null])), (q1, zI cy 6)] H := hP
  have hD : va_D A [(h0, .inr (6, [.int 0, .ref q1, .int 0, .int 0, .int 0, .int 0, .null, .null])), (q1, zI cy 6)] := hD
  refine lv_aload_n hx hb iX6_12 rfl (lv_at hl 0 rfl) ?_
  refine lv_bipush (v := 6) hx hb iX6_13 (by decide +kernel) ?_
  refine va_newC (atype := .int) (ty := .int) (a0 := (6, .inl (fun _ => (0 : Int32)))) (N' := 6) hx hb (hts (.arrayClass .int) (by decide +kernel)) rfl hK hP hD hS hA (fun _ => rfl) (by decide +kernel) (by decide +kernel) (Nat.le_of_ble_eq_true rfl) (Nat.le_of_ble_eq_true rfl) (Nat.le_of_ble_eq_true rfl) iX6_15 (fun _ h => h) 0 rfl (fun q2 H hP hD hS => ?_)
  have hP : va_P D vwCl [(h0, .inr (6, [.int 0, .ref q1, .int 0, .int 0, .int 0, .int 0, .null, .null])), (q1, zI cy 6), (q2, zI cy 6)] H := hP
  have hD : va_D A [(h0, .inr (6, [.int 0, .ref q1, .int 0, .int 0, .int 0, .int 0, .null, .null])), (q1, zI cy 6), (q2, zI cy 6)] := hD
  refine va_putF (D := D) (ci := 6) (v := .ref q2) (ty := .array .int) (C := RX6) (T := TX6) (N := 8) hx hb hts (by decide +kernel) tyX6 tyX6_ok nmX6 hown hK hP hD hS 0 rfl rfl 6 (by decide) (hts (.fieldLink RX6 15 "WordChanged$Search" "order" "[I") (by decide +kernel)) (fun _ h9 => h9) rfl hin rfl (by decide +kernel) rfl rfl (Nat.le_of_ble_eq_true rfl) iX6_17 (fun H locs hP hD hS => ?_)
  have hP : va_P D vwCl [(h0, .inr (6, [.int 0, .ref q1, .int 0, .int 0, .int 0, .int 0, .ref q2, .null])), (q1, zI cy 6), (q2, zI cy 6)] H := hP
  have hD : va_D A [(h0, .inr (6, [.int 0, .ref q1, .int 0, .int 0, .int 0, .int 0, .ref q2, .null])), (q1, zI cy 6), (q2, zI cy 6)] := hD
  refine lv_aload_n hx hb iX6_20 rfl (lv_at hl 0 rfl) ?_
  refine lv_bipush (v := 49) hx hb iX6_21 (by decide +kernel) ?_
  refine va_newC (atype := .int) (ty := .int) (a0 := (49, .inl (fun _ => (0 : Int32)))) (N' := 49) hx hb (hts (.arrayClass .int) (by decide +kernel)) rfl hK hP hD hS hA (fun _ => rfl) (by decide +kernel) (by decide +kernel) (Nat.le_of_ble_eq_true rfl) (Nat.le_of_ble_eq_true rfl) (Nat.le_of_ble_eq_true rfl) iX6_23 (fun _ h => h) 0 rfl (fun q3 H hP hD hS => ?_)
  have hP : va_P D vwCl [(h0, .inr (6, [.int 0, .ref q1, .int 0, .int 0, .int 0, .int 0, .ref q2, .null])), (q1, zI cy 6), (q2, zI cy 6), (q3, zI cy 49)] H := hP
  have hD : va_D A [(h0, .inr (6, [.int 0, .ref q1, .int 0, .int 0, .int 0, .int 0, .ref q2, .null])), (q1, zI cy 6), (q2, zI cy 6), (q3, zI cy 49)] := hD
  refine va_putF (D := D) (ci := 6) (v := .ref q3) (ty := .array .int) (C := RX6) (T := TX6) (N := 8) hx hb hts (by decide +kernel) tyX6 tyX6_ok nmX6 hown hK hP hD hS 0 rfl rfl 7 (by decide) (hts (.fieldLink RX6 18 "WordChanged$Search" "apart" "[I") (by decide +kernel)) (fun _ h9 => h9) rfl hin rfl (by decide +kernel) rfl rfl (Nat.le_of_ble_eq_true rfl) iX6_25 (fun H locs hP hD hS => ?_)
  have hP : va_P D vwCl [(h0, .inr (6, [.int 0, .ref q1, .int 0, .int 0, .int 0, .int 0, .ref q2, .ref q3])), (q1, zI cy 6), (q2, zI cy 6), (q3, zI cy 49)] H := hP
  have hD : va_D A [(h0, .inr (6, [.int 0, .ref q1, .int 0, .int 0, .int 0, .int 0, .ref q2, .ref q3])), (q1, zI cy 6), (q2, zI cy 6), (q3, zI cy 49)] := hD
  exact W.vret hx hb hr (fun t ht hW => ⟨⟨fun k => [q1, q2, q3].getD k 0, rfl, trivial, by rw [ht]; exact hP, va_K.moved hW.alike hK, hD⟩, hS.F ht⟩) hS.2.2 iX6_28
def wiX8 : List Cond := .code yX8_init cX8_init 1 none :: ([.methodLink RX8 3 objectInit, .instanceMethod objectInit, .code objectInit ⟨#[0xb1]⟩ 1 none, .arrayClass .int, .fieldLink RX8 9 "WordChanged$Way" "order" "[I", .fieldLink RX8 15 "WordChanged$Way" "places" "[I", .fieldLink RX8 18 "WordChanged$Way" "behind" "[I"] ++ wsX80)
theorem iX8_0 : decode cX8_init 0 = .ok (.aload_n 0, 1) := by decide +kernel
theorem iX8_1 : decode cX8_init 1 = .ok (.invokespecial 3, 3) := by decide +kernel
theorem iX8_4 : decode cX8_init 4 = .ok (.aload_n 0, 1) := by decide +kernel
theorem iX8_5 : decode cX8_init 5 = .ok (.bipush 6, 2) := by decide +kernel
theorem iX8_7 : decode cX8_init 7 = .ok (.newarray .int, 2) := by decide +kernel
theorem iX8_9 : decode cX8_init 9 = .ok (.putfield 9, 3) := by decide +kernel
theorem iX8_12 : decode cX8_init 12 = .ok (.aload_n 0, 1) := by decide +kernel
theorem iX8_13 : decode cX8_init 13 = .ok (.bipush 7, 2) := by decide +kernel
theorem iX8_15 : decode cX8_init 15 = .ok (.newarray .int, 2) := by decide +kernel
theorem iX8_17 : decode cX8_init 17 = .ok (.putfield 15, 3) := by decide +kernel
theorem iX8_20 : decode cX8_init 20 = .ok (.aload_n 0, 1) := by decide +kernel
theorem iX8_21 : decode cX8_init 21 = .ok (.bipush 7, 2) := by decide +kernel
theorem iX8_23 : decode cX8_init 23 = .ok (.newarray .int, 2) := by decide +kernel
theorem iX8_25 : decode cX8_init 25 = .ok (.putfield 18, 3) := by decide +kernel
theorem iX8_28 : decode cX8_init 28 = .ok (.return_, 1) := by decide +kernel
abbrev oX8 : va_E := .inr (8, [.int 0, .null, .null, .null])
set_option maxHeartbeats 4000000 in
set_option maxRecDepth 100000 in
theorem c_X8_init (l : Launch) (D : va_G) (cy : Nat → ClassId) (h0 sz : Nat) : Met l yX8_init wiX8 ({ frames := 1, cells := 3, slots := 20, locals := 12 }) (va_Pc [.ref h0] (fun U => U.heap.size = sz ∧ va_P D vwCl [(h0, oX8)] U.heap ∧ va_K D vwCl (mm_tys cy) U ∧ va_D (fun _ => True) [(h0, oX8)])) (va_Qv (fun _ : Nat → Nat => True) (fun u t => va_P D vwCl [(h0, .inr (8, [.int 0, .ref (u 0), .ref (u 1), .ref (u 2)])), (u 0, zI cy 6), (u 1, zI cy 7), (u 2, zI cy 7)] t.heap ∧ va_K D vwCl (mm_tys cy) t ∧ va_D (va_A [(h0, oX8)] sz) [(h0, .inr (8, [.int 0, .ref (u 0), .ref (u 1), .ref (u 2)])), (u 0, zI cy 6), (u 1, zI cy 7), (u 2, zI cy 7)]) (va_A [(h0, oX8)] sz)) 3 20 (va_A [(h0, oX8)] sz) := by
  refine Met.ofW (cc := cX8_init) (maxL := 1) (ret := none) (by decide) rfl ?_
  intro p e s m args below meth c s₁ B hml hv
  obtain ⟨rfl, hsz, hP, hK, hD0⟩ := hv
  have hx := B.exec
  have hb := B.bytes
  have hr := B.returns
  have hts := atoms_spec (ws := wiX8) B.pre
  have hown : s.vm.findClass RX8 = some m.cls := findClass_of_methodNamed B.named
  have hlocks := B.notSynchronized
  have hin : meth.name = "<init>" := (name_of_methodNamed B.named B.method).1
  subst hsz
  have hD := hD0.self (sz := s.heap.size)
  generalize hAe : va_A [(h0, oX8)] s.heap.size = A at hD ⊢
  have hA : ∀ q : Nat, s.heap.size ≤ q → A q := fun q h => by rw [← hAe]; exact Or.inr h
  have hS : va_S A s.heap s.heap [] := va_S.rf
  have hP : va_P D vwCl [(h0, oX8)] s.heap := hP
  have hl := lv_entry ([.ref h0]) (n := 1) (Nat.le_of_ble_eq_true rfl)
  rw [lg_entry_eq]
  generalize (lg_sl ([.ref h0]) ++ List.replicate (1 - (lg_sl ([.ref h0])).length) Slot.unset).toArray = ls at hl ⊢
  have hl : lv_has ls 1 [(0, .ref h0)] := hl
  refine lv_aload_n hx hb iX8_0 rfl (lv_at hl 0 rfl) ?_
  refine W.objInit hx hb hown (hts (.methodLink RX8 3 objectInit) (by decide +kernel)) (hts (.instanceMethod objectInit) (by decide +kernel)) (hts _ (List.mem_cons_of_mem _ (List.mem_append_left _ (List.mem_of_getElem? (i := 2) rfl)))) rfl (by rw [hml]; exact hl.1) rfl iX8_1 (Nat.le_of_ble_eq_true rfl) (Nat.le_of_ble_eq_true rfl) ?_
  refine W.eq (g2 := F0 m 4 ls []) rfl ?_
  refine lv_aload_n hx hb iX8_4 rfl (lv_at hl 0 rfl) ?_
  refine lv_bipush (v := 6) hx hb iX8_5 (by decide +kernel) ?_
  refine va_newC (atype := .int) (ty := .int) (a0 := (6, .inl (fun _ => (0 : Int32)))) (N' := 6) hx hb (hts (.arrayClass .int) (by decide +kernel)) rfl hK hP hD hS hA (fun _ => rfl) (by decide +kernel) (by decide +kernel) (Nat.le_of_ble_eq_true rfl) (Nat.le_of_ble_eq_true rfl) (Nat.le_of_ble_eq_true rfl) iX8_7 (fun _ h => h) 0 rfl (fun q1 H hP hD hS => ?_)
  have hP : va_P D vwCl [(h0, .inr (8, [.int 0, .null, .null, .null])), (q1, zI cy 6)] H := hP
  have hD : va_D A [(h0, .inr (8, [.int 0, .null, .null, .null])), (q1, zI cy 6)] := hD
  refine va_putF (D := D) (ci := 8) (v := .ref q1) (ty := .array .int) (C := RX8) (T := TX8) (N := 4) hx hb hts (by decide +kernel) tyX8 tyX8_ok nmX8 hown hK hP hD hS 0 rfl rfl 1 (by decide) (hts (.fieldLink RX8 9 "WordChanged$Way" "order" "[I") (by decide +kernel)) (fun _ h9 => h9) rfl hin rfl (by decide +kernel) rfl rfl (Nat.le_of_ble_eq_true rfl) iX8_9 (fun H locs hP hD hS => ?_)
  have hP : va_P D vwCl [(h0, .inr (8, [.int 0, .ref q1, .null, .null])), (q1, zI cy 6)] H := hP
  have hD : va_D A [(h0, .inr (8, [.int 0, .ref q1, .null, .null])), (q1, zI cy 6)] := hD
  refine lv_aload_n hx hb iX8_12 rfl (lv_at hl 0 rfl) ?_
  refine lv_bipush (v := 7) hx hb iX8_13 (by decide +kernel) ?_
  refine va_newC (atype := .int) (ty := .int) (a0 := (7, .inl (fun _ => (0 : Int32)))) (N' := 7) hx hb (hts (.arrayClass .int) (by decide +kernel)) rfl hK hP hD hS hA (fun _ => rfl) (by decide +kernel) (by decide +kernel) (Nat.le_of_ble_eq_true rfl) (Nat.le_of_ble_eq_true rfl) (Nat.le_of_ble_eq_true rfl) iX8_15 (fun _ h => h) 0 rfl (fun q2 H hP hD hS => ?_)
  have hP : va_P D vwCl [(h0, .inr (8, [.int 0, .ref q1, .null, .null])), (q1, zI cy 6), (q2, zI cy 7)] H := hP
  have hD : va_D A [(h0, .inr (8, [.int 0, .ref q1, .null, .null])), (q1, zI cy 6), (q2, zI cy 7)] := hD
  refine va_putF (D := D) (ci := 8) (v := .ref q2) (ty := .array .int) (C := RX8) (T := TX8) (N := 4) hx hb hts (by decide +kernel) tyX8 tyX8_ok nmX8 hown hK hP hD hS 0 rfl rfl 2 (by decide) (hts (.fieldLink RX8 15 "WordChanged$Way" "places" "[I") (by decide +kernel)) (fun _ h9 => h9) rfl hin rfl (by decide +kernel) rfl rfl (Nat.le_of_ble_eq_true rfl) iX8_17 (fun H locs hP hD hS => ?_)
  have hP : va_P D vwCl [(h0, .inr (8, [.int 0, .ref q1, .ref q2, .null])), (q1, zI cy 6), (q2, zI cy 7)] H := hP
  have hD : va_D A [(h0, .inr (8, [.int 0, .ref q1, .ref q2, .null])), (q1, zI cy 6), (q2, zI cy 7)] := hD
  refine lv_aload_n hx hb iX8_20 rfl (lv_at hl 0 rfl) ?_
  refine lv_bipush (v := 7) hx hb iX8_21 (by decide +kernel) ?_
  refine va_newC (atype := .int) (ty := .int) (a0 := (7, .inl (fun _ => (0 : Int32)))) (N' := 7) hx hb (hts (.arrayClass .int) (by decide +kernel)) rfl hK hP hD hS hA (fun _ => rfl) (by decide +kernel) (by decide +kernel) (Nat.le_of_ble_eq_true rfl) (Nat.le_of_ble_eq_true rfl) (Nat.le_of_ble_eq_true rfl) iX8_23 (fun _ h => h) 0 rfl (fun q3 H hP hD hS => ?_)
  have hP : va_P D vwCl [(h0, .inr (8, [.int 0, .ref q1, .ref q2, .null])), (q1, zI cy 6), (q2, zI cy 7), (q3, zI cy 7)] H := hP
  have hD : va_D A [(h0, .inr (8, [.int 0, .ref q1, .ref q2, .null])), (q1, zI cy 6), (q2, zI cy 7), (q3, zI cy 7)] := hD
  refine va_putF (D := D) (ci := 8) (v := .ref q3) (ty := .array .int) (C := RX8) (T := TX8) (N := 4) hx hb hts (by decide +kernel) tyX8 tyX8_ok nmX8 hown hK hP hD hS 0 rfl rfl 3 (by decide) (hts (.fieldLink RX8 18 "WordChanged$Way" "behind" "[I") (by decide +kernel)) (fun _ h9 => h9) rfl hin rfl (by decide +kernel) rfl rfl (Nat.le_of_ble_eq_true rfl) iX8_25 (fun H locs hP hD hS => ?_)
  have hP : va_P D vwCl [(h0, .inr (8, [.int 0, .ref q1, .ref q2, .ref q3])), (q1, zI cy 6), (q2, zI cy 7), (q3, zI cy 7)] H := hP
  have hD : va_D A [(h0, .inr (8, [.int 0, .ref q1, .ref q2, .ref q3])), (q1, zI cy 6), (q2, zI cy 7), (q3, zI cy 7)] := hD
  exact W.vret hx hb hr (fun t ht hW => ⟨⟨fun k => [q1, q2, q3].getD k 0, rfl, trivial, by rw [ht]; exact hP, va_K.moved hW.alike hK, hD⟩, hS.F ht⟩) hS.2.2 iX8_28
