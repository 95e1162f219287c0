/-! constructors -/
def wsX5_init : List Cond := .code yX5_init cX5_init 1 none :: ([.methodLink RX5 3 objectInit, .instanceMethod objectInit, .code objectInit ⟨#[0xb1]⟩ 1 none, .arrayClass .int, .fieldLink RX5 9 "WordChanged$Said" "from" "[I", .fieldLink RX5 15 "WordChanged$Said" "to" "[I"] ++ wsX50)
theorem iX5_0 : decode cX5_init 0 = .ok (.aload_n 0, 1) := by decide +kernel
theorem iX5_1 : decode cX5_init 1 = .ok (.invokespecial 3, 3) := by decide +kernel
theorem iX5_4 : decode cX5_init 4 = .ok (.aload_n 0, 1) := by decide +kernel
theorem iX5_5 : decode cX5_init 5 = .ok (.bipush 7, 2) := by decide +kernel
theorem iX5_7 : decode cX5_init 7 = .ok (.newarray .int, 2) := by decide +kernel
theorem iX5_9 : decode cX5_init 9 = .ok (.putfield 9, 3) := by decide +kernel
theorem iX5_12 : decode cX5_init 12 = .ok (.aload_n 0, 1) := by decide +kernel
theorem iX5_13 : decode cX5_init 13 = .ok (.bipush 7, 2) := by decide +kernel
theorem iX5_15 : decode cX5_init 15 = .ok (.newarray .int, 2) := by decide +kernel
theorem iX5_17 : decode cX5_init 17 = .ok (.putfield 15, 3) := by decide +kernel
theorem iX5_20 : decode cX5_init 20 = .ok (.return_, 1) := by decide +kernel
abbrev zI (cy : Nat → ClassId) (n : Nat) : va_E := .inl (cy 1, n, .inl (fun _ => (0 : Int32)))
abbrev oX5 : va_E := .inr (5, [.null, .null])
theorem c_X5_init (l : Launch) (D : va_G) (cy : Nat → ClassId) (h0 sz : Nat) : Met l yX5_init wsX5_init ({ frames := 1, cells := 2, slots := 14, locals := 12 }) (va_Pc [.ref h0] (fun U => U.heap.size = sz ∧ va_P D vwCl [(h0, oX5)] U.heap ∧ va_K D vwCl (mm_tys cy) U ∧ va_D (fun _ => True) [(h0, oX5)])) (va_Qv (fun _ : Nat × Nat => True) (fun u t => va_P D vwCl [(h0, .inr (5, [.ref u.1, .ref u.2])), (u.1, zI cy 7), (u.2, zI cy 7)] t.heap ∧ va_K D vwCl (mm_tys cy) t ∧ va_D (va_A [(h0, oX5)] sz) [(h0, .inr (5, [.ref u.1, .ref u.2])), (u.1, zI cy 7), (u.2, zI cy 7)]) (va_A [(h0, oX5)] sz)) 2 14 (va_A [(h0, oX5)] sz) := by
  refine Met.ofW (cc := cX5_init) (maxL := 1) (ret := none) (by decide) rfl ?_
  intro p e s m args below meth c s₁ B hml hv
  obtain ⟨rfl, hsz, hP, hK, hD0⟩ := hv
  have hx := B.exec
  have hb := B.bytes
  have hr := B.returns
  have hts := atoms_spec (ws := wsX5_init) B.pre
  have hown : s.vm.findClass RX5 = some m.cls := findClass_of_methodNamed B.named
  have hlocks := B.notSynchronized
  have hin : meth.name = "<init>" := (name_of_methodNamed B.named B.method).1
  subst hsz
  have hD := hD0.self (sz := s.heap.size)
  generalize hAe : va_A [(h0, oX5)] s.heap.size = A at hD ⊢
  have hA : ∀ q : Nat, s.heap.size ≤ q → A q := fun q h => by rw [← hAe]; exact Or.inr h
  have hS : va_S A s.heap s.heap [] := va_S.rf
  have hP : va_P D vwCl [(h0, oX5)] s.heap := hP
  have hl := lv_entry ([.ref h0]) (n := 1) (Nat.le_of_ble_eq_true rfl)
  rw [lg_entry_eq]
  generalize (lg_sl ([.ref h0]) ++ List.replicate (1 - (lg_sl ([.ref h0])).length) Slot.unset).toArray = ls at hl ⊢
  have hl : lv_has ls 1 [(0, .ref h0)] := hl
  refine lv_aload_n hx hb iX5_0 rfl (lv_at hl 0 rfl) ?_
  refine W.objInit hx hb hown (hts (.methodLink RX5 3 objectInit) (by decide +kernel)) (hts (.instanceMethod objectInit) (by decide +kernel)) (hts _ (List.mem_cons_of_mem _ (List.mem_append_left _ (List.mem_of_getElem? (i := 2) rfl)))) rfl (by rw [hml]; exact hl.1) rfl iX5_1 (Nat.le_of_ble_eq_true rfl) (Nat.le_of_ble_eq_true rfl) ?_
  refine W.eq (g2 := F0 m 4 ls []) rfl ?_
  refine lv_aload_n hx hb iX5_4 rfl (lv_at hl 0 rfl) ?_
  refine lv_bipush (v := 7) hx hb iX5_5 (by decide +kernel) ?_
  refine va_newC (atype := .int) (ty := .int) (a0 := (7, .inl (fun _ => (0 : Int32)))) (N' := 7) hx hb (hts (.arrayClass .int) (by decide +kernel)) rfl hK hP hD hS hA (fun _ => rfl) (by decide +kernel) (by decide +kernel) (Nat.le_of_ble_eq_true rfl) (Nat.le_of_ble_eq_true rfl) (Nat.le_of_ble_eq_true rfl) iX5_7 (fun _ h => h) 0 rfl (fun q1 H hP hD hS => ?_)
  have hP : va_P D vwCl [(h0, oX5), (q1, zI cy 7)] H := hP
  have hD : va_D A [(h0, oX5), (q1, zI cy 7)] := hD
  refine va_putF (D := D) (ci := 5) (v := .ref q1) (ty := .array .int) (C := RX5) (T := TX5) (N := 2) hx hb hts (by decide +kernel) tyX5 tyX5_ok nmX5 hown hK hP hD hS 0 rfl rfl 0 (by decide) (hts (.fieldLink RX5 9 "WordChanged$Said" "from" "[I") (by decide +kernel)) (fun _ h9 => h9) rfl hin rfl (by decide +kernel) rfl rfl (Nat.le_of_ble_eq_true rfl) iX5_9 (fun H locs hP hD hS => ?_)
  have hP : va_P D vwCl [(h0, .inr (5, [.ref q1, .null])), (q1, zI cy 7)] H := hP
  have hD : va_D A [(h0, .inr (5, [.ref q1, .null])), (q1, zI cy 7)] := hD
  refine lv_aload_n hx hb iX5_12 rfl (lv_at hl 0 rfl) ?_
  refine lv_bipush (v := 7) hx hb iX5_13 (by decide +kernel) ?_
  refine va_newC (atype := .int) (ty := .int) (a0 := (7, .inl (fun _ => (0 : Int32)))) (N' := 7) hx hb (hts (.arrayClass .int) (by decide +kernel)) rfl hK hP hD hS hA (fun _ => rfl) (by decide +kernel) (by decide +kernel) (Nat.le_of_ble_eq_true rfl) (Nat.le_of_ble_eq_true rfl) (Nat.le_of_ble_eq_true rfl) iX5_15 (fun _ h => h) 0 rfl (fun q2 H hP hD hS => ?_)
  have hP : va_P D vwCl [(h0, .inr (5, [.ref q1, .null])), (q1, zI cy 7), (q2, zI cy 7)] H := hP
  have hD : va_D A [(h0, .inr (5, [.ref q1, .null])), (q1, zI cy 7), (q2, zI cy 7)] := hD
  refine va_putF (D := D) (ci := 5) (v := .ref q2) (ty := .array .int) (C := RX5) (T := TX5) (N := 2) hx hb hts (by decide +kernel) tyX5 tyX5_ok nmX5 hown hK hP hD hS 0 rfl rfl 1 (by decide) (hts (.fieldLink RX5 15 "WordChanged$Said" "to" "[I") (by decide +kernel)) (fun _ h9 => h9) rfl hin rfl (by decide +kernel) rfl rfl (Nat.le_of_ble_eq_true rfl) iX5_17 (fun H locs hP hD hS => ?_)
  have hP : va_P D vwCl [(h0, .inr (5, [.ref q1, .ref q2])), (q1, zI cy 7), (q2, zI cy 7)] H := hP
  have hD : va_D A [(h0, .inr (5, [.ref q1, .ref q2])), (q1, zI cy 7), (q2, zI cy 7)] := hD
  exact W.vret hx hb hr (fun t ht hW => ⟨⟨(q1, q2), rfl, trivial, by rw [ht]; exact hP, va_K.moved hW.alike hK, hD⟩, hS.F ht⟩) hS.2.2 iX5_20
