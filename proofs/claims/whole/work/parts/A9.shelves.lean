/-! the shelves: a constructor with a loop, by program (wip/whole/ctor.py) -/
def wiX7 : List Cond := .code yX7_init cX7_init 2 none :: ([.methodLink RX7 3 objectInit, .instanceMethod objectInit, .code objectInit ⟨#[0xb1]⟩ 1 none, .arrayClass .int, .arrayClass .long, .fieldLink RX7 11 "WordChanged$Shelves" "sorts" "[I", .fieldLink RX7 15 "WordChanged$Shelves" "sizes" "[I", .fieldLink RX7 18 "WordChanged$Shelves" "kept" "[I", .fieldLink RX7 21 "WordChanged$Shelves" "elements" "[J"] ++ wsX70)
theorem iX7_0 : decode cX7_init 0 = .ok (.aload_n 0, 1) := by decide +kernel
theorem iX7_1 : decode cX7_init 1 = .ok (.invokespecial 3, 3) := by decide +kernel
theorem iX7_4 : decode cX7_init 4 = .ok (.aload_n 0, 1) := by decide +kernel
theorem iX7_5 : decode cX7_init 5 = .ok (.bipush 6, 2) := by decide +kernel
theorem iX7_7 : decode cX7_init 7 = .ok (.newarray .int, 2) := by decide +kernel
theorem iX7_9 : decode cX7_init 9 = .ok (.putfield 11, 3) := by decide +kernel
theorem iX7_12 : decode cX7_init 12 = .ok (.aload_n 0, 1) := by decide +kernel
theorem iX7_13 : decode cX7_init 13 = .ok (.bipush 6, 2) := by decide +kernel
theorem iX7_15 : decode cX7_init 15 = .ok (.newarray .int, 2) := by decide +kernel
theorem iX7_17 : decode cX7_init 17 = .ok (.putfield 15, 3) := by decide +kernel
theorem iX7_20 : decode cX7_init 20 = .ok (.aload_n 0, 1) := by decide +kernel
theorem iX7_21 : decode cX7_init 21 = .ok (.bipush 6, 2) := by decide +kernel
theorem iX7_23 : decode cX7_init 23 = .ok (.newarray .int, 2) := by decide +kernel
theorem iX7_25 : decode cX7_init 25 = .ok (.putfield 18, 3) := by decide +kernel
theorem iX7_28 : decode cX7_init 28 = .ok (.aload_n 0, 1) := by decide +kernel
theorem iX7_29 : decode cX7_init 29 = .ok (.sipush 360, 3) := by decide +kernel
theorem iX7_32 : decode cX7_init 32 = .ok (.newarray .long, 2) := by decide +kernel
theorem iX7_34 : decode cX7_init 34 = .ok (.putfield 21, 3) := by decide +kernel
theorem iX7_37 : decode cX7_init 37 = .ok (.iconst 0, 1) := by decide +kernel
theorem iX7_38 : decode cX7_init 38 = .ok (.istore_n 1, 1) := by decide +kernel
theorem iX7_39 : decode cX7_init 39 = .ok (.iload_n 1, 1) := by decide +kernel
theorem iX7_40 : decode cX7_init 40 = .ok (.bipush 6, 2) := by decide +kernel
theorem iX7_42 : decode cX7_init 42 = .ok (.if_icmp .ge 16, 3) := by decide +kernel
theorem iX7_45 : decode cX7_init 45 = .ok (.aload_n 0, 1) := by decide +kernel
theorem iX7_46 : decode cX7_init 46 = .ok (.getfield 11, 3) := by decide +kernel
theorem iX7_49 : decode cX7_init 49 = .ok (.iload_n 1, 1) := by decide +kernel
theorem iX7_50 : decode cX7_init 50 = .ok (.iconst (-1), 1) := by decide +kernel
theorem iX7_51 : decode cX7_init 51 = .ok (.iastore, 1) := by decide +kernel
theorem iX7_52 : decode cX7_init 52 = .ok (.iinc 1 1, 3) := by decide +kernel
theorem iX7_55 : decode cX7_init 55 = .ok (.goto (-16), 3) := by decide +kernel
theorem iX7_58 : decode cX7_init 58 = .ok (.return_, 1) := by decide +kernel
abbrev oX7 : va_E := .inr (7, [.null, .null, .null, .null])
set_option maxHeartbeats 4000000 in
set_option maxRecDepth 100000 in
theorem c_X7_init (l : Launch) (D : va_G) (cy : Nat → ClassId) (h0 sz : Nat) : Met l yX7_init wiX7 ({ frames := 1, cells := 4, slots := 378, locals := 13 }) (va_Pc [.ref h0] (fun U => U.heap.size = sz ∧ va_P D vwCl [(h0, oX7)] U.heap ∧ va_K D vwCl (mm_tys cy) U ∧ va_D (fun _ => True) [(h0, oX7)])) (va_Qv (fun _ : Nat → Nat => True) (fun u t => va_P D vwCl [(h0, .inr (7, [.ref (u 0), .ref (u 1), .ref (u 2), .ref (u 3)])), (u 0, .inl (cy 1, 6, .inl (upd (upd (upd (upd (upd (upd (fun _ => (0 : Int32)) 0 (-1)) 1 (-1)) 2 (-1)) 3 (-1)) 4 (-1)) 5 (-1)))), (u 1, zI cy 6), (u 2, zI cy 6), (u 3, zL cy 360)] t.heap ∧ va_K D vwCl (mm_tys cy) t ∧ va_D (va_A [(h0, oX7)] sz) [(h0, .inr (7, [.ref (u 0), .ref (u 1), .ref (u 2), .ref (u 3)])), (u 0, .inl (cy 1, 6, .inl (upd (upd (upd (upd (upd (upd (fun _ => (0 : Int32)) 0 (-1)) 1 (-1)) 2 (-1)) 3 (-1)) 4 (-1)) 5 (-1)))), (u 1, zI cy 6), (u 2, zI cy 6), (u 3, zL cy 360)]) (va_A [(h0, oX7)] sz)) 4 378 (va_A [(h0, oX7)] sz) := by
  refine Met.ofW (cc := cX7_init) (maxL := 2) (ret := none) (by decide) rfl ?_
  intro p e s m args below meth c s₁ B hml hv
  obtain ⟨rfl, hsz, hP, hK, hD0⟩ := hv
  have hx := B.exec
  have hb := B.bytes
  have hr := B.returns
  have hts := atoms_spec (ws := wiX7) B.pre
  have hown : s.vm.findClass RX7 = some m.cls := findClass_of_methodNamed B.named
  have hlocks := B.notSynchronized
  have hin : meth.name = "<init>" := (name_of_methodNamed B.named B.method).1
  subst hsz
  have hD := hD0.self (sz := s.heap.size)
  generalize hAe : va_A [(h0, oX7)] s.heap.size = A at hD ⊢
  have hA : ∀ q : Nat, s.heap.size ≤ q → A q := fun q h => by rw [← hAe]; exact Or.inr h
  have hS : va_S A s.heap s.heap [] := va_S.rf
  have hP : va_P D vwCl [(h0, oX7)] s.heap := hP
  have hl := lv_entry ([.ref h0]) (n := 2) (Nat.le_of_ble_eq_true rfl)
  rw [lg_entry_eq]
  generalize (lg_sl ([.ref h0]) ++ List.replicate (2 - (lg_sl ([.ref h0])).length) Slot.unset).toArray = ls at hl ⊢
  have hl : lv_has ls 2 [(0, .ref h0)] := hl
  refine lv_aload_n hx hb iX7_0 rfl (lv_at hl 0 rfl) ?_
  refine W.objInit hx hb hown (hts (.methodLink RX7 3 objectInit) (by decide +kernel)) (hts (.instanceMethod objectInit) (by decide +kernel)) (hts _ (List.mem_cons_of_mem _ (List.mem_append_left _ (List.mem_of_getElem? (i := 2) rfl)))) rfl (by rw [hml]; exact hl.1) rfl iX7_1 (Nat.le_of_ble_eq_true rfl) (Nat.le_of_ble_eq_true rfl) ?_
  refine W.eq (g2 := F0 m 4 ls []) rfl ?_
  refine lv_aload_n hx hb iX7_4 rfl (lv_at hl 0 rfl) ?_
  refine lv_bipush (v := 6) hx hb iX7_5 (by decide +kernel) ?_
  refine va_newC (atype := .int) (ty := .int) (a0 := (6, .inl (fun _ => (0 : Int32)))) (N' := 6) hx hb (hts (.arrayClass .int) (by decide +kernel)) rfl hK hP hD hS hA (fun _ => rfl) (by decide +kernel) (by decide +kernel) (Nat.le_of_ble_eq_true rfl) (Nat.le_of_ble_eq_true rfl) (Nat.le_of_ble_eq_true rfl) iX7_7 (fun _ h => h) 0 rfl (fun q1 H hP hD hS => ?_)
  have hP : va_P D vwCl [(h0, .inr (7, [.null, .null, .null, .null])), (q1, zI cy 6)] H := hP
  have hD : va_D A [(h0, .inr (7, [.null, .null, .null, .null])), (q1, zI cy 6)] := hD
  refine va_putF (D := D) (ci := 7) (v := .ref q1) (ty := .array .int) (C := RX7) (T := TX7) (N := 4) hx hb hts (by decide +kernel) tyX7 tyX7_ok nmX7 hown hK hP hD hS 0 rfl rfl 0 (by decide) (hts (.fieldLink RX7 11 "WordChanged$Shelves" "sorts" "[I") (by decide +kernel)) (fun _ h9 => h9) rfl hin rfl (by decide +kernel) rfl rfl (Nat.le_of_ble_eq_true rfl) iX7_9 (fun H locs hP hD hS => ?_)
  have hP : va_P D vwCl [(h0, .inr (7, [.ref q1, .null, .null, .null])), (q1, zI cy 6)] H := hP
  have hD : va_D A [(h0, .inr (7, [.ref q1, .null, .null, .null])), (q1, zI cy 6)] := hD
  refine lv_aload_n hx hb iX7_12 rfl (lv_at hl 0 rfl) ?_
  refine lv_bipush (v := 6) hx hb iX7_13 (by decide +kernel) ?_
  refine va_newC (atype := .int) (ty := .int) (a0 := (6, .inl (fun _ => (0 : Int32)))) (N' := 6) hx hb (hts (.arrayClass .int) (by decide +kernel)) rfl hK hP hD hS hA (fun _ => rfl) (by decide +kernel) (by decide +kernel) (Nat.le_of_ble_eq_true rfl) (Nat.le_of_ble_eq_true rfl) (Nat.le_of_ble_eq_true rfl) iX7_15 (fun _ h => h) 0 rfl (fun q2 H hP hD hS => ?_)
  have hP : va_P D vwCl [(h0, .inr (7, [.ref q1, .null, .null, .null])), (q1, zI cy 6), (q2, zI cy 6)] H := hP
  have hD : va_D A [(h0, .inr (7, [.ref q1, .null, .null, .null])), (q1, zI cy 6), (q2, zI cy 6)] := hD
  refine va_putF (D := D) (ci := 7) (v := .ref q2) (ty := .array .int) (C := RX7) (T := TX7) (N := 4) hx hb hts (by decide +kernel) tyX7 tyX7_ok nmX7 hown hK hP hD hS 0 rfl rfl 1 (by decide) (hts (.fieldLink RX7 15 "WordChanged$Shelves" "sizes" "[I") (by decide +kernel)) (fun _ h9 => h9) rfl hin rfl (by decide +kernel) rfl rfl (Nat.le_of_ble_eq_true rfl) iX7_17 (fun H locs hP hD hS => ?_)
  have hP : va_P D vwCl [(h0, .inr (7, [.ref q1, .ref q2, .null, .null])), (q1, zI cy 6), (q2, zI cy 6)] H := hP
  have hD : va_D A [(h0, .inr (7, [.ref q1, .ref q2, .null, .null])), (q1, zI cy 6), (q2, zI cy 6)] := hD
  refine lv_aload_n hx hb iX7_20 rfl (lv_at hl 0 rfl) ?_
  refine lv_bipush (v := 6) hx hb iX7_21 (by decide +kernel) ?_
  refine va_newC (atype := .int) (ty := .int) (a0 := (6, .inl (fun _ => (0 : Int32)))) (N' := 6) hx hb (hts (.arrayClass .int) (by decide +kernel)) rfl hK hP hD hS hA (fun _ => rfl) (by decide +kernel) (by decide +kernel) (Nat.le_of_ble_eq_true rfl) (Nat.le_of_ble_eq_true rfl) (Nat.le_of_ble_eq_true rfl) iX7_23 (fun _ h => h) 0 rfl (fun q3 H hP hD hS => ?_)
  have hP : va_P D vwCl [(h0, .inr (7, [.ref q1, .ref q2, .null, .null])), (q1, zI cy 6), (q2, zI cy 6), (q3, zI cy 6)] H := hP
  have hD : va_D A [(h0, .inr (7, [.ref q1, .ref q2, .null, .null])), (q1, zI cy 6), (q2, zI cy 6), (q3, zI cy 6)] := hD
  refine va_putF (D := D) (ci := 7) (v := .ref q3) (ty := .array .int) (C := RX7) (T := TX7) (N := 4) hx hb hts (by decide +kernel) tyX7 tyX7_ok nmX7 hown hK hP hD hS 0 rfl rfl 2 (by decide) (hts (.fieldLink RX7 18 "WordChanged$Shelves" "kept" "[I") (by decide +kernel)) (fun _ h9 => h9) rfl hin rfl (by decide +kernel) rfl rfl (Nat.le_of_ble_eq_true rfl) iX7_25 (fun H locs hP hD hS => ?_)
  have hP : va_P D vwCl [(h0, .inr (7, [.ref q1, .ref q2, .ref q3, .null])), (q1, zI cy 6), (q2, zI cy 6), (q3, zI cy 6)] H := hP
  have hD : va_D A [(h0, .inr (7, [.ref q1, .ref q2, .ref q3, .null])), (q1, zI cy 6), (q2, zI cy 6), (q3, zI cy 6)] := hD
  refine lv_aload_n hx hb iX7_28 rfl (lv_at hl 0 rfl) ?_
  refine lv_sipush (v := 360) hx hb iX7_29 (by decide +kernel) ?_
  refine va_newC (atype := .long) (ty := .long) (a0 := (360, .inr (.inl (fun _ => (0 : Int64))))) (N' := 360) hx hb (hts (.arrayClass .long) (by decide +kernel)) rfl hK hP hD hS hA (fun _ => rfl) (by decide +kernel) (by decide +kernel) (Nat.le_of_ble_eq_true rfl) (Nat.le_of_ble_eq_true rfl) (Nat.le_of_ble_eq_true rfl) iX7_32 (fun _ h => h) 1 rfl (fun q4 H hP hD hS => ?_)
  have hP : va_P D vwCl [(h0, .inr (7, [.ref q1, .ref q2, .ref q3, .null])), (q1, zI cy 6), (q2, zI cy 6), (q3, zI cy 6), (q4, zL cy 360)] H := hP
  have hD : va_D A [(h0, .inr (7, [.ref q1, .ref q2, .ref q3, .null])), (q1, zI cy 6), (q2, zI cy 6), (q3, zI cy 6), (q4, zL cy 360)] := hD
  refine va_putF (D := D) (ci := 7) (v := .ref q4) (ty := .array .long) (C := RX7) (T := TX7) (N := 4) hx hb hts (by decide +kernel) tyX7 tyX7_ok nmX7 hown hK hP hD hS 0 rfl rfl 3 (by decide) (hts (.fieldLink RX7 21 "WordChanged$Shelves" "elements" "[J") (by decide +kernel)) (fun _ h9 => h9) rfl hin rfl (by decide +kernel) rfl rfl (Nat.le_of_ble_eq_true rfl) iX7_34 (fun H locs hP hD hS => ?_)
  have hP : va_P D vwCl [(h0, .inr (7, [.ref q1, .ref q2, .ref q3, .ref q4])), (q1, zI cy 6), (q2, zI cy 6), (q3, zI cy 6), (q4, zL cy 360)] H := hP
  have hD : va_D A [(h0, .inr (7, [.ref q1, .ref q2, .ref q3, .ref q4])), (q1, zI cy 6), (q2, zI cy 6), (q3, zI cy 6), (q4, zL cy 360)] := hD
  refine lv_iconst (v := 0) hx hb iX7_37 (by decide +kernel) ?_
  refine lv_istore_n (lv' := [(1, .int 0), (0, .ref h0)]) hx hb iX7_38 rfl hl (by decide) rfl (fun ls hl => ?_)
  refine lv_iload_n hx hb iX7_39 rfl (lv_at hl 0 rfl) ?_
  refine lv_bipush (v := 6) hx hb iX7_40 (by decide +kernel) ?_
  refine lv_icmp_ge (tgt := 58) hx hb iX7_42 rfl (fun hc => absurd hc (by decide +kernel)) (fun _ => ?_)
  refine lv_aload_n hx hb iX7_45 rfl (lv_at hl 1 rfl) ?_
  refine va_get (D := D) (ci := 7) (v := .ref q1) (C := RX7) (T := TX7) (N := 4) hx hb hts (by decide +kernel) hown hK hP 0 rfl rfl 0 (by decide) (hts (.fieldLink RX7 11 "WordChanged$Shelves" "sorts" "[I") (by decide +kernel)) (fun _ h9 => h9) rfl iX7_46 ?_
  refine lv_iload_n hx hb iX7_49 rfl (lv_at hl 0 rfl) ?_
  refine lv_iconst (v := -1) hx hb iX7_50 (by decide +kernel) ?_
  refine va_iast hx hb hK hP hD hS 1 0 rfl rfl (by unfold vp_in; decide +kernel) iX7_51 (fun H locs hP hD hS => ?_)
  have hP : va_P D vwCl [(h0, .inr (7, [.ref q1, .ref q2, .ref q3, .ref q4])), (q1, .inl (cy 1, 6, .inl (upd (fun _ => (0 : Int32)) 0 (-1)))), (q2, zI cy 6), (q3, zI cy 6), (q4, zL cy 360)] H := hP
  have hD : va_D A [(h0, .inr (7, [.ref q1, .ref q2, .ref q3, .ref q4])), (q1, .inl (cy 1, 6, .inl (upd (fun _ => (0 : Int32)) 0 (-1)))), (q2, zI cy 6), (q3, zI cy 6), (q4, zL cy 360)] := hD
  refine lv_iinc (v := 1) (k := 0) (lv' := [(1, .int 1), (0, .ref h0)]) hx hb iX7_52 hl rfl (by decide +kernel) (by decide) rfl (fun ls hl => ?_)
  refine lv_goto (tgt := 39) hx hb iX7_55 rfl ?_
  refine lv_iload_n hx hb iX7_39 rfl (lv_at hl 0 rfl) ?_
  refine lv_bipush (v := 6) hx hb iX7_40 (by decide +kernel) ?_
  refine lv_icmp_ge (tgt := 58) hx hb iX7_42 rfl (fun hc => absurd hc (by decide +kernel)) (fun _ => ?_)
  refine lv_aload_n hx hb iX7_45 rfl (lv_at hl 1 rfl) ?_
  refine va_get (D := D) (ci := 7) (v := .ref q1) (C := RX7) (T := TX7) (N := 4) hx hb hts (by decide +kernel) hown hK hP 0 rfl rfl 0 (by decide) (hts (.fieldLink RX7 11 "WordChanged$Shelves" "sorts" "[I") (by decide +kernel)) (fun _ h9 => h9) rfl iX7_46 ?_
  refine lv_iload_n hx hb iX7_49 rfl (lv_at hl 0 rfl) ?_
  refine lv_iconst (v := -1) hx hb iX7_50 (by decide +kernel) ?_
  refine va_iast hx hb hK hP hD hS 1 0 rfl rfl (by unfold vp_in; decide +kernel) iX7_51 (fun H locs hP hD hS => ?_)
  have hP : va_P D vwCl [(h0, .inr (7, [.ref q1, .ref q2, .ref q3, .ref q4])), (q1, .inl (cy 1, 6, .inl (upd (upd (fun _ => (0 : Int32)) 0 (-1)) 1 (-1)))), (q2, zI cy 6), (q3, zI cy 6), (q4, zL cy 360)] H := hP
  have hD : va_D A [(h0, .inr (7, [.ref q1, .ref q2, .ref q3, .ref q4])), (q1, .inl (cy 1, 6, .inl (upd (upd (fun _ => (0 : Int32)) 0 (-1)) 1 (-1)))), (q2, zI cy 6), (q3, zI cy 6), (q4, zL cy 360)] := hD
  refine lv_iinc (v := 2) (k := 0) (lv' := [(1, .int 2), (0, .ref h0)]) hx hb iX7_52 hl rfl (by decide +kernel) (by decide) rfl (fun ls hl => ?_)
  refine lv_goto (tgt := 39) hx hb iX7_55 rfl ?_
  refine lv_iload_n hx hb iX7_39 rfl (lv_at hl 0 rfl) ?_
  refine lv_bipush (v := 6) hx hb iX7_40 (by decide +kernel) ?_
  refine lv_icmp_ge (tgt := 58) hx hb iX7_42 rfl (fun hc => absurd hc (by decide +kernel)) (fun _ => ?_)
  refine lv_aload_n hx hb iX7_45 rfl (lv_at hl 1 rfl) ?_
  refine va_get (D := D) (ci := 7) (v := .ref q1) (C := RX7) (T := TX7) (N := 4) hx hb hts (by decide +kernel) hown hK hP 0 rfl rfl 0 (by decide) (hts (.fieldLink RX7 11 "WordChanged$Shelves" "sorts" "[I") (by decide +kernel)) (fun _ h9 => h9) rfl iX7_46 ?_
  refine lv_iload_n hx hb iX7_49 rfl (lv_at hl 0 rfl) ?_
  refine lv_iconst (v := -1) hx hb iX7_50 (by decide +kernel) ?_
  refine va_iast hx hb hK hP hD hS 1 0 rfl rfl (by unfold vp_in; decide +kernel) iX7_51 (fun H locs hP hD hS => ?_)
  have hP : va_P D vwCl [(h0, .inr (7, [.ref q1, .ref q2, .ref q3, .ref q4])), (q1, .inl (cy 1, 6, .inl (upd (upd (upd (fun _ => (0 : Int32)) 0 (-1)) 1 (-1)) 2 (-1)))), (q2, zI cy 6), (q3, zI cy 6), (q4, zL cy 360)] H := hP
  have hD : va_D A [(h0, .inr (7, [.ref q1, .ref q2, .ref q3, .ref q4])), (q1, .inl (cy 1, 6, .inl (upd (upd (upd (fun _ => (0 : Int32)) 0 (-1)) 1 (-1)) 2 (-1)))), (q2, zI cy 6), (q3, zI cy 6), (q4, zL cy 360)] := hD
  refine lv_iinc (v := 3) (k := 0) (lv' := [(1, .int 3), (0, .ref h0)]) hx hb iX7_52 hl rfl (by decide +kernel) (by decide) rfl (fun ls hl => ?_)
  refine lv_goto (tgt := 39) hx hb iX7_55 rfl ?_
  refine lv_iload_n hx hb iX7_39 rfl (lv_at hl 0 rfl) ?_
  refine lv_bipush (v := 6) hx hb iX7_40 (by decide +kernel) ?_
  refine lv_icmp_ge (tgt := 58) hx hb iX7_42 rfl (fun hc => absurd hc (by decide +kernel)) (fun _ => ?_)
  refine lv_aload_n hx hb iX7_45 rfl (lv_at hl 1 rfl) ?_
  refine va_get (D := D) (ci := 7) (v := .ref q1) (C := RX7) (T := TX7) (N := 4) hx hb hts (by decide +kernel) hown hK hP 0 rfl rfl 0 (by decide) (hts (.fieldLink RX7 11 "WordChanged$Shelves" "sorts" "[I") (by decide +kernel)) (fun _ h9 => h9) rfl iX7_46 ?_
  refine lv_iload_n hx hb iX7_49 rfl (lv_at hl 0 rfl) ?_
  refine lv_iconst (v := -1) hx hb iX7_50 (by decide +kernel) ?_
  refine va_iast hx hb hK hP hD hS 1 0 rfl rfl (by unfold vp_in; decide +kernel) iX7_51 (fun H locs hP hD hS => ?_)
  have hP : va_P D vwCl [(h0, .inr (7, [.ref q1, .ref q2, .ref q3, .ref q4])), (q1, .inl (cy 1, 6, .inl (upd (upd (upd (upd (fun _ => (0 : Int32)) 0 (-1)) 1 (-1)) 2 (-1)) 3 (-1)))), (q2, zI cy 6), (q3, zI cy 6), (q4, zL cy 360)] H := hP
  have hD : va_D A [(h0, .inr (7, [.ref q1, .ref q2, .ref q3, .ref q4])), (q1, .inl (cy 1, 6, .inl (upd (upd (upd (upd (fun _ => (0 : Int32)) 0 (-1)) 1 (-1)) 2 (-1)) 3 (-1)))), (q2, zI cy 6), (q3, zI cy 6), (q4, zL cy 360)] := hD
  refine lv_iinc (v := 4) (k := 0) (lv' := [(1, .int 4), (0, .ref h0)]) hx hb iX7_52 hl rfl (by decide +kernel) (by decide) rfl (fun ls hl => ?_)
  refine lv_goto (tgt := 39) hx hb iX7_55 rfl ?_
  refine lv_iload_n hx hb iX7_39 rfl (lv_at hl 0 rfl) ?_
  refine lv_bipush (v := 6) hx hb iX7_40 (by decide +kernel) ?_
  refine lv_icmp_ge (tgt := 58) hx hb iX7_42 rfl (fun hc => absurd hc (by decide +kernel)) (fun _ => ?_)
  refine lv_aload_n hx hb iX7_45 rfl (lv_at hl 1 rfl) ?_
  refine va_get (D := D) (ci := 7) (v := .ref q1) (C := RX7) (T := TX7) (N := 4) hx hb hts (by decide +kernel) hown hK hP 0 rfl rfl 0 (by decide) (hts (.fieldLink RX7 11 "WordChanged$Shelves" "sorts" "[I") (by decide +kernel)) (fun _ h9 => h9) rfl iX7_46 ?_
  refine lv_iload_n hx hb iX7_49 rfl (lv_at hl 0 rfl) ?_
  refine lv_iconst (v := -1) hx hb iX7_50 (by decide +kernel) ?_
  refine va_iast hx hb hK hP hD hS 1 0 rfl rfl (by unfold vp_in; decide +kernel) iX7_51 (fun H locs hP hD hS => ?_)
  have hP : va_P D vwCl [(h0, .inr (7, [.ref q1, .ref q2, .ref q3, .ref q4])), (q1, .inl (cy 1, 6, .inl (upd (upd (upd (upd (upd (fun _ => (0 : Int32)) 0 (-1)) 1 (-1)) 2 (-1)) 3 (-1)) 4 (-1)))), (q2, zI cy 6), (q3, zI cy 6), (q4, zL cy 360)] H := hP
  have hD : va_D A [(h0, .inr (7, [.ref q1, .ref q2, .ref q3, .ref q4])), (q1, .inl (cy 1, 6, .inl (upd (upd (upd (upd (upd (fun _ => (0 : Int32)) 0 (-1)) 1 (-1)) 2 (-1)) 3 (-1)) 4 (-1)))), (q2, zI cy 6), (q3, zI cy 6), (q4, zL cy 360)] := hD
  refine lv_iinc (v := 5) (k := 0) (lv' := [(1, .int 5), (0, .ref h0)]) hx hb iX7_52 hl rfl (by decide +kernel) (by decide) rfl (fun ls hl => ?_)
  refine lv_goto (tgt := 39) hx hb iX7_55 rfl ?_
  refine lv_iload_n hx hb iX7_39 rfl (lv_at hl 0 rfl) ?_
  refine lv_bipush (v := 6) hx hb iX7_40 (by decide +kernel) ?_
  refine lv_icmp_ge (tgt := 58) hx hb iX7_42 rfl (fun hc => absurd hc (by decide +kernel)) (fun _ => ?_)
  refine lv_aload_n hx hb iX7_45 rfl (lv_at hl 1 rfl) ?_
  refine va_get (D := D) (ci := 7) (v := .ref q1) (C := RX7) (T := TX7) (N := 4) hx hb hts (by decide +kernel) hown hK hP 0 rfl rfl 0 (by decide) (hts (.fieldLink RX7 11 "WordChanged$Shelves" "sorts" "[I") (by decide +kernel)) (fun _ h9 => h9) rfl iX7_46 ?_
  refine lv_iload_n hx hb iX7_49 rfl (lv_at hl 0 rfl) ?_
  refine lv_iconst (v := -1) hx hb iX7_50 (by decide +kernel) ?_
  refine va_iast hx hb hK hP hD hS 1 0 rfl rfl (by unfold vp_in; decide +kernel) iX7_51 (fun H locs hP hD hS => ?_)
  have hP : va_P D vwCl [(h0, .inr (7, [.ref q1, .ref q2, .ref q3, .ref q4])), (q1, .inl (cy 1, 6, .inl (upd (upd (upd (upd (upd (upd (fun _ => (0 : Int32)) 0 (-1)) 1 (-1)) 2 (-1)) 3 (-1)) 4 (-1)) 5 (-1)))), (q2, zI cy 6), (q3, zI cy 6), (q4, zL cy 360)] H := hP
  have hD : va_D A [(h0, .inr (7, [.ref q1, .ref q2, .ref q3, .ref q4])), (q1, .inl (cy 1, 6, .inl (upd (upd (upd (upd (upd (upd (fun _ => (0 : Int32)) 0 (-1)) 1 (-1)) 2 (-1)) 3 (-1)) 4 (-1)) 5 (-1)))), (q2, zI cy 6), (q3, zI cy 6), (q4, zL cy 360)] := hD
  refine lv_iinc (v := 6) (k := 0) (lv' := [(1, .int 6), (0, .ref h0)]) hx hb iX7_52 hl rfl (by decide +kernel) (by decide) rfl (fun ls hl => ?_)
  refine lv_goto (tgt := 39) hx hb iX7_55 rfl ?_
  refine lv_iload_n hx hb iX7_39 rfl (lv_at hl 0 rfl) ?_
  refine lv_bipush (v := 6) hx hb iX7_40 (by decide +kernel) ?_
  refine lv_icmp_ge (tgt := 58) hx hb iX7_42 rfl (fun _ => ?_) (fun hc => absurd (by decide +kernel) hc)
  exact W.vret hx hb hr (fun t ht hW => ⟨⟨fun k => [q1, q2, q3, q4].getD k 0, rfl, trivial, by rw [ht]; exact hP, va_K.moved hW.alike hK, hD⟩, hS.F ht⟩) hS.2.2 iX7_58
