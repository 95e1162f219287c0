/-! the numbers: a constructor with a loop, by program (wip/whole/ctor.py) -/
def wiX4 : List Cond := .code yX4_init cX4_init 2 none :: ([.methodLink RX4 3 objectInit, .instanceMethod objectInit, .code objectInit ⟨#[0xb1]⟩ 1 none, .arrayClass .int, .fieldLink RX4 9 "WordChanged$Numbers" "cells" "[I", .fieldLink RX4 15 "WordChanged$Numbers" "changed" "[I", .fieldLink RX4 18 "WordChanged$Numbers" "before" "[I", .fieldLink RX4 21 "WordChanged$Numbers" "after" "[I", .fieldLink RX4 24 "WordChanged$Numbers" "BASE" "[I"] ++ wsX40)
theorem iX4_0 : decode cX4_init 0 = .ok (.aload_n 0, 1) := by decide +kernel
theorem iX4_1 : decode cX4_init 1 = .ok (.invokespecial 3, 3) := by decide +kernel
theorem iX4_4 : decode cX4_init 4 = .ok (.aload_n 0, 1) := by decide +kernel
theorem iX4_5 : decode cX4_init 5 = .ok (.bipush 57, 2) := by decide +kernel
theorem iX4_7 : decode cX4_init 7 = .ok (.newarray .int, 2) := by decide +kernel
theorem iX4_9 : decode cX4_init 9 = .ok (.putfield 9, 3) := by decide +kernel
theorem iX4_12 : decode cX4_init 12 = .ok (.aload_n 0, 1) := by decide +kernel
theorem iX4_13 : decode cX4_init 13 = .ok (.bipush 40, 2) := by decide +kernel
theorem iX4_15 : decode cX4_init 15 = .ok (.newarray .int, 2) := by decide +kernel
theorem iX4_17 : decode cX4_init 17 = .ok (.putfield 15, 3) := by decide +kernel
theorem iX4_20 : decode cX4_init 20 = .ok (.aload_n 0, 1) := by decide +kernel
theorem iX4_21 : decode cX4_init 21 = .ok (.bipush 40, 2) := by decide +kernel
theorem iX4_23 : decode cX4_init 23 = .ok (.newarray .int, 2) := by decide +kernel
theorem iX4_25 : decode cX4_init 25 = .ok (.putfield 18, 3) := by decide +kernel
theorem iX4_28 : decode cX4_init 28 = .ok (.aload_n 0, 1) := by decide +kernel
theorem iX4_29 : decode cX4_init 29 = .ok (.bipush 40, 2) := by decide +kernel
theorem iX4_31 : decode cX4_init 31 = .ok (.newarray .int, 2) := by decide +kernel
theorem iX4_33 : decode cX4_init 33 = .ok (.putfield 21, 3) := by decide +kernel
theorem iX4_36 : decode cX4_init 36 = .ok (.iconst 0, 1) := by decide +kernel
theorem iX4_37 : decode cX4_init 37 = .ok (.istore_n 1, 1) := by decide +kernel
theorem iX4_38 : decode cX4_init 38 = .ok (.iload_n 1, 1) := by decide +kernel
theorem iX4_39 : decode cX4_init 39 = .ok (.bipush 10, 2) := by decide +kernel
theorem iX4_41 : decode cX4_init 41 = .ok (.if_icmp .ge 40, 3) := by decide +kernel
theorem iX4_44 : decode cX4_init 44 = .ok (.aload_n 0, 1) := by decide +kernel
theorem iX4_45 : decode cX4_init 45 = .ok (.getfield 9, 3) := by decide +kernel
theorem iX4_48 : decode cX4_init 48 = .ok (.getstatic 24, 3) := by decide +kernel
theorem iX4_51 : decode cX4_init 51 = .ok (.iconst 3, 1) := by decide +kernel
theorem iX4_52 : decode cX4_init 52 = .ok (.iaload, 1) := by decide +kernel
theorem iX4_53 : decode cX4_init 53 = .ok (.iload_n 1, 1) := by decide +kernel
theorem iX4_54 : decode cX4_init 54 = .ok (.iadd, 1) := by decide +kernel
theorem iX4_55 : decode cX4_init 55 = .ok (.iconst 3, 1) := by decide +kernel
theorem iX4_56 : decode cX4_init 56 = .ok (.iastore, 1) := by decide +kernel
theorem iX4_57 : decode cX4_init 57 = .ok (.aload_n 0, 1) := by decide +kernel
theorem iX4_58 : decode cX4_init 58 = .ok (.getfield 9, 3) := by decide +kernel
theorem iX4_61 : decode cX4_init 61 = .ok (.getstatic 24, 3) := by decide +kernel
theorem iX4_64 : decode cX4_init 64 = .ok (.iconst 4, 1) := by decide +kernel
theorem iX4_65 : decode cX4_init 65 = .ok (.iaload, 1) := by decide +kernel
theorem iX4_66 : decode cX4_init 66 = .ok (.iload_n 1, 1) := by decide +kernel
theorem iX4_67 : decode cX4_init 67 = .ok (.iadd, 1) := by decide +kernel
theorem iX4_68 : decode cX4_init 68 = .ok (.iload_n 1, 1) := by decide +kernel
theorem iX4_69 : decode cX4_init 69 = .ok (.iconst 1, 1) := by decide +kernel
theorem iX4_70 : decode cX4_init 70 = .ok (.iadd, 1) := by decide +kernel
theorem iX4_71 : decode cX4_init 71 = .ok (.bipush 10, 2) := by decide +kernel
theorem iX4_73 : decode cX4_init 73 = .ok (.irem, 1) := by decide +kernel
theorem iX4_74 : decode cX4_init 74 = .ok (.iastore, 1) := by decide +kernel
theorem iX4_75 : decode cX4_init 75 = .ok (.iinc 1 1, 3) := by decide +kernel
theorem iX4_78 : decode cX4_init 78 = .ok (.goto (-40), 3) := by decide +kernel
theorem iX4_81 : decode cX4_init 81 = .ok (.aload_n 0, 1) := by decide +kernel
theorem iX4_82 : decode cX4_init 82 = .ok (.getfield 9, 3) := by decide +kernel
theorem iX4_85 : decode cX4_init 85 = .ok (.getstatic 24, 3) := by decide +kernel
theorem iX4_88 : decode cX4_init 88 = .ok (.bipush 9, 2) := by decide +kernel
theorem iX4_90 : decode cX4_init 90 = .ok (.iaload, 1) := by decide +kernel
theorem iX4_91 : decode cX4_init 91 = .ok (.iconst 1, 1) := by decide +kernel
theorem iX4_92 : decode cX4_init 92 = .ok (.iastore, 1) := by decide +kernel
theorem iX4_93 : decode cX4_init 93 = .ok (.aload_n 0, 1) := by decide +kernel
theorem iX4_94 : decode cX4_init 94 = .ok (.getfield 9, 3) := by decide +kernel
theorem iX4_97 : decode cX4_init 97 = .ok (.getstatic 24, 3) := by decide +kernel
theorem iX4_100 : decode cX4_init 100 = .ok (.bipush 11, 2) := by decide +kernel
theorem iX4_102 : decode cX4_init 102 = .ok (.iaload, 1) := by decide +kernel
theorem iX4_103 : decode cX4_init 103 = .ok (.bipush 60, 2) := by decide +kernel
theorem iX4_105 : decode cX4_init 105 = .ok (.iastore, 1) := by decide +kernel
theorem iX4_106 : decode cX4_init 106 = .ok (.return_, 1) := by decide +kernel
abbrev oX4 : va_E := .inr (4, [.null, .int 0, .int 0, .int 0, .int 0, .null, .null, .null])
set_option maxHeartbeats 4000000 in
set_option maxRecDepth 100000 in
theorem c_X4_init (l : Launch) (D : va_G) (cy : Nat → ClassId) (h0 sz tb : Nat) : Met l yX4_init wiX4 ({ frames := 1, cells := 4, slots := 177, locals := 13 }) (va_Pc [.ref h0] (fun U => U.heap.size = sz ∧ va_P D vwCl [(h0, oX4)] U.heap ∧ va_K D vwCl (mm_tys cy) U ∧ va_D (fun _ => True) [(h0, oX4)] ∧ va_Z RX4 "BASE" "[I" (.ref tb) (va_A [(h0, oX4)] sz) U U.heap ∧ va_T .int tb 12 (fun i => .int (Int32.ofInt (mm_ct 100 (i : Int)))) (va_A [(h0, oX4)] sz) U U.heap)) (va_Qv (fun _ : Nat → Nat => True) (fun u t => va_P D vwCl [(h0, .inr (4, [.ref (u 0), .int 0, .int 0, .int 0, .int 0, .ref (u 1), .ref (u 2), .ref (u 3)])), (u 0, .inl (cy 1, 57, .inl (upd (upd (upd (upd (upd (upd (upd (upd (upd (upd (upd (upd (upd (upd (upd (upd (upd (upd (upd (upd (upd (upd (fun _ => (0 : Int32)) 21 3) 31 1) 22 3) 32 2) 23 3) 33 3) 24 3) 34 4) 25 3) 35 5) 26 3) 36 6) 27 3) 37 7) 28 3) 38 8) 29 3) 39 9) 30 3) 40 0) 54 1) 56 60))), (u 1, zI cy 40), (u 2, zI cy 40), (u 3, zI cy 40)] t.heap ∧ va_K D vwCl (mm_tys cy) t ∧ va_D (va_A [(h0, oX4)] sz) [(h0, .inr (4, [.ref (u 0), .int 0, .int 0, .int 0, .int 0, .ref (u 1), .ref (u 2), .ref (u 3)])), (u 0, .inl (cy 1, 57, .inl (upd (upd (upd (upd (upd (upd (upd (upd (upd (upd (upd (upd (upd (upd (upd (upd (upd (upd (upd (upd (upd (upd (fun _ => (0 : Int32)) 21 3) 31 1) 22 3) 32 2) 23 3) 33 3) 24 3) 34 4) 25 3) 35 5) 26 3) 36 6) 27 3) 37 7) 28 3) 38 8) 29 3) 39 9) 30 3) 40 0) 54 1) 56 60))), (u 1, zI cy 40), (u 2, zI cy 40), (u 3, zI cy 40)]) (va_A [(h0, oX4)] sz)) 4 177 (va_A [(h0, oX4)] sz) := by
  refine Met.ofW (cc := cX4_init) (maxL := 2) (ret := none) (by decide) rfl ?_
  intro p e s m args below meth c s₁ B hml hv
  obtain ⟨rfl, hsz, hP, hK, hD0, hZ, hT⟩ := hv
  have hx := B.exec
  have hb := B.bytes
  have hr := B.returns
  have hts := atoms_spec (ws := wiX4) B.pre
  have hown : s.vm.findClass RX4 = some m.cls := findClass_of_methodNamed B.named
  have hlocks := B.notSynchronized
  have hin : meth.name = "<init>" := (name_of_methodNamed B.named B.method).1
  subst hsz
  have hD := hD0.self (sz := s.heap.size)
  generalize hAe : va_A [(h0, oX4)] s.heap.size = A at hD hZ hT ⊢
  have hA : ∀ q : Nat, s.heap.size ≤ q → A q := fun q h => by rw [← hAe]; exact Or.inr h
  have hS : va_S A s.heap s.heap [] := va_S.rf
  have hP : va_P D vwCl [(h0, oX4)] s.heap := hP
  have hl := lv_entry ([.ref h0]) (n := 2) (Nat.le_of_ble_eq_true rfl)
  rw [lg_entry_eq]
  generalize (lg_sl ([.ref h0]) ++ List.replicate (2 - (lg_sl ([.ref h0])).length) Slot.unset).toArray = ls at hl ⊢
  have hl : lv_has ls 2 [(0, .ref h0)] := hl
  refine lv_aload_n hx hb iX4_0 rfl (lv_at hl 0 rfl) ?_
  refine W.objInit hx hb hown (hts (.methodLink RX4 3 objectInit) (by decide +kernel)) (hts (.instanceMethod objectInit) (by decide +kernel)) (hts _ (List.mem_cons_of_mem _ (List.mem_append_left _ (List.mem_of_getElem? (i := 2) rfl)))) rfl (by rw [hml]; exact hl.1) rfl iX4_1 (Nat.le_of_ble_eq_true rfl) (Nat.le_of_ble_eq_true rfl) ?_
  refine W.eq (g2 := F0 m 4 ls []) rfl ?_
  refine lv_aload_n hx hb iX4_4 rfl (lv_at hl 0 rfl) ?_
  refine lv_bipush (v := 57) hx hb iX4_5 (by decide +kernel) ?_
  refine va_newC (atype := .int) (ty := .int) (a0 := (57, .inl (fun _ => (0 : Int32)))) (N' := 57) hx hb (hts (.arrayClass .int) (by decide +kernel)) rfl hK hP hD hS hA (fun _ => rfl) (by decide +kernel) (by decide +kernel) (Nat.le_of_ble_eq_true rfl) (Nat.le_of_ble_eq_true rfl) (Nat.le_of_ble_eq_true rfl) iX4_7 (fun _ h => h) 0 rfl (fun q1 H hP hD hS => ?_)
  have hP : va_P D vwCl [(h0, .inr (4, [.null, .int 0, .int 0, .int 0, .int 0, .null, .null, .null])), (q1, zI cy 57)] H := hP
  have hD : va_D A [(h0, .inr (4, [.null, .int 0, .int 0, .int 0, .int 0, .null, .null, .null])), (q1, zI cy 57)] := hD
  refine va_putF (D := D) (ci := 4) (v := .ref q1) (ty := .array .int) (C := RX4) (T := TX4) (N := 8) hx hb hts (by decide +kernel) tyX4 tyX4_ok nmX4 hown hK hP hD hS 0 rfl rfl 0 (by decide) (hts (.fieldLink RX4 9 "WordChanged$Numbers" "cells" "[I") (by decide +kernel)) (fun _ h9 => h9) rfl hin rfl (by decide +kernel) rfl rfl (Nat.le_of_ble_eq_true rfl) iX4_9 (fun H locs hP hD hS => ?_)
  have hP : va_P D vwCl [(h0, .inr (4, [.ref q1, .int 0, .int 0, .int 0, .int 0, .null, .null, .null])), (q1, zI cy 57)] H := hP
  have hD : va_D A [(h0, .inr (4, [.ref q1, .int 0, .int 0, .int 0, .int 0, .null, .null, .null])), (q1, zI cy 57)] := hD
  refine lv_aload_n hx hb iX4_12 rfl (lv_at hl 0 rfl) ?_
  refine lv_bipush (v := 40) hx hb iX4_13 (by decide +kernel) ?_
  refine va_newC (atype := .int) (ty := .int) (a0 := (40, .inl (fun _ => (0 : Int32)))) (N' := 40) hx hb (hts (.arrayClass .int) (by decide +kernel)) rfl hK hP hD hS hA (fun _ => rfl) (by decide +kernel) (by decide +kernel) (Nat.le_of_ble_eq_true rfl) (Nat.le_of_ble_eq_true rfl) (Nat.le_of_ble_eq_true rfl) iX4_15 (fun _ h => h) 0 rfl (fun q2 H hP hD hS => ?_)
  have hP : va_P D vwCl [(h0, .inr (4, [.ref q1, .int 0, .int 0, .int 0, .int 0, .null, .null, .null])), (q1, zI cy 57), (q2, zI cy 40)] H := hP
  have hD : va_D A [(h0, .inr (4, [.ref q1, .int 0, .int 0, .int 0, .int 0, .null, .null, .null])), (q1, zI cy 57), (q2, zI cy 40)] := hD
  refine va_putF (D := D) (ci := 4) (v := .ref q2) (ty := .array .int) (C := RX4) (T := TX4) (N := 8) hx hb hts (by decide +kernel) tyX4 tyX4_ok nmX4 hown hK hP hD hS 0 rfl rfl 5 (by decide) (hts (.fieldLink RX4 15 "WordChanged$Numbers" "changed" "[I") (by decide +kernel)) (fun _ h9 => h9) rfl hin rfl (by decide +kernel) rfl rfl (Nat.le_of_ble_eq_true rfl) iX4_17 (fun H locs hP hD hS => ?_)
  have hP : va_P D vwCl [(h0, .inr (4, [.ref q1, .int 0, .int 0, .int 0, .int 0, .ref q2, .null, .null])), (q1, zI cy 57), (q2, zI cy 40)] H := hP
  have hD : va_D A [(h0, .inr (4, [.ref q1, .int 0, .int 0, .int 0, .int 0, .ref q2, .null, .null])), (q1, zI cy 57), (q2, zI cy 40)] := hD
  refine lv_aload_n hx hb iX4_20 rfl (lv_at hl 0 rfl) ?_
  refine lv_bipush (v := 40) hx hb iX4_21 (by decide +kernel) ?_
  refine va_newC (atype := .int) (ty := .int) (a0 := (40, .inl (fun _ => (0 : Int32)))) (N' := 40) hx hb (hts (.arrayClass .int) (by decide +kernel)) rfl hK hP hD hS hA (fun _ => rfl) (by decide +kernel) (by decide +kernel) (Nat.le_of_ble_eq_true rfl) (Nat.le_of_ble_eq_true rfl) (Nat.le_of_ble_eq_true rfl) iX4_23 (fun _ h => h) 0 rfl (fun q3 H hP hD hS => ?_)
  have hP : va_P D vwCl [(h0, .inr (4, [.ref q1, .int 0, .int 0, .int 0, .int 0, .ref q2, .null, .null])), (q1, zI cy 57), (q2, zI cy 40), (q3, zI cy 40)] H := hP
  have hD : va_D A [(h0, .inr (4, [.ref q1, .int 0, .int 0, .int 0, .int 0, .ref q2, .null, .null])), (q1, zI cy 57), (q2, zI cy 40), (q3, zI cy 40)] := hD
  refine va_putF (D := D) (ci := 4) (v := .ref q3) (ty := .array .int) (C := RX4) (T := TX4) (N := 8) hx hb hts (by decide +kernel) tyX4 tyX4_ok nmX4 hown hK hP hD hS 0 rfl rfl 6 (by decide) (hts (.fieldLink RX4 18 "WordChanged$Numbers" "before" "[I") (by decide +kernel)) (fun _ h9 => h9) rfl hin rfl (by decide +kernel) rfl rfl (Nat.le_of_ble_eq_true rfl) iX4_25 (fun H locs hP hD hS => ?_)
  have hP : va_P D vwCl [(h0, .inr (4, [.ref q1, .int 0, .int 0, .int 0, .int 0, .ref q2, .ref q3, .null])), (q1, zI cy 57), (q2, zI cy 40), (q3, zI cy 40)] H := hP
  have hD : va_D A [(h0, .inr (4, [.ref q1, .int 0, .int 0, .int 0, .int 0, .ref q2, .ref q3, .null])), (q1, zI cy 57), (q2, zI cy 40), (q3, zI cy 40)] := hD
  refine lv_aload_n hx hb iX4_28 rfl (lv_at hl 0 rfl) ?_
  refine lv_bipush (v := 40) hx hb iX4_29 (by decide +kernel) ?_
  refine va_newC (atype := .int) (ty := .int) (a0 := (40, .inl (fun _ => (0 : Int32)))) (N' := 40) hx hb (hts (.arrayClass .int) (by decide +kernel)) rfl hK hP hD hS hA (fun _ => rfl) (by decide +kernel) (by decide +kernel) (Nat.le_of_ble_eq_true rfl) (Nat.le_of_ble_eq_true rfl) (Nat.le_of_ble_eq_true rfl) iX4_31 (fun _ h => h) 0 rfl (fun q4 H hP hD hS => ?_)
  have hP : va_P D vwCl [(h0, .inr (4, [.ref q1, .int 0, .int 0, .int 0, .int 0, .ref q2, .ref q3, .null])), (q1, zI cy 57), (q2, zI cy 40), (q3, zI cy 40), (q4, zI cy 40)] H := hP
  have hD : va_D A [(h0, .inr (4, [.ref q1, .int 0, .int 0, .int 0, .int 0, .ref q2, .ref q3, .null])), (q1, zI cy 57), (q2, zI cy 40), (q3, zI cy 40), (q4, zI cy 40)] := hD
  refine va_putF (D := D) (ci := 4) (v := .ref q4) (ty := .array .int) (C := RX4) (T := TX4) (N := 8) hx hb hts (by decide +kernel) tyX4 tyX4_ok nmX4 hown hK hP hD hS 0 rfl rfl 7 (by decide) (hts (.fieldLink RX4 21 "WordChanged$Numbers" "after" "[I") (by decide +kernel)) (fun _ h9 => h9) rfl hin rfl (by decide +kernel) rfl rfl (Nat.le_of_ble_eq_true rfl) iX4_33 (fun H locs hP hD hS => ?_)
  have hP : va_P D vwCl [(h0, .inr (4, [.ref q1, .int 0, .int 0, .int 0, .int 0, .ref q2, .ref q3, .ref q4])), (q1, zI cy 57), (q2, zI cy 40), (q3, zI cy 40), (q4, zI cy 40)] H := hP
  have hD : va_D A [(h0, .inr (4, [.ref q1, .int 0, .int 0, .int 0, .int 0, .ref q2, .ref q3, .ref q4])), (q1, zI cy 57), (q2, zI cy 40), (q3, zI cy 40), (q4, zI cy 40)] := hD
  refine lv_iconst (v := 0) hx hb iX4_36 (by decide +kernel) ?_
  refine lv_istore_n (lv' := [(1, .int 0), (0, .ref h0)]) hx hb iX4_37 rfl hl (by decide) rfl (fun ls hl => ?_)
  refine lv_iload_n hx hb iX4_38 rfl (lv_at hl 0 rfl) ?_
  refine lv_bipush (v := 10) hx hb iX4_39 (by decide +kernel) ?_
  refine lv_icmp_ge (tgt := 81) hx hb iX4_41 rfl (fun hc => absurd hc (by decide +kernel)) (fun _ => ?_)
  refine lv_aload_n hx hb iX4_44 rfl (lv_at hl 1 rfl) ?_
  refine va_get (D := D) (ci := 4) (v := .ref q1) (C := RX4) (T := TX4) (N := 8) hx hb hts (by decide +kernel) hown hK hP 0 rfl rfl 0 (by decide) (hts (.fieldLink RX4 9 "WordChanged$Numbers" "cells" "[I") (by decide +kernel)) (fun _ h9 => h9) rfl iX4_45 ?_
  refine va_gets hx hb hZ hS hown (hts (.fieldLink RX4 24 "WordChanged$Numbers" "BASE" "[I") (by decide +kernel)) (fun _ h9 => h9) iX4_48 ?_
  refine lv_iconst (v := 3) hx hb iX4_51 (by decide +kernel) ?_
  refine va_ti (v := .int 21) hx hb hT hS (by unfold vp_in; decide +kernel) rfl iX4_52 ?_
  refine lv_iload_n hx hb iX4_53 rfl (lv_at hl 0 rfl) ?_
  refine lv_iadd hx hb iX4_54 ?_
  refine lv_iconst (v := 3) hx hb iX4_55 (by decide +kernel) ?_
  refine va_iast hx hb hK hP hD hS 1 0 rfl rfl (by unfold vp_in; decide +kernel) iX4_56 (fun H locs hP hD hS => ?_)
  have hP : va_P D vwCl [(h0, .inr (4, [.ref q1, .int 0, .int 0, .int 0, .int 0, .ref q2, .ref q3, .ref q4])), (q1, .inl (cy 1, 57, .inl (upd (fun _ => (0 : Int32)) 21 3))), (q2, zI cy 40), (q3, zI cy 40), (q4, zI cy 40)] H := hP
  have hD : va_D A [(h0, .inr (4, [.ref q1, .int 0, .int 0, .int 0, .int 0, .ref q2, .ref q3, .ref q4])), (q1, .inl (cy 1, 57, .inl (upd (fun _ => (0 : Int32)) 21 3))), (q2, zI cy 40), (q3, zI cy 40), (q4, zI cy 40)] := hD
  refine lv_aload_n hx hb iX4_57 rfl (lv_at hl 1 rfl) ?_
  refine va_get (D := D) (ci := 4) (v := .ref q1) (C := RX4) (T := TX4) (N := 8) hx hb hts (by decide +kernel) hown hK hP 0 rfl rfl 0 (by decide) (hts (.fieldLink RX4 9 "WordChanged$Numbers" "cells" "[I") (by decide +kernel)) (fun _ h9 => h9) rfl iX4_58 ?_
  refine va_gets hx hb hZ hS hown (hts (.fieldLink RX4 24 "WordChanged$Numbers" "BASE" "[I") (by decide +kernel)) (fun _ h9 => h9) iX4_61 ?_
  refine lv_iconst (v := 4) hx hb iX4_64 (by decide +kernel) ?_
  refine va_ti (v := .int 31) hx hb hT hS (by unfold vp_in; decide +kernel) rfl iX4_65 ?_
  refine lv_iload_n hx hb iX4_66 rfl (lv_at hl 0 rfl) ?_
  refine lv_iadd hx hb iX4_67 ?_
  refine lv_iload_n hx hb iX4_68 rfl (lv_at hl 0 rfl) ?_
  refine lv_iconst (v := 1) hx hb iX4_69 (by decide +kernel) ?_
  refine lv_iadd hx hb iX4_70 ?_
  refine lv_bipush (v := 10) hx hb iX4_71 (by decide +kernel) ?_
  refine lv_irem hx hb iX4_73 (by decide +kernel) ?_
  refine va_iast hx hb hK hP hD hS 1 0 rfl rfl (by unfold vp_in; decide +kernel) iX4_74 (fun H locs hP hD hS => ?_)
  have hP : va_P D vwCl [(h0, .inr (4, [.ref q1, .int 0, .int 0, .int 0, .int 0, .ref q2, .ref q3, .ref q4])), (q1, .inl (cy 1, 57, .inl (upd (upd (fun _ => (0 : Int32)) 21 3) 31 1))), (q2, zI cy 40), (q3, zI cy 40), (q4, zI cy 40)] H := hP
  have hD : va_D A [(h0, .inr (4, [.ref q1, .int 0, .int 0, .int 0, .int 0, .ref q2, .ref q3, .ref q4])), (q1, .inl (cy 1, 57, .inl (upd (upd (fun _ => (0 : Int32)) 21 3) 31 1))), (q2, zI cy 40), (q3, zI cy 40), (q4, zI cy 40)] := hD
  refine lv_iinc (v := 1) (k := 0) (lv' := [(1, .int 1), (0, .ref h0)]) hx hb iX4_75 hl rfl (by decide +kernel) (by decide) rfl (fun ls hl => ?_)
  refine lv_goto (tgt := 38) hx hb iX4_78 rfl ?_
  refine lv_iload_n hx hb iX4_38 rfl (lv_at hl 0 rfl) ?_
  refine lv_bipush (v := 10) hx hb iX4_39 (by decide +kernel) ?_
  refine lv_icmp_ge (tgt := 81) hx hb iX4_41 rfl (fun hc => absurd hc (by decide +kernel)) (fun _ => ?_)
  refine lv_aload_n hx hb iX4_44 rfl (lv_at hl 1 rfl) ?_
  refine va_get (D := D) (ci := 4) (v := .ref q1) (C := RX4) (T := TX4) (N := 8) hx hb hts (by decide +kernel) hown hK hP 0 rfl rfl 0 (by decide) (hts (.fieldLink RX4 9 "WordChanged$Numbers" "cells" "[I") (by decide +kernel)) (fun _ h9 => h9) rfl iX4_45 ?_
  refine va_gets hx hb hZ hS hown (hts (.fieldLink RX4 24 "WordChanged$Numbers" "BASE" "[I") (by decide +kernel)) (fun _ h9 => h9) iX4_48 ?_
  refine lv_iconst (v := 3) hx hb iX4_51 (by decide +kernel) ?_
  refine va_ti (v := .int 21) hx hb hT hS (by unfold vp_in; decide +kernel) rfl iX4_52 ?_
  refine lv_iload_n hx hb iX4_53 rfl (lv_at hl 0 rfl) ?_
  refine lv_iadd hx hb iX4_54 ?_
  refine lv_iconst (v := 3) hx hb iX4_55 (by decide +kernel) ?_
  refine va_iast hx hb hK hP hD hS 1 0 rfl rfl (by unfold vp_in; decide +kernel) iX4_56 (fun H locs hP hD hS => ?_)
  have hP : va_P D vwCl [(h0, .inr (4, [.ref q1, .int 0, .int 0, .int 0, .int 0, .ref q2, .ref q3, .ref q4])), (q1, .inl (cy 1, 57, .inl (upd (upd (upd (fun _ => (0 : Int32)) 21 3) 31 1) 22 3))), (q2, zI cy 40), (q3, zI cy 40), (q4, zI cy 40)] H := hP
  have hD : va_D A [(h0, .inr (4, [.ref q1, .int 0, .int 0, .int 0, .int 0, .ref q2, .ref q3, .ref q4])), (q1, .inl (cy 1, 57, .inl (upd (upd (upd (fun _ => (0 : Int32)) 21 3) 31 1) 22 3))), (q2, zI cy 40), (q3, zI cy 40), (q4, zI cy 40)] := hD
  refine lv_aload_n hx hb iX4_57 rfl (lv_at hl 1 rfl) ?_
  refine va_get (D := D) (ci := 4) (v := .ref q1) (C := RX4) (T := TX4) (N := 8) hx hb hts (by decide +kernel) hown hK hP 0 rfl rfl 0 (by decide) (hts (.fieldLink RX4 9 "WordChanged$Numbers" "cells" "[I") (by decide +kernel)) (fun _ h9 => h9) rfl iX4_58 ?_
  refine va_gets hx hb hZ hS hown (hts (.fieldLink RX4 24 "WordChanged$Numbers" "BASE" "[I") (by decide +kernel)) (fun _ h9 => h9) iX4_61 ?_
  refine lv_iconst (v := 4) hx hb iX4_64 (by decide +kernel) ?_
  refine va_ti (v := .int 31) hx hb hT hS (by unfold vp_in; decide +kernel) rfl iX4_65 ?_
  refine lv_iload_n hx hb iX4_66 rfl (lv_at hl 0 rfl) ?_
  refine lv_iadd hx hb iX4_67 ?_
  refine lv_iload_n hx hb iX4_68 rfl (lv_at hl 0 rfl) ?_
  refine lv_iconst (v := 1) hx hb iX4_69 (by decide +kernel) ?_
  refine lv_iadd hx hb iX4_70 ?_
  refine lv_bipush (v := 10) hx hb iX4_71 (by decide +kernel) ?_
  refine lv_irem hx hb iX4_73 (by decide +kernel) ?_
  refine va_iast hx hb hK hP hD hS 1 0 rfl rfl (by unfold vp_in; decide +kernel) iX4_74 (fun H locs hP hD hS => ?_)
  have hP : va_P D vwCl [(h0, .inr (4, [.ref q1, .int 0, .int 0, .int 0, .int 0, .ref q2, .ref q3, .ref q4])), (q1, .inl (cy 1, 57, .inl (upd (upd (upd (upd (fun _ => (0 : Int32)) 21 3) 31 1) 22 3) 32 2))), (q2, zI cy 40), (q3, zI cy 40), (q4, zI cy 40)] H := hP
  have hD : va_D A [(h0, .inr (4, [.ref q1, .int 0, .int 0, .int 0, .int 0, .ref q2, .ref q3, .ref q4])), (q1, .inl (cy 1, 57, .inl (upd (upd (upd (upd (fun _ => (0 : Int32)) 21 3) 31 1) 22 3) 32 2))), (q2, zI cy 40), (q3, zI cy 40), (q4, zI cy 40)] := hD
  refine lv_iinc (v := 2) (k := 0) (lv' := [(1, .int 2), (0, .ref h0)]) hx hb iX4_75 hl rfl (by decide +kernel) (by decide) rfl (fun ls hl => ?_)
  refine lv_goto (tgt := 38) hx hb iX4_78 rfl ?_
  refine lv_iload_n hx hb iX4_38 rfl (lv_at hl 0 rfl) ?_
  refine lv_bipush (v := 10) hx hb iX4_39 (by decide +kernel) ?_
  refine lv_icmp_ge (tgt := 81) hx hb iX4_41 rfl (fun hc => absurd hc (by decide +kernel)) (fun _ => ?_)
  refine lv_aload_n hx hb iX4_44 rfl (lv_at hl 1 rfl) ?_
  refine va_get (D := D) (ci := 4) (v := .ref q1) (C := RX4) (T := TX4) (N := 8) hx hb hts (by decide +kernel) hown hK hP 0 rfl rfl 0 (by decide) (hts (.fieldLink RX4 9 "WordChanged$Numbers" "cells" "[I") (by decide +kernel)) (fun _ h9 => h9) rfl iX4_45 ?_
  refine va_gets hx hb hZ hS hown (hts (.fieldLink RX4 24 "WordChanged$Numbers" "BASE" "[I") (by decide +kernel)) (fun _ h9 => h9) iX4_48 ?_
  refine lv_iconst (v := 3) hx hb iX4_51 (by decide +kernel) ?_
  refine va_ti (v := .int 21) hx hb hT hS (by unfold vp_in; decide +kernel) rfl iX4_52 ?_
  refine lv_iload_n hx hb iX4_53 rfl (lv_at hl 0 rfl) ?_
  refine lv_iadd hx hb iX4_54 ?_
  refine lv_iconst (v := 3) hx hb iX4_55 (by decide +kernel) ?_
  refine va_iast hx hb hK hP hD hS 1 0 rfl rfl (by unfold vp_in; decide +kernel) iX4_56 (fun H locs hP hD hS => ?_)
  have hP : va_P D vwCl [(h0, .inr (4, [.ref q1, .int 0, .int 0, .int 0, .int 0, .ref q2, .ref q3, .ref q4])), (q1, .inl (cy 1, 57, .inl (upd (upd (upd (upd (upd (fun _ => (0 : Int32)) 21 3) 31 1) 22 3) 32 2) 23 3))), (q2, zI cy 40), (q3, zI cy 40), (q4, zI cy 40)] H := hP
  have hD : va_D A [(h0, .inr (4, [.ref q1, .int 0, .int 0, .int 0, .int 0, .ref q2, .ref q3, .ref q4])), (q1, .inl (cy 1, 57, .inl (upd (upd (upd (upd (upd (fun _ => (0 : Int32)) 21 3) 31 1) 22 3) 32 2) 23 3))), (q2, zI cy 40), (q3, zI cy 40), (q4, zI cy 40)] := hD
  refine lv_aload_n hx hb iX4_57 rfl (lv_at hl 1 rfl) ?_
  refine va_get (D := D) (ci := 4) (v := .ref q1) (C := RX4) (T := TX4) (N := 8) hx hb hts (by decide +kernel) hown hK hP 0 rfl rfl 0 (by decide) (hts (.fieldLink RX4 9 "WordChanged$Numbers" "cells" "[I") (by decide +kernel)) (fun _ h9 => h9) rfl iX4_58 ?_
  refine va_gets hx hb hZ hS hown (hts (.fieldLink RX4 24 "WordChanged$Numbers" "BASE" "[I") (by decide +kernel)) (fun _ h9 => h9) iX4_61 ?_
  refine lv_iconst (v := 4) hx hb iX4_64 (by decide +kernel) ?_
  refine va_ti (v := .int 31) hx hb hT hS (by unfold vp_in; decide +kernel) rfl iX4_65 ?_
  refine lv_iload_n hx hb iX4_66 rfl (lv_at hl 0 rfl) ?_
  refine lv_iadd hx hb iX4_67 ?_
  refine lv_iload_n hx hb iX4_68 rfl (lv_at hl 0 rfl) ?_
  refine lv_iconst (v := 1) hx hb iX4_69 (by decide +kernel) ?_
  refine lv_iadd hx hb iX4_70 ?_
  refine lv_bipush (v := 10) hx hb iX4_71 (by decide +kernel) ?_
  refine lv_irem hx hb iX4_73 (by decide +kernel) ?_
  refine va_iast hx hb hK hP hD hS 1 0 rfl rfl (by unfold vp_in; decide +kernel) iX4_74 (fun H locs hP hD hS => ?_)
  have hP : va_P D vwCl [(h0, .inr (4, [.ref q1, .int 0, .int 0, .int 0, .int 0, .ref q2, .ref q3, .ref q4])), (q1, .inl (cy 1, 57, .inl (upd (upd (upd (upd (upd (upd (fun _ => (0 : Int32)) 21 3) 31 1) 22 3) 32 2) 23 3) 33 3))), (q2, zI cy 40), (q3, zI cy 40), (q4, zI cy 40)] H := hP
  have hD : va_D A [(h0, .inr (4, [.ref q1, .int 0, .int 0, .int 0, .int 0, .ref q2, .ref q3, .ref q4])), (q1, .inl (cy 1, 57, .inl (upd (upd (upd (upd (upd (upd (fun _ => (0 : Int32)) 21 3) 31 1) 22 3) 32 2) 23 3) 33 3))), (q2, zI cy 40), (q3, zI cy 40), (q4, zI cy 40)] := hD
  refine lv_iinc (v := 3) (k := 0) (lv' := [(1, .int 3), (0, .ref h0)]) hx hb iX4_75 hl rfl (by decide +kernel) (by decide) rfl (fun ls hl => ?_)
  refine lv_goto (tgt := 38) hx hb iX4_78 rfl ?_
  refine lv_iload_n hx hb iX4_38 rfl (lv_at hl 0 rfl) ?_
  refine lv_bipush (v := 10) hx hb iX4_39 (by decide +kernel) ?_
  refine lv_icmp_ge (tgt := 81) hx hb iX4_41 rfl (fun hc => absurd hc (by decide +kernel)) (fun _ => ?_)
  refine lv_aload_n hx hb iX4_44 rfl (lv_at hl 1 rfl) ?_
  refine va_get (D := D) (ci := 4) (v := .ref q1) (C := RX4) (T := TX4) (N := 8) hx hb hts (by decide +kernel) hown hK hP 0 rfl rfl 0 (by decide) (hts (.fieldLink RX4 9 "WordChanged$Numbers" "cells" "[I") (by decide +kernel)) (fun _ h9 => h9) rfl iX4_45 ?_
  refine va_gets hx hb hZ hS hown (hts (.fieldLink RX4 24 "WordChanged$Numbers" "BASE" "[I") (by decide +kernel)) (fun _ h9 => h9) iX4_48 ?_
  refine lv_iconst (v := 3) hx hb iX4_51 (by decide +kernel) ?_
  refine va_ti (v := .int 21) hx hb hT hS (by unfold vp_in; decide +kernel) rfl iX4_52 ?_
  refine lv_iload_n hx hb iX4_53 rfl (lv_at hl 0 rfl) ?_
  refine lv_iadd hx hb iX4_54 ?_
  refine lv_iconst (v := 3) hx hb iX4_55 (by decide +kernel) ?_
  refine va_iast hx hb hK hP hD hS 1 0 rfl rfl (by unfold vp_in; decide +kernel) iX4_56 (fun H locs hP hD hS => ?_)
  have hP : va_P D vwCl [(h0, .inr (4, [.ref q1, .int 0, .int 0, .int 0, .int 0, .ref q2, .ref q3, .ref q4])), (q1, .inl (cy 1, 57, .inl (upd (upd (upd (upd (upd (upd (upd (fun _ => (0 : Int32)) 21 3) 31 1) 22 3) 32 2) 23 3) 33 3) 24 3))), (q2, zI cy 40), (q3, zI cy 40), (q4, zI cy 40)] H := hP
  have hD : va_D A [(h0, .inr (4, [.ref q1, .int 0, .int 0, .int 0, .int 0, .ref q2, .ref q3, .ref q4])), (q1, .inl (cy 1, 57, .inl (upd (upd (upd (upd (upd (upd (upd (fun _ => (0 : Int32)) 21 3) 31 1) 22 3) 32 2) 23 3) 33 3) 24 3))), (q2, zI cy 40), (q3, zI cy 40), (q4, zI cy 40)] := hD
  refine lv_aload_n hx hb iX4_57 rfl (lv_at hl 1 rfl) ?_
  refine va_get (D := D) (ci := 4) (v := .ref q1) (C := RX4) (T := TX4) (N := 8) hx hb hts (by decide +kernel) hown hK hP 0 rfl rfl 0 (by decide) (hts (.fieldLink RX4 9 "WordChanged$Numbers" "cells" "[I") (by decide +kernel)) (fun _ h9 => h9) rfl iX4_58 ?_
  refine va_gets hx hb hZ hS hown (hts (.fieldLink RX4 24 "WordChanged$Numbers" "BASE" "[I") (by decide +kernel)) (fun _ h9 => h9) iX4_61 ?_
  refine lv_iconst (v := 4) hx hb iX4_64 (by decide +kernel) ?_
  refine va_ti (v := .int 31) hx hb hT hS (by unfold vp_in; decide +kernel) rfl iX4_65 ?_
  refine lv_iload_n hx hb iX4_66 rfl (lv_at hl 0 rfl) ?_
  refine lv_iadd hx hb iX4_67 ?_
  refine lv_iload_n hx hb iX4_68 rfl (lv_at hl 0 rfl) ?_
  refine lv_iconst (v := 1) hx hb iX4_69 (by decide +kernel) ?_
  refine lv_iadd hx hb iX4_70 ?_
  refine lv_bipush (v := 10) hx hb iX4_71 (by decide +kernel) ?_
  refine lv_irem hx hb iX4_73 (by decide +kernel) ?_
  refine va_iast hx hb hK hP hD hS 1 0 rfl rfl (by unfold vp_in; decide +kernel) iX4_74 (fun H locs hP hD hS => ?_)
  have hP : va_P D vwCl [(h0, .inr (4, [.ref q1, .int 0, .int 0, .int 0, .int 0, .ref q2, .ref q3, .ref q4])), (q1, .inl (cy 1, 57, .inl (upd (upd (upd (upd (upd (upd (upd (upd (fun _ => (0 : Int32)) 21 3) 31 1) 22 3) 32 2) 23 3) 33 3) 24 3) 34 4))), (q2, zI cy 40), (q3, zI cy 40), (q4, zI cy 40)] H := hP
  have hD : va_D A [(h0, .inr (4, [.ref q1, .int 0, .int 0, .int 0, .int 0, .ref q2, .ref q3, .ref q4])), (q1, .inl (cy 1, 57, .inl (upd (upd (upd (upd (upd (upd (upd (upd (fun _ => (0 : Int32)) 21 3) 31 1) 22 3) 32 2) 23 3) 33 3) 24 3) 34 4))), (q2, zI cy 40), (q3, zI cy 40), (q4, zI cy 40)] := hD
  refine lv_iinc (v := 4) (k := 0) (lv' := [(1, .int 4), (0, .ref h0)]) hx hb iX4_75 hl rfl (by decide +kernel) (by decide) rfl (fun ls hl => ?_)
  refine lv_goto (tgt := 38) hx hb iX4_78 rfl ?_
  refine lv_iload_n hx hb iX4_38 rfl (lv_at hl 0 rfl) ?_
  refine lv_bipush (v := 10) hx hb iX4_39 (by decide +kernel) ?_
  refine lv_icmp_ge (tgt := 81) hx hb iX4_41 rfl (fun hc => absurd hc (by decide +kernel)) (fun _ => ?_)
  refine lv_aload_n hx hb iX4_44 rfl (lv_at hl 1 rfl) ?_
  refine va_get (D := D) (ci := 4) (v := .ref q1) (C := RX4) (T := TX4) (N := 8) hx hb hts (by decide +kernel) hown hK hP 0 rfl rfl 0 (by decide) (hts (.fieldLink RX4 9 "WordChanged$Numbers" "cells" "[I") (by decide +kernel)) (fun _ h9 => h9) rfl iX4_45 ?_
  refine va_gets hx hb hZ hS hown (hts (.fieldLink RX4 24 "WordChanged$Numbers" "BASE" "[I") (by decide +kernel)) (fun _ h9 => h9) iX4_48 ?_
  refine lv_iconst (v := 3) hx hb iX4_51 (by decide +kernel) ?_
  refine va_ti (v := .int 21) hx hb hT hS (by unfold vp_in; decide +kernel) rfl iX4_52 ?_
  refine lv_iload_n hx hb iX4_53 rfl (lv_at hl 0 rfl) ?_
  refine lv_iadd hx hb iX4_54 ?_
  refine lv_iconst (v := 3) hx hb iX4_55 (by decide +kernel) ?_
  refine va_iast hx hb hK hP hD hS 1 0 rfl rfl (by unfold vp_in; decide +kernel) iX4_56 (fun H locs hP hD hS => ?_)
  have hP : va_P D vwCl [(h0, .inr (4, [.ref q1, .int 0, .int 0, .int 0, .int 0, .ref q2, .ref q3, .ref q4])), (q1, .inl (cy 1, 57, .inl (upd (upd (upd (upd (upd (upd (upd (upd (upd (fun _ => (0 : Int32)) 21 3) 31 1) 22 3) 32 2) 23 3) 33 3) 24 3) 34 4) 25 3))), (q2, zI cy 40), (q3, zI cy 40), (q4, zI cy 40)] H := hP
  have hD : va_D A [(h0, .inr (4, [.ref q1, .int 0, .int 0, .int 0, .int 0, .ref q2, .ref q3, .ref q4])), (q1, .inl (cy 1, 57, .inl (upd (upd (upd (upd (upd (upd (upd (upd (upd (fun _ => (0 : Int32)) 21 3) 31 1) 22 3) 32 2) 23 3) 33 3) 24 3) 34 4) 25 3))), (q2, zI cy 40), (q3, zI cy 40), (q4, zI cy 40)] := hD
  refine lv_aload_n hx hb iX4_57 rfl (lv_at hl 1 rfl) ?_
  refine va_get (D := D) (ci := 4) (v := .ref q1) (C := RX4) (T := TX4) (N := 8) hx hb hts (by decide +kernel) hown hK hP 0 rfl rfl 0 (by decide) (hts (.fieldLink RX4 9 "WordChanged$Numbers" "cells" "[I") (by decide +kernel)) (fun _ h9 => h9) rfl iX4_58 ?_
  refine va_gets hx hb hZ hS hown (hts (.fieldLink RX4 24 "WordChanged$Numbers" "BASE" "[I") (by decide +kernel)) (fun _ h9 => h9) iX4_61 ?_
  refine lv_iconst (v := 4) hx hb iX4_64 (by decide +kernel) ?_
  refine va_ti (v := .int 31) hx hb hT hS (by unfold vp_in; decide +kernel) rfl iX4_65 ?_
  refine lv_iload_n hx hb iX4_66 rfl (lv_at hl 0 rfl) ?_
  refine lv_iadd hx hb iX4_67 ?_
  refine lv_iload_n hx hb iX4_68 rfl (lv_at hl 0 rfl) ?_
  refine lv_iconst (v := 1) hx hb iX4_69 (by decide +kernel) ?_
  refine lv_iadd hx hb iX4_70 ?_
  refine lv_bipush (v := 10) hx hb iX4_71 (by decide +kernel) ?_
  refine lv_irem hx hb iX4_73 (by decide +kernel) ?_
  refine va_iast hx hb hK hP hD hS 1 0 rfl rfl (by unfold vp_in; decide +kernel) iX4_74 (fun H locs hP hD hS => ?_)
  have hP : va_P D vwCl [(h0, .inr (4, [.ref q1, .int 0, .int 0, .int 0, .int 0, .ref q2, .ref q3, .ref q4])), (q1, .inl (cy 1, 57, .inl (upd (upd (upd (upd (upd (upd (upd (upd (upd (upd (fun _ => (0 : Int32)) 21 3) 31 1) 22 3) 32 2) 23 3) 33 3) 24 3) 34 4) 25 3) 35 5))), (q2, zI cy 40), (q3, zI cy 40), (q4, zI cy 40)] H := hP
  have hD : va_D A [(h0, .inr (4, [.ref q1, .int 0, .int 0, .int 0, .int 0, .ref q2, .ref q3, .ref q4])), (q1, .inl (cy 1, 57, .inl (upd (upd (upd (upd (upd (upd (upd (upd (upd (upd (fun _ => (0 : Int32)) 21 3) 31 1) 22 3) 32 2) 23 3) 33 3) 24 3) 34 4) 25 3) 35 5))), (q2, zI cy 40), (q3, zI cy 40), (q4, zI cy 40)] := hD
  refine lv_iinc (v := 5) (k := 0) (lv' := [(1, .int 5), (0, .ref h0)]) hx hb iX4_75 hl rfl (by decide +kernel) (by decide) rfl (fun ls hl => ?_)
  refine lv_goto (tgt := 38) hx hb iX4_78 rfl ?_
  refine lv_iload_n hx hb iX4_38 rfl (lv_at hl 0 rfl) ?_
  refine lv_bipush (v := 10) hx hb iX4_39 (by decide +kernel) ?_
  refine lv_icmp_ge (tgt := 81) hx hb iX4_41 rfl (fun hc => absurd hc (by decide +kernel)) (fun _ => ?_)
  refine lv_aload_n hx hb iX4_44 rfl (lv_at hl 1 rfl) ?_
  refine va_get (D := D) (ci := 4) (v := .ref q1) (C := RX4) (T := TX4) (N := 8) hx hb hts (by decide +kernel) hown hK hP 0 rfl rfl 0 (by decide) (hts (.fieldLink RX4 9 "WordChanged$Numbers" "cells" "[I") (by decide +kernel)) (fun _ h9 => h9) rfl iX4_45 ?_
  refine va_gets hx hb hZ hS hown (hts (.fieldLink RX4 24 "WordChanged$Numbers" "BASE" "[I") (by decide +kernel)) (fun _ h9 => h9) iX4_48 ?_
  refine lv_iconst (v := 3) hx hb iX4_51 (by decide +kernel) ?_
  refine va_ti (v := .int 21) hx hb hT hS (by unfold vp_in; decide +kernel) rfl iX4_52 ?_
  refine lv_iload_n hx hb iX4_53 rfl (lv_at hl 0 rfl) ?_
  refine lv_iadd hx hb iX4_54 ?_
  refine lv_iconst (v := 3) hx hb iX4_55 (by decide +kernel) ?_
  refine va_iast hx hb hK hP hD hS 1 0 rfl rfl (by unfold vp_in; decide +kernel) iX4_56 (fun H locs hP hD hS => ?_)
  have hP : va_P D vwCl [(h0, .inr (4, [.ref q1, .int 0, .int 0, .int 0, .int 0, .ref q2, .ref q3, .ref q4])), (q1, .inl (cy 1, 57, .inl (upd (upd (upd (upd (upd (upd (upd (upd (upd (upd (upd (fun _ => (0 : Int32)) 21 3) 31 1) 22 3) 32 2) 23 3) 33 3) 24 3) 34 4) 25 3) 35 5) 26 3))), (q2, zI cy 40), (q3, zI cy 40), (q4, zI cy 40)] H := hP
  have hD : va_D A [(h0, .inr (4, [.ref q1, .int 0, .int 0, .int 0, .int 0, .ref q2, .ref q3, .ref q4])), (q1, .inl (cy 1, 57, .inl (upd (upd (upd (upd (upd (upd (upd (upd (upd (upd (upd (fun _ => (0 : Int32)) 21 3) 31 1) 22 3) 32 2) 23 3) 33 3) 24 3) 34 4) 25 3) 35 5) 26 3))), (q2, zI cy 40), (q3, zI cy 40), (q4, zI cy 40)] := hD
  refine lv_aload_n hx hb iX4_57 rfl (lv_at hl 1 rfl) ?_
  refine va_get (D := D) (ci := 4) (v := .ref q1) (C := RX4) (T := TX4) (N := 8) hx hb hts (by decide +kernel) hown hK hP 0 rfl rfl 0 (by decide) (hts (.fieldLink RX4 9 "WordChanged$Numbers" "cells" "[I") (by decide +kernel)) (fun _ h9 => h9) rfl iX4_58 ?_
  refine va_gets hx hb hZ hS hown (hts (.fieldLink RX4 24 "WordChanged$Numbers" "BASE" "[I") (by decide +kernel)) (fun _ h9 => h9) iX4_61 ?_
  refine lv_iconst (v := 4) hx hb iX4_64 (by decide +kernel) ?_
  refine va_ti (v := .int 31) hx hb hT hS (by unfold vp_in; decide +kernel) rfl iX4_65 ?_
  refine lv_iload_n hx hb iX4_66 rfl (lv_at hl 0 rfl) ?_
  refine lv_iadd hx hb iX4_67 ?_
  refine lv_iload_n hx hb iX4_68 rfl (lv_at hl 0 rfl) ?_
  refine lv_iconst (v := 1) hx hb iX4_69 (by decide +kernel) ?_
  refine lv_iadd hx hb iX4_70 ?_
  refine lv_bipush (v := 10) hx hb iX4_71 (by decide +kernel) ?_
  refine lv_irem hx hb iX4_73 (by decide +kernel) ?_
  refine va_iast hx hb hK hP hD hS 1 0 rfl rfl (by unfold vp_in; decide +kernel) iX4_74 (fun H locs hP hD hS => ?_)
  have hP : va_P D vwCl [(h0, .inr (4, [.ref q1, .int 0, .int 0, .int 0, .int 0, .ref q2, .ref q3, .ref q4])), (q1, .inl (cy 1, 57, .inl (upd (upd (upd (upd (upd (upd (upd (upd (upd (upd (upd (upd (fun _ => (0 : Int32)) 21 3) 31 1) 22 3) 32 2) 23 3) 33 3) 24 3) 34 4) 25 3) 35 5) 26 3) 36 6))), (q2, zI cy 40), (q3, zI cy 40), (q4, zI cy 40)] H := hP
  have hD : va_D A [(h0, .inr (4, [.ref q1, .int 0, .int 0, .int 0, .int 0, .ref q2, .ref q3, .ref q4])), (q1, .inl (cy 1, 57, .inl (upd (upd (upd (upd (upd (upd (upd (upd (upd (upd (upd (upd (fun _ => (0 : Int32)) 21 3) 31 1) 22 3) 32 2) 23 3) 33 3) 24 3) 34 4) 25 3) 35 5) 26 3) 36 6))), (q2, zI cy 40), (q3, zI cy 40), (q4, zI cy 40)] := hD
  refine lv_iinc (v := 6) (k := 0) (lv' := [(1, .int 6), (0, .ref h0)]) hx hb iX4_75 hl rfl (by decide +kernel) (by decide) rfl (fun ls hl => ?_)
  refine lv_goto (tgt := 38) hx hb iX4_78 rfl ?_
  refine lv_iload_n hx hb iX4_38 rfl (lv_at hl 0 rfl) ?_
  refine lv_bipush (v := 10) hx hb iX4_39 (by decide +kernel) ?_
  refine lv_icmp_ge (tgt := 81) hx hb iX4_41 rfl (fun hc => absurd hc (by decide +kernel)) (fun _ => ?_)
  refine lv_aload_n hx hb iX4_44 rfl (lv_at hl 1 rfl) ?_
  refine va_get (D := D) (ci := 4) (v := .ref q1) (C := RX4) (T := TX4) (N := 8) hx hb hts (by decide +kernel) hown hK hP 0 rfl rfl 0 (by decide) (hts (.fieldLink RX4 9 "WordChanged$Numbers" "cells" "[I") (by decide +kernel)) (fun _ h9 => h9) rfl iX4_45 ?_
  refine va_gets hx hb hZ hS hown (hts (.fieldLink RX4 24 "WordChanged$Numbers" "BASE" "[I") (by decide +kernel)) (fun _ h9 => h9) iX4_48 ?_
  refine lv_iconst (v := 3) hx hb iX4_51 (by decide +kernel) ?_
  refine va_ti (v := .int 21) hx hb hT hS (by unfold vp_in; decide +kernel) rfl iX4_52 ?_
  refine lv_iload_n hx hb iX4_53 rfl (lv_at hl 0 rfl) ?_
  refine lv_iadd hx hb iX4_54 ?_
  refine lv_iconst (v := 3) hx hb iX4_55 (by decide +kernel) ?_
  refine va_iast hx hb hK hP hD hS 1 0 rfl rfl (by unfold vp_in; decide +kernel) iX4_56 (fun H locs hP hD hS => ?_)
  have hP : va_P D vwCl [(h0, .inr (4, [.ref q1, .int 0, .int 0, .int 0, .int 0, .ref q2, .ref q3, .ref q4])), (q1, .inl (cy 1, 57, .inl (upd (upd (upd (upd (upd (upd (upd (upd (upd (upd (upd (upd (upd (fun _ => (0 : Int32)) 21 3) 31 1) 22 3) 32 2) 23 3) 33 3) 24 3) 34 4) 25 3) 35 5) 26 3) 36 6) 27 3))), (q2, zI cy 40), (q3, zI cy 40), (q4, zI cy 40)] H := hP
  have hD : va_D A [(h0, .inr (4, [.ref q1, .int 0, .int 0, .int 0, .int 0, .ref q2, .ref q3, .ref q4])), (q1, .inl (cy 1, 57, .inl (upd (upd (upd (upd (upd (upd (upd (upd (upd (upd (upd (upd (upd (fun _ => (0 : Int32)) 21 3) 31 1) 22 3) 32 2) 23 3) 33 3) 24 3) 34 4) 25 3) 35 5) 26 3) 36 6) 27 3))), (q2, zI cy 40), (q3, zI cy 40), (q4, zI cy 40)] := hD
  refine lv_aload_n hx hb iX4_57 rfl (lv_at hl 1 rfl) ?_
  refine va_get (D := D) (ci := 4) (v := .ref q1) (C := RX4) (T := TX4) (N := 8) hx hb hts (by decide +kernel) hown hK hP 0 rfl rfl 0 (by decide) (hts (.fieldLink RX4 9 "WordChanged$Numbers" "cells" "[I") (by decide +kernel)) (fun _ h9 => h9) rfl iX4_58 ?_
  refine va_gets hx hb hZ hS hown (hts (.fieldLink RX4 24 "WordChanged$Numbers" "BASE" "[I") (by decide +kernel)) (fun _ h9 => h9) iX4_61 ?_
  refine lv_iconst (v := 4) hx hb iX4_64 (by decide +kernel) ?_
  refine va_ti (v := .int 31) hx hb hT hS (by unfold vp_in; decide +kernel) rfl iX4_65 ?_
  refine lv_iload_n hx hb iX4_66 rfl (lv_at hl 0 rfl) ?_
  refine lv_iadd hx hb iX4_67 ?_
  refine lv_iload_n hx hb iX4_68 rfl (lv_at hl 0 rfl) ?_
  refine lv_iconst (v := 1) hx hb iX4_69 (by decide +kernel) ?_
  refine lv_iadd hx hb iX4_70 ?_
  refine lv_bipush (v := 10) hx hb iX4_71 (by decide +kernel) ?_
  refine lv_irem hx hb iX4_73 (by decide +kernel) ?_
  refine va_iast hx hb hK hP hD hS 1 0 rfl rfl (by unfold vp_in; decide +kernel) iX4_74 (fun H locs hP hD hS => ?_)
  have hP : va_P D vwCl [(h0, .inr (4, [.ref q1, .int 0, .int 0, .int 0, .int 0, .ref q2, .ref q3, .ref q4])), (q1, .inl (cy 1, 57, .inl (upd (upd (upd (upd (upd (upd (upd (upd (upd (upd (upd (upd (upd (upd (fun _ => (0 : Int32)) 21 3) 31 1) 22 3) 32 2) 23 3) 33 3) 24 3) 34 4) 25 3) 35 5) 26 3) 36 6) 27 3) 37 7))), (q2, zI cy 40), (q3, zI cy 40), (q4, zI cy 40)] H := hP
  have hD : va_D A [(h0, .inr (4, [.ref q1, .int 0, .int 0, .int 0, .int 0, .ref q2, .ref q3, .ref q4])), (q1, .inl (cy 1, 57, .inl (upd (upd (upd (upd (upd (upd (upd (upd (upd (upd (upd (upd (upd (upd (fun _ => (0 : Int32)) 21 3) 31 1) 22 3) 32 2) 23 3) 33 3) 24 3) 34 4) 25 3) 35 5) 26 3) 36 6) 27 3) 37 7))), (q2, zI cy 40), (q3, zI cy 40), (q4, zI cy 40)] := hD
  refine lv_iinc (v := 7) (k := 0) (lv' := [(1, .int 7), (0, .ref h0)]) hx hb iX4_75 hl rfl (by decide +kernel) (by decide) rfl (fun ls hl => ?_)
  refine lv_goto (tgt := 38) hx hb iX4_78 rfl ?_
  refine lv_iload_n hx hb iX4_38 rfl (lv_at hl 0 rfl) ?_
  refine lv_bipush (v := 10) hx hb iX4_39 (by decide +kernel) ?_
  refine lv_icmp_ge (tgt := 81) hx hb iX4_41 rfl (fun hc => absurd hc (by decide +kernel)) (fun _ => ?_)
  refine lv_aload_n hx hb iX4_44 rfl (lv_at hl 1 rfl) ?_
  refine va_get (D := D) (ci := 4) (v := .ref q1) (C := RX4) (T := TX4) (N := 8) hx hb hts (by decide +kernel) hown hK hP 0 rfl rfl 0 (by decide) (hts (.fieldLink RX4 9 "WordChanged$Numbers" "cells" "[I") (by decide +kernel)) (fun _ h9 => h9) rfl iX4_45 ?_
  refine va_gets hx hb hZ hS hown (hts (.fieldLink RX4 24 "WordChanged$Numbers" "BASE" "[I") (by decide +kernel)) (fun _ h9 => h9) iX4_48 ?_
  refine lv_iconst (v := 3) hx hb iX4_51 (by decide +kernel) ?_
  refine va_ti (v := .int 21) hx hb hT hS (by unfold vp_in; decide +kernel) rfl iX4_52 ?_
  refine lv_iload_n hx hb iX4_53 rfl (lv_at hl 0 rfl) ?_
  refine lv_iadd hx hb iX4_54 ?_
  refine lv_iconst (v := 3) hx hb iX4_55 (by decide +kernel) ?_
  refine va_iast hx hb hK hP hD hS 1 0 rfl rfl (by unfold vp_in; decide +kernel) iX4_56 (fun H locs hP hD hS => ?_)
  have hP : va_P D vwCl [(h0, .inr (4, [.ref q1, .int 0, .int 0, .int 0, .int 0, .ref q2, .ref q3, .ref q4])), (q1, .inl (cy 1, 57, .inl (upd (upd (upd (upd (upd (upd (upd (upd (upd (upd (upd (upd (upd (upd (upd (fun _ => (0 : Int32)) 21 3) 31 1) 22 3) 32 2) 23 3) 33 3) 24 3) 34 4) 25 3) 35 5) 26 3) 36 6) 27 3) 37 7) 28 3))), (q2, zI cy 40), (q3, zI cy 40), (q4, zI cy 40)] H := hP
  have hD : va_D A [(h0, .inr (4, [.ref q1, .int 0, .int 0, .int 0, .int 0, .ref q2, .ref q3, .ref q4])), (q1, .inl (cy 1, 57, .inl (upd (upd (upd (upd (upd (upd (upd (upd (upd (upd (upd (upd (upd (upd (upd (fun _ => (0 : Int32)) 21 3) 31 1) 22 3) 32 2) 23 3) 33 3) 24 3) 34 4) 25 3) 35 5) 26 3) 36 6) 27 3) 37 7) 28 3))), (q2, zI cy 40), (q3, zI cy 40), (q4, zI cy 40)] := hD
  refine lv_aload_n hx hb iX4_57 rfl (lv_at hl 1 rfl) ?_
  refine va_get (D := D) (ci := 4) (v := .ref q1) (C := RX4) (T := TX4) (N := 8) hx hb hts (by decide +kernel) hown hK hP 0 rfl rfl 0 (by decide) (hts (.fieldLink RX4 9 "WordChanged$Numbers" "cells" "[I") (by decide +kernel)) (fun _ h9 => h9) rfl iX4_58 ?_
  refine va_gets hx hb hZ hS hown (hts (.fieldLink RX4 24 "WordChanged$Numbers" "BASE" "[I") (by decide +kernel)) (fun _ h9 => h9) iX4_61 ?_
  refine lv_iconst (v := 4) hx hb iX4_64 (by decide +kernel) ?_
  refine va_ti (v := .int 31) hx hb hT hS (by unfold vp_in; decide +kernel) rfl iX4_65 ?_
  refine lv_iload_n hx hb iX4_66 rfl (lv_at hl 0 rfl) ?_
  refine lv_iadd hx hb iX4_67 ?_
  refine lv_iload_n hx hb iX4_68 rfl (lv_at hl 0 rfl) ?_
  refine lv_iconst (v := 1) hx hb iX4_69 (by decide +kernel) ?_
  refine lv_iadd hx hb iX4_70 ?_
  refine lv_bipush (v := 10) hx hb iX4_71 (by decide +kernel) ?_
  refine lv_irem hx hb iX4_73 (by decide +kernel) ?_
  refine va_iast hx hb hK hP hD hS 1 0 rfl rfl (by unfold vp_in; decide +kernel) iX4_74 (fun H locs hP hD hS => ?_)
  have hP : va_P D vwCl [(h0, .inr (4, [.ref q1, .int 0, .int 0, .int 0, .int 0, .ref q2, .ref q3, .ref q4])), (q1, .inl (cy 1, 57, .inl (upd (upd (upd (upd (upd (upd (upd (upd (upd (upd (upd (upd (upd (upd (upd (upd (fun _ => (0 : Int32)) 21 3) 31 1) 22 3) 32 2) 23 3) 33 3) 24 3) 34 4) 25 3) 35 5) 26 3) 36 6) 27 3) 37 7) 28 3) 38 8))), (q2, zI cy 40), (q3, zI cy 40), (q4, zI cy 40)] H := hP
  have hD : va_D A [(h0, .inr (4, [.ref q1, .int 0, .int 0, .int 0, .int 0, .ref q2, .ref q3, .ref q4])), (q1, .inl (cy 1, 57, .inl (upd (upd (upd (upd (upd (upd (upd (upd (upd (upd (upd (upd (upd (upd (upd (upd (fun _ => (0 : Int32)) 21 3) 31 1) 22 3) 32 2) 23 3) 33 3) 24 3) 34 4) 25 3) 35 5) 26 3) 36 6) 27 3) 37 7) 28 3) 38 8))), (q2, zI cy 40), (q3, zI cy 40), (q4, zI cy 40)] := hD
  refine lv_iinc (v := 8) (k := 0) (lv' := [(1, .int 8), (0, .ref h0)]) hx hb iX4_75 hl rfl (by decide +kernel) (by decide) rfl (fun ls hl => ?_)
  refine lv_goto (tgt := 38) hx hb iX4_78 rfl ?_
  refine lv_iload_n hx hb iX4_38 rfl (lv_at hl 0 rfl) ?_
  refine lv_bipush (v := 10) hx hb iX4_39 (by decide +kernel) ?_
  refine lv_icmp_ge (tgt := 81) hx hb iX4_41 rfl (fun hc => absurd hc (by decide +kernel)) (fun _ => ?_)
  refine lv_aload_n hx hb iX4_44 rfl (lv_at hl 1 rfl) ?_
  refine va_get (D := D) (ci := 4) (v := .ref q1) (C := RX4) (T := TX4) (N := 8) hx hb hts (by decide +kernel) hown hK hP 0 rfl rfl 0 (by decide) (hts (.fieldLink RX4 9 "WordChanged$Numbers" "cells" "[I") (by decide +kernel)) (fun _ h9 => h9) rfl iX4_45 ?_
  refine va_gets hx hb hZ hS hown (hts (.fieldLink RX4 24 "WordChanged$Numbers" "BASE" "[I") (by decide +kernel)) (fun _ h9 => h9) iX4_48 ?_
  refine lv_iconst (v := 3) hx hb iX4_51 (by decide +kernel) ?_
  refine va_ti (v := .int 21) hx hb hT hS (by unfold vp_in; decide +kernel) rfl iX4_52 ?_
  refine lv_iload_n hx hb iX4_53 rfl (lv_at hl 0 rfl) ?_
  refine lv_iadd hx hb iX4_54 ?_
  refine lv_iconst (v := 3) hx hb iX4_55 (by decide +kernel) ?_
  refine va_iast hx hb hK hP hD hS 1 0 rfl rfl (by unfold vp_in; decide +kernel) iX4_56 (fun H locs hP hD hS => ?_)
  have hP : va_P D vwCl [(h0, .inr (4, [.ref q1, .int 0, .int 0, .int 0, .int 0, .ref q2, .ref q3, .ref q4])), (q1, .inl (cy 1, 57, .inl (upd (upd (upd (upd (upd (upd (upd (upd (upd (upd (upd (upd (upd (upd (upd (upd (upd (fun _ => (0 : Int32)) 21 3) 31 1) 22 3) 32 2) 23 3) 33 3) 24 3) 34 4) 25 3) 35 5) 26 3) 36 6) 27 3) 37 7) 28 3) 38 8) 29 3))), (q2, zI cy 40), (q3, zI cy 40), (q4, zI cy 40)] H := hP
  have hD : va_D A [(h0, .inr (4, [.ref q1, .int 0, .int 0, .int 0, .int 0, .ref q2, .ref q3, .ref q4])), (q1, .inl (cy 1, 57, .inl (upd (upd (upd (upd (upd (upd (upd (upd (upd (upd (upd (upd (upd (upd (upd (upd (upd (fun _ => (0 : Int32)) 21 3) 31 1) 22 3) 32 2) 23 3) 33 3) 24 3) 34 4) 25 3) 35 5) 26 3) 36 6) 27 3) 37 7) 28 3) 38 8) 29 3))), (q2, zI cy 40), (q3, zI cy 40), (q4, zI cy 40)] := hD
  refine lv_aload_n hx hb iX4_57 rfl (lv_at hl 1 rfl) ?_
  refine va_get (D := D) (ci := 4) (v := .ref q1) (C := RX4) (T := TX4) (N := 8) hx hb hts (by decide +kernel) hown hK hP 0 rfl rfl 0 (by decide) (hts (.fieldLink RX4 9 "WordChanged$Numbers" "cells" "[I") (by decide +kernel)) (fun _ h9 => h9) rfl iX4_58 ?_
  refine va_gets hx hb hZ hS hown (hts (.fieldLink RX4 24 "WordChanged$Numbers" "BASE" "[I") (by decide +kernel)) (fun _ h9 => h9) iX4_61 ?_
  refine lv_iconst (v := 4) hx hb iX4_64 (by decide +kernel) ?_
  refine va_ti (v := .int 31) hx hb hT hS (by unfold vp_in; decide +kernel) rfl iX4_65 ?_
  refine lv_iload_n hx hb iX4_66 rfl (lv_at hl 0 rfl) ?_
  refine lv_iadd hx hb iX4_67 ?_
  refine lv_iload_n hx hb iX4_68 rfl (lv_at hl 0 rfl) ?_
  refine lv_iconst (v := 1) hx hb iX4_69 (by decide +kernel) ?_
  refine lv_iadd hx hb iX4_70 ?_
  refine lv_bipush (v := 10) hx hb iX4_71 (by decide +kernel) ?_
  refine lv_irem hx hb iX4_73 (by decide +kernel) ?_
  refine va_iast hx hb hK hP hD hS 1 0 rfl rfl (by unfold vp_in; decide +kernel) iX4_74 (fun H locs hP hD hS => ?_)
  have hP : va_P D vwCl [(h0, .inr (4, [.ref q1, .int 0, .int 0, .int 0, .int 0, .ref q2, .ref q3, .ref q4])), (q1, .inl (cy 1, 57, .inl (upd (upd (upd (upd (upd (upd (upd (upd (upd (upd (upd (upd (upd (upd (upd (upd (upd (upd (fun _ => (0 : Int32)) 21 3) 31 1) 22 3) 32 2) 23 3) 33 3) 24 3) 34 4) 25 3) 35 5) 26 3) 36 6) 27 3) 37 7) 28 3) 38 8) 29 3) 39 9))), (q2, zI cy 40), (q3, zI cy 40), (q4, zI cy 40)] H := hP
  have hD : va_D A [(h0, .inr (4, [.ref q1, .int 0, .int 0, .int 0, .int 0, .ref q2, .ref q3, .ref q4])), (q1, .inl (cy 1, 57, .inl (upd (upd (upd (upd (upd (upd (upd (upd (upd (upd (upd (upd (upd (upd (upd (upd (upd (upd (fun _ => (0 : Int32)) 21 3) 31 1) 22 3) 32 2) 23 3) 33 3) 24 3) 34 4) 25 3) 35 5) 26 3) 36 6) 27 3) 37 7) 28 3) 38 8) 29 3) 39 9))), (q2, zI cy 40), (q3, zI cy 40), (q4, zI cy 40)] := hD
  refine lv_iinc (v := 9) (k := 0) (lv' := [(1, .int 9), (0, .ref h0)]) hx hb iX4_75 hl rfl (by decide +kernel) (by decide) rfl (fun ls hl => ?_)
  refine lv_goto (tgt := 38) hx hb iX4_78 rfl ?_
  refine lv_iload_n hx hb iX4_38 rfl (lv_at hl 0 rfl) ?_
  refine lv_bipush (v := 10) hx hb iX4_39 (by decide +kernel) ?_
  refine lv_icmp_ge (tgt := 81) hx hb iX4_41 rfl (fun hc => absurd hc (by decide +kernel)) (fun _ => ?_)
  refine lv_aload_n hx hb iX4_44 rfl (lv_at hl 1 rfl) ?_
  refine va_get (D := D) (ci := 4) (v := .ref q1) (C := RX4) (T := TX4) (N := 8) hx hb hts (by decide +kernel) hown hK hP 0 rfl rfl 0 (by decide) (hts (.fieldLink RX4 9 "WordChanged$Numbers" "cells" "[I") (by decide +kernel)) (fun _ h9 => h9) rfl iX4_45 ?_
  refine va_gets hx hb hZ hS hown (hts (.fieldLink RX4 24 "WordChanged$Numbers" "BASE" "[I") (by decide +kernel)) (fun _ h9 => h9) iX4_48 ?_
  refine lv_iconst (v := 3) hx hb iX4_51 (by decide +kernel) ?_
  refine va_ti (v := .int 21) hx hb hT hS (by unfold vp_in; decide +kernel) rfl iX4_52 ?_
  refine lv_iload_n hx hb iX4_53 rfl (lv_at hl 0 rfl) ?_
  refine lv_iadd hx hb iX4_54 ?_
  refine lv_iconst (v := 3) hx hb iX4_55 (by decide +kernel) ?_
  refine va_iast hx hb hK hP hD hS 1 0 rfl rfl (by unfold vp_in; decide +kernel) iX4_56 (fun H locs hP hD hS => ?_)
  have hP : va_P D vwCl [(h0, .inr (4, [.ref q1, .int 0, .int 0, .int 0, .int 0, .ref q2, .ref q3, .ref q4])), (q1, .inl (cy 1, 57, .inl (upd (upd (upd (upd (upd (upd (upd (upd (upd (upd (upd (upd (upd (upd (upd (upd (upd (upd (upd (fun _ => (0 : Int32)) 21 3) 31 1) 22 3) 32 2) 23 3) 33 3) 24 3) 34 4) 25 3) 35 5) 26 3) 36 6) 27 3) 37 7) 28 3) 38 8) 29 3) 39 9) 30 3))), (q2, zI cy 40), (q3, zI cy 40), (q4, zI cy 40)] H := hP
  have hD : va_D A [(h0, .inr (4, [.ref q1, .int 0, .int 0, .int 0, .int 0, .ref q2, .ref q3, .ref q4])), (q1, .inl (cy 1, 57, .inl (upd (upd (upd (upd (upd (upd (upd (upd (upd (upd (upd (upd (upd (upd (upd (upd (upd (upd (upd (fun _ => (0 : Int32)) 21 3) 31 1) 22 3) 32 2) 23 3) 33 3) 24 3) 34 4) 25 3) 35 5) 26 3) 36 6) 27 3) 37 7) 28 3) 38 8) 29 3) 39 9) 30 3))), (q2, zI cy 40), (q3, zI cy 40), (q4, zI cy 40)] := hD
  refine lv_aload_n hx hb iX4_57 rfl (lv_at hl 1 rfl) ?_
  refine va_get (D := D) (ci := 4) (v := .ref q1) (C := RX4) (T := TX4) (N := 8) hx hb hts (by decide +kernel) hown hK hP 0 rfl rfl 0 (by decide) (hts (.fieldLink RX4 9 "WordChanged$Numbers" "cells" "[I") (by decide +kernel)) (fun _ h9 => h9) rfl iX4_58 ?_
  refine va_gets hx hb hZ hS hown (hts (.fieldLink RX4 24 "WordChanged$Numbers" "BASE" "[I") (by decide +kernel)) (fun _ h9 => h9) iX4_61 ?_
  refine lv_iconst (v := 4) hx hb iX4_64 (by decide +kernel) ?_
  refine va_ti (v := .int 31) hx hb hT hS (by unfold vp_in; decide +kernel) rfl iX4_65 ?_
  refine lv_iload_n hx hb iX4_66 rfl (lv_at hl 0 rfl) ?_
  refine lv_iadd hx hb iX4_67 ?_
  refine lv_iload_n hx hb iX4_68 rfl (lv_at hl 0 rfl) ?_
  refine lv_iconst (v := 1) hx hb iX4_69 (by decide +kernel) ?_
  refine lv_iadd hx hb iX4_70 ?_
  refine lv_bipush (v := 10) hx hb iX4_71 (by decide +kernel) ?_
  refine lv_irem hx hb iX4_73 (by decide +kernel) ?_
  refine va_iast hx hb hK hP hD hS 1 0 rfl rfl (by unfold vp_in; decide +kernel) iX4_74 (fun H locs hP hD hS => ?_)
  have hP : va_P D vwCl [(h0, .inr (4, [.ref q1, .int 0, .int 0, .int 0, .int 0, .ref q2, .ref q3, .ref q4])), (q1, .inl (cy 1, 57, .inl (upd (upd (upd (upd (upd (upd (upd (upd (upd (upd (upd (upd (upd (upd (upd (upd (upd (upd (upd (upd (fun _ => (0 : Int32)) 21 3) 31 1) 22 3) 32 2) 23 3) 33 3) 24 3) 34 4) 25 3) 35 5) 26 3) 36 6) 27 3) 37 7) 28 3) 38 8) 29 3) 39 9) 30 3) 40 0))), (q2, zI cy 40), (q3, zI cy 40), (q4, zI cy 40)] H := hP
  have hD : va_D A [(h0, .inr (4, [.ref q1, .int 0, .int 0, .int 0, .int 0, .ref q2, .ref q3, .ref q4])), (q1, .inl (cy 1, 57, .inl (upd (upd (upd (upd (upd (upd (upd (upd (upd (upd (upd (upd (upd (upd (upd (upd (upd (upd (upd (upd (fun _ => (0 : Int32)) 21 3) 31 1) 22 3) 32 2) 23 3) 33 3) 24 3) 34 4) 25 3) 35 5) 26 3) 36 6) 27 3) 37 7) 28 3) 38 8) 29 3) 39 9) 30 3) 40 0))), (q2, zI cy 40), (q3, zI cy 40), (q4, zI cy 40)] := hD
  refine lv_iinc (v := 10) (k := 0) (lv' := [(1, .int 10), (0, .ref h0)]) hx hb iX4_75 hl rfl (by decide +kernel) (by decide) rfl (fun ls hl => ?_)
  refine lv_goto (tgt := 38) hx hb iX4_78 rfl ?_
  refine lv_iload_n hx hb iX4_38 rfl (lv_at hl 0 rfl) ?_
  refine lv_bipush (v := 10) hx hb iX4_39 (by decide +kernel) ?_
  refine lv_icmp_ge (tgt := 81) hx hb iX4_41 rfl (fun _ => ?_) (fun hc => absurd (by decide +kernel) hc)
  refine lv_aload_n hx hb iX4_81 rfl (lv_at hl 1 rfl) ?_
  refine va_get (D := D) (ci := 4) (v := .ref q1) (C := RX4) (T := TX4) (N := 8) hx hb hts (by decide +kernel) hown hK hP 0 rfl rfl 0 (by decide) (hts (.fieldLink RX4 9 "WordChanged$Numbers" "cells" "[I") (by decide +kernel)) (fun _ h9 => h9) rfl iX4_82 ?_
  refine va_gets hx hb hZ hS hown (hts (.fieldLink RX4 24 "WordChanged$Numbers" "BASE" "[I") (by decide +kernel)) (fun _ h9 => h9) iX4_85 ?_
  refine lv_bipush (v := 9) hx hb iX4_88 (by decide +kernel) ?_
  refine va_ti (v := .int 54) hx hb hT hS (by unfold vp_in; decide +kernel) rfl iX4_90 ?_
  refine lv_iconst (v := 1) hx hb iX4_91 (by decide +kernel) ?_
  refine va_iast hx hb hK hP hD hS 1 0 rfl rfl (by unfold vp_in; decide +kernel) iX4_92 (fun H locs hP hD hS => ?_)
  have hP : va_P D vwCl [(h0, .inr (4, [.ref q1, .int 0, .int 0, .int 0, .int 0, .ref q2, .ref q3, .ref q4])), (q1, .inl (cy 1, 57, .inl (upd (upd (upd (upd (upd (upd (upd (upd (upd (upd (upd (upd (upd (upd (upd (upd (upd (upd (upd (upd (upd (fun _ => (0 : Int32)) 21 3) 31 1) 22 3) 32 2) 23 3) 33 3) 24 3) 34 4) 25 3) 35 5) 26 3) 36 6) 27 3) 37 7) 28 3) 38 8) 29 3) 39 9) 30 3) 40 0) 54 1))), (q2, zI cy 40), (q3, zI cy 40), (q4, zI cy 40)] H := hP
  have hD : va_D A [(h0, .inr (4, [.ref q1, .int 0, .int 0, .int 0, .int 0, .ref q2, .ref q3, .ref q4])), (q1, .inl (cy 1, 57, .inl (upd (upd (upd (upd (upd (upd (upd (upd (upd (upd (upd (upd (upd (upd (upd (upd (upd (upd (upd (upd (upd (fun _ => (0 : Int32)) 21 3) 31 1) 22 3) 32 2) 23 3) 33 3) 24 3) 34 4) 25 3) 35 5) 26 3) 36 6) 27 3) 37 7) 28 3) 38 8) 29 3) 39 9) 30 3) 40 0) 54 1))), (q2, zI cy 40), (q3, zI cy 40), (q4, zI cy 40)] := hD
  refine lv_aload_n hx hb iX4_93 rfl (lv_at hl 1 rfl) ?_
  refine va_get (D := D) (ci := 4) (v := .ref q1) (C := RX4) (T := TX4) (N := 8) hx hb hts (by decide +kernel) hown hK hP 0 rfl rfl 0 (by decide) (hts (.fieldLink RX4 9 "WordChanged$Numbers" "cells" "[I") (by decide +kernel)) (fun _ h9 => h9) rfl iX4_94 ?_
  refine va_gets hx hb hZ hS hown (hts (.fieldLink RX4 24 "WordChanged$Numbers" "BASE" "[I") (by decide +kernel)) (fun _ h9 => h9) iX4_97 ?_
  refine lv_bipush (v := 11) hx hb iX4_100 (by decide +kernel) ?_
  refine va_ti (v := .int 56) hx hb hT hS (by unfold vp_in; decide +kernel) rfl iX4_102 ?_
  refine lv_bipush (v := 60) hx hb iX4_103 (by decide +kernel) ?_
  refine va_iast hx hb hK hP hD hS 1 0 rfl rfl (by unfold vp_in; decide +kernel) iX4_105 (fun H locs hP hD hS => ?_)
  have hP : va_P D vwCl [(h0, .inr (4, [.ref q1, .int 0, .int 0, .int 0, .int 0, .ref q2, .ref q3, .ref q4])), (q1, .inl (cy 1, 57, .inl (upd (upd (upd (upd (upd (upd (upd (upd (upd (upd (upd (upd (upd (upd (upd (upd (upd (upd (upd (upd (upd (upd (fun _ => (0 : Int32)) 21 3) 31 1) 22 3) 32 2) 23 3) 33 3) 24 3) 34 4) 25 3) 35 5) 26 3) 36 6) 27 3) 37 7) 28 3) 38 8) 29 3) 39 9) 30 3) 40 0) 54 1) 56 60))), (q2, zI cy 40), (q3, zI cy 40), (q4, zI cy 40)] H := hP
  have hD : va_D A [(h0, .inr (4, [.ref q1, .int 0, .int 0, .int 0, .int 0, .ref q2, .ref q3, .ref q4])), (q1, .inl (cy 1, 57, .inl (upd (upd (upd (upd (upd (upd (upd (upd (upd (upd (upd (upd (upd (upd (upd (upd (upd (upd (upd (upd (upd (upd (fun _ => (0 : Int32)) 21 3) 31 1) 22 3) 32 2) 23 3) 33 3) 24 3) 34 4) 25 3) 35 5) 26 3) 36 6) 27 3) 37 7) 28 3) 38 8) 29 3) 39 9) 30 3) 40 0) 54 1) 56 60))), (q2, zI cy 40), (q3, zI cy 40), (q4, zI cy 40)] := hD
  exact W.vret hx hb hr (fun t ht hW => ⟨⟨fun k => [q1, q2, q3, q4].getD k 0, rfl, trivial, by rw [ht]; exact hP, va_K.moved hW.alike hK, hD⟩, hS.F ht⟩) hS.2.2 iX4_106
