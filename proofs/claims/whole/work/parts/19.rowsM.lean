/-! rows of the methods, by program (wip/whole/gen13.py): X10 -/
theorem dX10_count_0 : decode mX10_count.1 0 = .ok (.iload_n 1, 1) := by decide +kernel
theorem dX10_count_1 : decode mX10_count.1 1 = .ok (.tableswitch 60 0 4 #[35, 40, 45, 50, 55], 35) := by decide +kernel
theorem dX10_count_36 : decode mX10_count.1 36 = .ok (.aload_n 0, 1) := by decide +kernel
theorem dX10_count_37 : decode mX10_count.1 37 = .ok (.getfield 133, 3) := by decide +kernel
theorem dX10_count_40 : decode mX10_count.1 40 = .ok (.ireturn, 1) := by decide +kernel
theorem dX10_count_41 : decode mX10_count.1 41 = .ok (.aload_n 0, 1) := by decide +kernel
theorem dX10_count_42 : decode mX10_count.1 42 = .ok (.getfield 189, 3) := by decide +kernel
theorem dX10_count_45 : decode mX10_count.1 45 = .ok (.ireturn, 1) := by decide +kernel
theorem dX10_count_46 : decode mX10_count.1 46 = .ok (.aload_n 0, 1) := by decide +kernel
theorem dX10_count_47 : decode mX10_count.1 47 = .ok (.getfield 163, 3) := by decide +kernel
theorem dX10_count_50 : decode mX10_count.1 50 = .ok (.ireturn, 1) := by decide +kernel
theorem dX10_count_51 : decode mX10_count.1 51 = .ok (.aload_n 0, 1) := by decide +kernel
theorem dX10_count_52 : decode mX10_count.1 52 = .ok (.getfield 398, 3) := by decide +kernel
theorem dX10_count_55 : decode mX10_count.1 55 = .ok (.ireturn, 1) := by decide +kernel
theorem dX10_count_56 : decode mX10_count.1 56 = .ok (.aload_n 0, 1) := by decide +kernel
theorem dX10_count_57 : decode mX10_count.1 57 = .ok (.getfield 401, 3) := by decide +kernel
theorem dX10_count_60 : decode mX10_count.1 60 = .ok (.ireturn, 1) := by decide +kernel
theorem dX10_count_61 : decode mX10_count.1 61 = .ok (.iconst (-1), 1) := by decide +kernel
theorem dX10_count_62 : decode mX10_count.1 62 = .ok (.ireturn, 1) := by decide +kernel
theorem X10_count_0 (h : mm_M) (a1 : Int) : mm_ev mX10_count 1 0 [some (vR 47), some (vI a1)] [] h = if a1 = 0 then some ([vI (h 47 1)], h) else if a1 = 1 then some ([vI (h 47 21)], h) else if a1 = 2 then some ([vI (h 47 14)], h) else if a1 = 3 then some ([vI (h 47 49)], h) else if a1 = 4 then some ([vI (h 47 51)], h) else some ([vI (-1)], h) := (ev_iload_n 1 dX10_count_0 rfl rfl).trans (ev_tabC (k := 0) dX10_count_1 (fun z0 => (ev_tabK 36 (k := 0) dX10_count_1 z0 (by decide) rfl rfl).trans ((ev_aload_n 37 dX10_count_36 rfl rfl).trans ((ev_getI 40 1 dX10_count_37 fl_10_133 oc47 ak47 (by decide) rfl rfl).trans (ev_iret dX10_count_40 rfl)))) (fun n0 => ev_tabC (k := 1) dX10_count_1 (fun z1 => (ev_tabK 41 (k := 1) dX10_count_1 z1 (by decide) rfl rfl).trans ((ev_aload_n 42 dX10_count_41 rfl rfl).trans ((ev_getI 45 21 dX10_count_42 fl_10_189 oc47 ak47 (by decide) rfl rfl).trans (ev_iret dX10_count_45 rfl)))) (fun n1 => ev_tabC (k := 2) dX10_count_1 (fun z2 => (ev_tabK 46 (k := 2) dX10_count_1 z2 (by decide) rfl rfl).trans ((ev_aload_n 47 dX10_count_46 rfl rfl).trans ((ev_getI 50 14 dX10_count_47 fl_10_163 oc47 ak47 (by decide) rfl rfl).trans (ev_iret dX10_count_50 rfl)))) (fun n2 => ev_tabC (k := 3) dX10_count_1 (fun z3 => (ev_tabK 51 (k := 3) dX10_count_1 z3 (by decide) rfl rfl).trans ((ev_aload_n 52 dX10_count_51 rfl rfl).trans ((ev_getI 55 49 dX10_count_52 fl_10_398 oc47 ak47 (by decide) rfl rfl).trans (ev_iret dX10_count_55 rfl)))) (fun n3 => ev_tabC (k := 4) dX10_count_1 (fun z4 => (ev_tabK 56 (k := 4) dX10_count_1 z4 (by decide) rfl rfl).trans ((ev_aload_n 57 dX10_count_56 rfl rfl).trans ((ev_getI 60 51 dX10_count_57 fl_10_401 oc47 ak47 (by decide) rfl rfl).trans (ev_iret dX10_count_60 rfl)))) (fun n4 => (ev_tabD 61 dX10_count_1 (by omega) rfl).trans ((ev_iconst 62 (v := (-1)) dX10_count_61 rfl rfl).trans (ev_iret dX10_count_62 rfl))))))))
theorem X10_count_c (h : mm_M) (a1 : Int) : mm_call mX10_count [vR 47, vI a1] h = if a1 = 0 then some ([vI (h 47 1)], h) else if a1 = 1 then some ([vI (h 47 21)], h) else if a1 = 2 then some ([vI (h 47 14)], h) else if a1 = 3 then some ([vI (h 47 49)], h) else if a1 = 4 then some ([vI (h 47 51)], h) else some ([vI (-1)], h) := X10_count_0 h a1
theorem dX10_taken_0 : decode mX10_taken.1 0 = .ok (.iload_n 1, 1) := by decide +kernel
theorem dX10_taken_1 : decode mX10_taken.1 1 = .ok (.invokestatic 147, 3) := by decide +kernel
theorem dX10_taken_4 : decode mX10_taken.1 4 = .ok (.ifCond .eq 13, 3) := by decide +kernel
theorem dX10_taken_7 : decode mX10_taken.1 7 = .ok (.iload_n 2, 1) := by decide +kernel
theorem dX10_taken_8 : decode mX10_taken.1 8 = .ok (.iconst 0, 1) := by decide +kernel
theorem dX10_taken_9 : decode mX10_taken.1 9 = .ok (.bipush 7, 2) := by decide +kernel
theorem dX10_taken_11 : decode mX10_taken.1 11 = .ok (.invokestatic 136, 3) := by decide +kernel
theorem dX10_taken_14 : decode mX10_taken.1 14 = .ok (.ifCond .ne 5, 3) := by decide +kernel
theorem dX10_taken_17 : decode mX10_taken.1 17 = .ok (.iconst (-1), 1) := by decide +kernel
theorem dX10_taken_18 : decode mX10_taken.1 18 = .ok (.ireturn, 1) := by decide +kernel
theorem dX10_taken_19 : decode mX10_taken.1 19 = .ok (.aload_n 0, 1) := by decide +kernel
theorem dX10_taken_20 : decode mX10_taken.1 20 = .ok (.getfield 117, 3) := by decide +kernel
theorem dX10_taken_23 : decode mX10_taken.1 23 = .ok (.iload_n 1, 1) := by decide +kernel
theorem dX10_taken_24 : decode mX10_taken.1 24 = .ok (.iaload, 1) := by decide +kernel
theorem dX10_taken_25 : decode mX10_taken.1 25 = .ok (.iconst (-1), 1) := by decide +kernel
theorem dX10_taken_26 : decode mX10_taken.1 26 = .ok (.if_icmp .ne 6, 3) := by decide +kernel
theorem dX10_taken_29 : decode mX10_taken.1 29 = .ok (.bipush (-11), 2) := by decide +kernel
theorem dX10_taken_31 : decode mX10_taken.1 31 = .ok (.ireturn, 1) := by decide +kernel
theorem dX10_taken_32 : decode mX10_taken.1 32 = .ok (.aload_n 0, 1) := by decide +kernel
theorem dX10_taken_33 : decode mX10_taken.1 33 = .ok (.getfield 117, 3) := by decide +kernel
theorem dX10_taken_36 : decode mX10_taken.1 36 = .ok (.iload_n 1, 1) := by decide +kernel
theorem dX10_taken_37 : decode mX10_taken.1 37 = .ok (.iaload, 1) := by decide +kernel
theorem dX10_taken_38 : decode mX10_taken.1 38 = .ok (.ifCond .lt 35, 3) := by decide +kernel
theorem dX10_taken_41 : decode mX10_taken.1 41 = .ok (.aload_n 0, 1) := by decide +kernel
theorem dX10_taken_42 : decode mX10_taken.1 42 = .ok (.getfield 111, 3) := by decide +kernel
theorem dX10_taken_45 : decode mX10_taken.1 45 = .ok (.aload_n 0, 1) := by decide +kernel
theorem dX10_taken_46 : decode mX10_taken.1 46 = .ok (.getfield 117, 3) := by decide +kernel
theorem dX10_taken_49 : decode mX10_taken.1 49 = .ok (.iload_n 1, 1) := by decide +kernel
theorem dX10_taken_50 : decode mX10_taken.1 50 = .ok (.iaload, 1) := by decide +kernel
theorem dX10_taken_51 : decode mX10_taken.1 51 = .ok (.iaload, 1) := by decide +kernel
theorem dX10_taken_52 : decode mX10_taken.1 52 = .ok (.iload_n 2, 1) := by decide +kernel
theorem dX10_taken_53 : decode mX10_taken.1 53 = .ok (.invokestatic 410, 3) := by decide +kernel
theorem dX10_taken_56 : decode mX10_taken.1 56 = .ok (.ifCond .eq 17, 3) := by decide +kernel
theorem dX10_taken_59 : decode mX10_taken.1 59 = .ok (.aload_n 0, 1) := by decide +kernel
theorem dX10_taken_60 : decode mX10_taken.1 60 = .ok (.getfield 111, 3) := by decide +kernel
theorem dX10_taken_63 : decode mX10_taken.1 63 = .ok (.aload_n 0, 1) := by decide +kernel
theorem dX10_taken_64 : decode mX10_taken.1 64 = .ok (.getfield 117, 3) := by decide +kernel
theorem dX10_taken_67 : decode mX10_taken.1 67 = .ok (.iload_n 1, 1) := by decide +kernel
theorem dX10_taken_68 : decode mX10_taken.1 68 = .ok (.iaload, 1) := by decide +kernel
theorem dX10_taken_69 : decode mX10_taken.1 69 = .ok (.iaload, 1) := by decide +kernel
theorem dX10_taken_70 : decode mX10_taken.1 70 = .ok (.goto 5, 3) := by decide +kernel
theorem dX10_taken_73 : decode mX10_taken.1 73 = .ok (.bipush (-12), 2) := by decide +kernel
theorem dX10_taken_75 : decode mX10_taken.1 75 = .ok (.ireturn, 1) := by decide +kernel
theorem X10_taken_0 (h : mm_M) (a1 : Int) (a2 : Int) : mm_ev mX10_taken 3 0 [some (vR 47), some (vI a1), some (vI a2)] [] h = (mm_call mX10_isShelf [vI a1] h).bind (fun w => mm_ev mX10_taken 3 4 [some (vR 47), some (vI a1), some (vI a2)] (w.1 ++ []) w.2) := (ev_iload_n 1 dX10_taken_0 rfl rfl).trans ((ev_calls mX10_isShelf [vI a1] [] 4 dX10_taken_1 ml_10_147 k258 rfl rfl rfl (Nat.le_of_ble_eq_true rfl) (Nat.le_of_ble_eq_true rfl) rfl).trans (if_pos (show 2 < 3 from by decide)))
theorem X10_taken_c (h : mm_M) (a1 : Int) (a2 : Int) : mm_call mX10_taken [vR 47, vI a1, vI a2] h = (mm_call mX10_isShelf [vI a1] h).bind (fun w => mm_ev mX10_taken 3 4 [some (vR 47), some (vI a1), some (vI a2)] (w.1 ++ []) w.2) := X10_taken_0 h a1 a2
theorem X10_taken_4 (h : mm_M) (a1 : Int) (a2 : Int) (s0 : Int) : mm_ev mX10_taken 3 4 [some (vR 47), some (vI a1), some (vI a2)] [vI s0] h = if s0 = 0 then some ([vI (-1)], h) else (mm_call mX10_in [vI a2, vI 0, vI 7] h).bind (fun w => mm_ev mX10_taken 3 14 [some (vR 47), some (vI a1), some (vI a2)] (w.1 ++ []) w.2) := (ev_if_eq 17 7 dX10_taken_4 rfl rfl).trans (mm_ite ((ev_iconst 18 (v := (-1)) dX10_taken_17 rfl rfl).trans (ev_iret dX10_taken_18 rfl)) ((ev_iload_n 8 dX10_taken_7 rfl rfl).trans ((ev_iconst 9 (v := 0) dX10_taken_8 rfl rfl).trans ((ev_bipush 11 (v := 7) dX10_taken_9 rfl rfl).trans ((ev_calls mX10_in [vI a2, vI 0, vI 7] [] 14 dX10_taken_11 ml_10_136 k143 rfl rfl rfl (Nat.le_of_ble_eq_true rfl) (Nat.le_of_ble_eq_true rfl) rfl).trans (if_pos (show 1 < 3 from by decide)))))))
theorem X10_taken_14 (h : mm_M) (a1 : Int) (a2 : Int) (s0 : Int) : mm_ev mX10_taken 3 14 [some (vR 47), some (vI a1), some (vI a2)] [vI s0] h = if ¬ s0 = 0 then if 0 ≤ a1 ∧ a1 < 6 then if ¬ (h 79 a1) = (-1) then if 0 ≤ a1 ∧ a1 < 6 then if (h 79 a1) < 0 then some ([vI (-12)], h) else if 0 ≤ a1 ∧ a1 < 6 then if 0 ≤ (h 79 a1) ∧ (h 79 a1) < 50 then (mm_call mX10_isUnder [vI (h 77 (h 79 a1)), vI a2] h).bind (fun w => mm_ev mX10_taken 3 56 [some (vR 47), some (vI a1), some (vI a2)] (w.1 ++ []) w.2) else none else none else none else some ([vI (-11)], h) else none else some ([vI (-1)], h) := (ev_if_ne 19 17 dX10_taken_14 rfl rfl).trans (mm_ite ((ev_aload_n 20 dX10_taken_19 rfl rfl).trans ((ev_getF 23 79 dX10_taken_20 fl_10_117 oc47 ak47 rfl rf_47_53 rfl).trans ((ev_iload_n 24 dX10_taken_23 rfl rfl).trans ((ev_iald 25 6 dX10_taken_24 ak79 an79 rfl).trans (mm_ite ((ev_iconst 26 (v := (-1)) dX10_taken_25 rfl rfl).trans ((ev_ic_ne 32 29 dX10_taken_26 rfl rfl).trans (mm_ite ((ev_aload_n 33 dX10_taken_32 rfl rfl).trans ((ev_getF 36 79 dX10_taken_33 fl_10_117 oc47 ak47 rfl rf_47_53 rfl).trans ((ev_iload_n 37 dX10_taken_36 rfl rfl).trans ((ev_iald 38 6 dX10_taken_37 ak79 an79 rfl).trans (mm_ite ((ev_if_lt 73 41 dX10_taken_38 rfl rfl).trans (mm_ite ((ev_bipush 75 (v := (-12)) dX10_taken_73 rfl rfl).trans (ev_iret dX10_taken_75 rfl)) ((ev_aload_n 42 dX10_taken_41 rfl rfl).trans ((ev_getF 45 77 dX10_taken_42 fl_10_111 oc47 ak47 rfl rf_47_50 rfl).trans ((ev_aload_n 46 dX10_taken_45 rfl rfl).trans ((ev_getF 49 79 dX10_taken_46 fl_10_117 oc47 ak47 rfl rf_47_53 rfl).trans ((ev_iload_n 50 dX10_taken_49 rfl rfl).trans ((ev_iald 51 6 dX10_taken_50 ak79 an79 rfl).trans (mm_ite ((ev_iald 52 50 dX10_taken_51 ak77 an77 rfl).trans (mm_ite ((ev_iload_n 53 dX10_taken_52 rfl rfl).trans ((ev_calls mX10_isUnder [vI (h 77 (h 79 a1)), vI a2] [] 56 dX10_taken_53 ml_10_410 k244 rfl rfl rfl (Nat.le_of_ble_eq_true rfl) (Nat.le_of_ble_eq_true rfl) rfl).trans (if_pos (show 1 < 3 from by decide)))) (rfl))) (rfl)))))))))) (rfl)))))) ((ev_bipush 31 (v := (-11)) dX10_taken_29 rfl rfl).trans (ev_iret dX10_taken_31 rfl))))) (rfl)))))) ((ev_iconst 18 (v := (-1)) dX10_taken_17 rfl rfl).trans (ev_iret dX10_taken_18 rfl)))
theorem X10_taken_56 (h : mm_M) (a1 : Int) (a2 : Int) (s0 : Int) : mm_ev mX10_taken 3 56 [some (vR 47), some (vI a1), some (vI a2)] [vI s0] h = if s0 = 0 then some ([vI (-12)], h) else if 0 ≤ a1 ∧ a1 < 6 then if 0 ≤ (h 79 a1) ∧ (h 79 a1) < 50 then some ([vI (h 77 (h 79 a1))], h) else none else none := (ev_if_eq 73 59 dX10_taken_56 rfl rfl).trans (mm_ite ((ev_bipush 75 (v := (-12)) dX10_taken_73 rfl rfl).trans (ev_iret dX10_taken_75 rfl)) ((ev_aload_n 60 dX10_taken_59 rfl rfl).trans ((ev_getF 63 77 dX10_taken_60 fl_10_111 oc47 ak47 rfl rf_47_50 rfl).trans ((ev_aload_n 64 dX10_taken_63 rfl rfl).trans ((ev_getF 67 79 dX10_taken_64 fl_10_117 oc47 ak47 rfl rf_47_53 rfl).trans ((ev_iload_n 68 dX10_taken_67 rfl rfl).trans ((ev_iald 69 6 dX10_taken_68 ak79 an79 rfl).trans (mm_ite ((ev_iald 70 50 dX10_taken_69 ak77 an77 rfl).trans (mm_ite ((ev_goto 75 dX10_taken_70 rfl).trans (ev_iret dX10_taken_75 rfl)) (rfl))) (rfl)))))))))
theorem dX10_isShelf_0 : decode mX10_isShelf.1 0 = .ok (.iload_n 0, 1) := by decide +kernel
theorem dX10_isShelf_1 : decode mX10_isShelf.1 1 = .ok (.iconst 0, 1) := by decide +kernel
theorem dX10_isShelf_2 : decode mX10_isShelf.1 2 = .ok (.iconst 5, 1) := by decide +kernel
theorem dX10_isShelf_3 : decode mX10_isShelf.1 3 = .ok (.invokestatic 136, 3) := by decide +kernel
theorem dX10_isShelf_6 : decode mX10_isShelf.1 6 = .ok (.ireturn, 1) := by decide +kernel
theorem X10_isShelf_0 (h : mm_M) (a0 : Int) : mm_ev mX10_isShelf 2 0 [some (vI a0)] [] h = (mm_call mX10_in [vI a0, vI 0, vI 5] h).bind (fun w => mm_ev mX10_isShelf 2 6 [some (vI a0)] (w.1 ++ []) w.2) := (ev_iload_n 1 dX10_isShelf_0 rfl rfl).trans ((ev_iconst 2 (v := 0) dX10_isShelf_1 rfl rfl).trans ((ev_iconst 3 (v := 5) dX10_isShelf_2 rfl rfl).trans ((ev_calls mX10_in [vI a0, vI 0, vI 5] [] 6 dX10_isShelf_3 ml_10_136 k143 rfl rfl rfl (Nat.le_of_ble_eq_true rfl) (Nat.le_of_ble_eq_true rfl) rfl).trans (if_pos (show 1 < 2 from by decide)))))
theorem X10_isShelf_c (h : mm_M) (a0 : Int) : mm_call mX10_isShelf [vI a0] h = (mm_call mX10_in [vI a0, vI 0, vI 5] h).bind (fun w => mm_ev mX10_isShelf 2 6 [some (vI a0)] (w.1 ++ []) w.2) := X10_isShelf_0 h a0
theorem X10_isShelf_6 (h : mm_M) (a0 : Int) (s0 : Int) : mm_ev mX10_isShelf 2 6 [some (vI a0)] [vI s0] h = if s0 = 0 ∨ s0 = 1 then some ([vI s0], h) else none := ev_zret dX10_isShelf_6 rfl
theorem dX10_in_0 : decode mX10_in.1 0 = .ok (.iload_n 0, 1) := by decide +kernel
theorem dX10_in_1 : decode mX10_in.1 1 = .ok (.iload_n 1, 1) := by decide +kernel
theorem dX10_in_2 : decode mX10_in.1 2 = .ok (.if_icmp .lt 12, 3) := by decide +kernel
theorem dX10_in_5 : decode mX10_in.1 5 = .ok (.iload_n 0, 1) := by decide +kernel
theorem dX10_in_6 : decode mX10_in.1 6 = .ok (.iload_n 2, 1) := by decide +kernel
theorem dX10_in_7 : decode mX10_in.1 7 = .ok (.if_icmp .gt 7, 3) := by decide +kernel
theorem dX10_in_10 : decode mX10_in.1 10 = .ok (.iconst 1, 1) := by decide +kernel
theorem dX10_in_11 : decode mX10_in.1 11 = .ok (.goto 4, 3) := by decide +kernel
theorem dX10_in_14 : decode mX10_in.1 14 = .ok (.iconst 0, 1) := by decide +kernel
theorem dX10_in_15 : decode mX10_in.1 15 = .ok (.ireturn, 1) := by decide +kernel
theorem X10_in_0 (h : mm_M) (a0 : Int) (a1 : Int) (a2 : Int) : mm_ev mX10_in 1 0 [some (vI a0), some (vI a1), some (vI a2)] [] h = if a0 < a1 then some ([vI 0], h) else if a2 < a0 then some ([vI 0], h) else some ([vI 1], h) := (ev_iload_n 1 dX10_in_0 rfl rfl).trans ((ev_iload_n 2 dX10_in_1 rfl rfl).trans ((ev_ic_lt 14 5 dX10_in_2 rfl rfl).trans (mm_ite ((ev_iconst 15 (v := 0) dX10_in_14 rfl rfl).trans (ev_zret0 dX10_in_15 rfl)) ((ev_iload_n 6 dX10_in_5 rfl rfl).trans ((ev_iload_n 7 dX10_in_6 rfl rfl).trans ((ev_ic_gt 14 10 dX10_in_7 rfl rfl).trans (mm_ite ((ev_iconst 15 (v := 0) dX10_in_14 rfl rfl).trans (ev_zret0 dX10_in_15 rfl)) ((ev_iconst 11 (v := 1) dX10_in_10 rfl rfl).trans ((ev_goto 15 dX10_in_11 rfl).trans (ev_zret1 dX10_in_15 rfl))))))))))
theorem X10_in_c (h : mm_M) (a0 : Int) (a1 : Int) (a2 : Int) : mm_call mX10_in [vI a0, vI a1, vI a2] h = if a0 < a1 then some ([vI 0], h) else if a2 < a0 then some ([vI 0], h) else some ([vI 1], h) := X10_in_0 h a0 a1 a2
theorem dX10_isUnder_0 : decode mX10_isUnder.1 0 = .ok (.iload_n 1, 1) := by decide +kernel
theorem dX10_isUnder_1 : decode mX10_isUnder.1 1 = .ok (.ifCond .eq 55, 3) := by decide +kernel
theorem dX10_isUnder_4 : decode mX10_isUnder.1 4 = .ok (.iload_n 0, 1) := by decide +kernel
theorem dX10_isUnder_5 : decode mX10_isUnder.1 5 = .ok (.iload_n 1, 1) := by decide +kernel
theorem dX10_isUnder_6 : decode mX10_isUnder.1 6 = .ok (.if_icmp .eq 50, 3) := by decide +kernel
theorem dX10_isUnder_9 : decode mX10_isUnder.1 9 = .ok (.iload_n 1, 1) := by decide +kernel
theorem dX10_isUnder_10 : decode mX10_isUnder.1 10 = .ok (.iconst 1, 1) := by decide +kernel
theorem dX10_isUnder_11 : decode mX10_isUnder.1 11 = .ok (.if_icmp .ne 8, 3) := by decide +kernel
theorem dX10_isUnder_14 : decode mX10_isUnder.1 14 = .ok (.iload_n 0, 1) := by decide +kernel
theorem dX10_isUnder_15 : decode mX10_isUnder.1 15 = .ok (.iconst 4, 1) := by decide +kernel
theorem dX10_isUnder_16 : decode mX10_isUnder.1 16 = .ok (.if_icmp .eq 40, 3) := by decide +kernel
theorem dX10_isUnder_19 : decode mX10_isUnder.1 19 = .ok (.iload_n 1, 1) := by decide +kernel
theorem dX10_isUnder_20 : decode mX10_isUnder.1 20 = .ok (.iconst 2, 1) := by decide +kernel
theorem dX10_isUnder_21 : decode mX10_isUnder.1 21 = .ok (.if_icmp .ne 13, 3) := by decide +kernel
theorem dX10_isUnder_24 : decode mX10_isUnder.1 24 = .ok (.iload_n 0, 1) := by decide +kernel
theorem dX10_isUnder_25 : decode mX10_isUnder.1 25 = .ok (.iconst 3, 1) := by decide +kernel
theorem dX10_isUnder_26 : decode mX10_isUnder.1 26 = .ok (.if_icmp .eq 30, 3) := by decide +kernel
theorem dX10_isUnder_29 : decode mX10_isUnder.1 29 = .ok (.iload_n 0, 1) := by decide +kernel
theorem dX10_isUnder_30 : decode mX10_isUnder.1 30 = .ok (.iconst 5, 1) := by decide +kernel
theorem dX10_isUnder_31 : decode mX10_isUnder.1 31 = .ok (.if_icmp .eq 25, 3) := by decide +kernel
theorem dX10_isUnder_34 : decode mX10_isUnder.1 34 = .ok (.iload_n 1, 1) := by decide +kernel
theorem dX10_isUnder_35 : decode mX10_isUnder.1 35 = .ok (.iconst 3, 1) := by decide +kernel
theorem dX10_isUnder_36 : decode mX10_isUnder.1 36 = .ok (.if_icmp .ne 8, 3) := by decide +kernel
theorem dX10_isUnder_39 : decode mX10_isUnder.1 39 = .ok (.iload_n 0, 1) := by decide +kernel
theorem dX10_isUnder_40 : decode mX10_isUnder.1 40 = .ok (.iconst 5, 1) := by decide +kernel
theorem dX10_isUnder_41 : decode mX10_isUnder.1 41 = .ok (.if_icmp .eq 15, 3) := by decide +kernel
theorem dX10_isUnder_44 : decode mX10_isUnder.1 44 = .ok (.iload_n 1, 1) := by decide +kernel
theorem dX10_isUnder_45 : decode mX10_isUnder.1 45 = .ok (.bipush 6, 2) := by decide +kernel
theorem dX10_isUnder_47 : decode mX10_isUnder.1 47 = .ok (.if_icmp .ne 13, 3) := by decide +kernel
theorem dX10_isUnder_50 : decode mX10_isUnder.1 50 = .ok (.iload_n 0, 1) := by decide +kernel
theorem dX10_isUnder_51 : decode mX10_isUnder.1 51 = .ok (.bipush 7, 2) := by decide +kernel
theorem dX10_isUnder_53 : decode mX10_isUnder.1 53 = .ok (.if_icmp .ne 7, 3) := by decide +kernel
theorem dX10_isUnder_56 : decode mX10_isUnder.1 56 = .ok (.iconst 1, 1) := by decide +kernel
theorem dX10_isUnder_57 : decode mX10_isUnder.1 57 = .ok (.goto 4, 3) := by decide +kernel
theorem dX10_isUnder_60 : decode mX10_isUnder.1 60 = .ok (.iconst 0, 1) := by decide +kernel
theorem dX10_isUnder_61 : decode mX10_isUnder.1 61 = .ok (.ireturn, 1) := by decide +kernel
theorem X10_isUnder_0 (h : mm_M) (a0 : Int) (a1 : Int) : mm_ev mX10_isUnder 1 0 [some (vI a0), some (vI a1)] [] h = if a1 = 0 then some ([vI 1], h) else if a0 = a1 then some ([vI 1], h) else if ¬ a1 = 1 then mm_ev mX10_isUnder 1 19 [some (vI a0), some (vI a1)] [] h else if a0 = 4 then some ([vI 1], h) else mm_ev mX10_isUnder 1 19 [some (vI a0), some (vI a1)] [] h := (ev_iload_n 1 dX10_isUnder_0 rfl rfl).trans ((ev_if_eq 56 4 dX10_isUnder_1 rfl rfl).trans (mm_ite ((ev_iconst 57 (v := 1) dX10_isUnder_56 rfl rfl).trans ((ev_goto 61 dX10_isUnder_57 rfl).trans (ev_zret1 dX10_isUnder_61 rfl))) ((ev_iload_n 5 dX10_isUnder_4 rfl rfl).trans ((ev_iload_n 6 dX10_isUnder_5 rfl rfl).trans ((ev_ic_eq 56 9 dX10_isUnder_6 rfl rfl).trans (mm_ite ((ev_iconst 57 (v := 1) dX10_isUnder_56 rfl rfl).trans ((ev_goto 61 dX10_isUnder_57 rfl).trans (ev_zret1 dX10_isUnder_61 rfl))) ((ev_iload_n 10 dX10_isUnder_9 rfl rfl).trans ((ev_iconst 11 (v := 1) dX10_isUnder_10 rfl rfl).trans ((ev_ic_ne 19 14 dX10_isUnder_11 rfl rfl).trans (mm_ite (rfl) ((ev_iload_n 15 dX10_isUnder_14 rfl rfl).trans ((ev_iconst 16 (v := 4) dX10_isUnder_15 rfl rfl).trans ((ev_ic_eq 56 19 dX10_isUnder_16 rfl rfl).trans (mm_ite ((ev_iconst 57 (v := 1) dX10_isUnder_56 rfl rfl).trans ((ev_goto 61 dX10_isUnder_57 rfl).trans (ev_zret1 dX10_isUnder_61 rfl))) (rfl)))))))))))))))
theorem X10_isUnder_c (h : mm_M) (a0 : Int) (a1 : Int) : mm_call mX10_isUnder [vI a0, vI a1] h = if a1 = 0 then some ([vI 1], h) else if a0 = a1 then some ([vI 1], h) else if ¬ a1 = 1 then mm_ev mX10_isUnder 1 19 [some (vI a0), some (vI a1)] [] h else if a0 = 4 then some ([vI 1], h) else mm_ev mX10_isUnder 1 19 [some (vI a0), some (vI a1)] [] h := X10_isUnder_0 h a0 a1
theorem X10_isUnder_19 (h : mm_M) (a0 : Int) (a1 : Int) : mm_ev mX10_isUnder 1 19 [some (vI a0), some (vI a1)] [] h = if ¬ a1 = 2 then mm_ev mX10_isUnder 1 34 [some (vI a0), some (vI a1)] [] h else if a0 = 3 then some ([vI 1], h) else if a0 = 5 then some ([vI 1], h) else mm_ev mX10_isUnder 1 34 [some (vI a0), some (vI a1)] [] h := (ev_iload_n 20 dX10_isUnder_19 rfl rfl).trans ((ev_iconst 21 (v := 2) dX10_isUnder_20 rfl rfl).trans ((ev_ic_ne 34 24 dX10_isUnder_21 rfl rfl).trans (mm_ite (rfl) ((ev_iload_n 25 dX10_isUnder_24 rfl rfl).trans ((ev_iconst 26 (v := 3) dX10_isUnder_25 rfl rfl).trans ((ev_ic_eq 56 29 dX10_isUnder_26 rfl rfl).trans (mm_ite ((ev_iconst 57 (v := 1) dX10_isUnder_56 rfl rfl).trans ((ev_goto 61 dX10_isUnder_57 rfl).trans (ev_zret1 dX10_isUnder_61 rfl))) ((ev_iload_n 30 dX10_isUnder_29 rfl rfl).trans ((ev_iconst 31 (v := 5) dX10_isUnder_30 rfl rfl).trans ((ev_ic_eq 56 34 dX10_isUnder_31 rfl rfl).trans (mm_ite ((ev_iconst 57 (v := 1) dX10_isUnder_56 rfl rfl).trans ((ev_goto 61 dX10_isUnder_57 rfl).trans (ev_zret1 dX10_isUnder_61 rfl))) (rfl))))))))))))
theorem X10_isUnder_34 (h : mm_M) (a0 : Int) (a1 : Int) : mm_ev mX10_isUnder 1 34 [some (vI a0), some (vI a1)] [] h = if ¬ a1 = 3 then mm_ev mX10_isUnder 1 44 [some (vI a0), some (vI a1)] [] h else if a0 = 5 then some ([vI 1], h) else mm_ev mX10_isUnder 1 44 [some (vI a0), some (vI a1)] [] h := (ev_iload_n 35 dX10_isUnder_34 rfl rfl).trans ((ev_iconst 36 (v := 3) dX10_isUnder_35 rfl rfl).trans ((ev_ic_ne 44 39 dX10_isUnder_36 rfl rfl).trans (mm_ite (rfl) ((ev_iload_n 40 dX10_isUnder_39 rfl rfl).trans ((ev_iconst 41 (v := 5) dX10_isUnder_40 rfl rfl).trans ((ev_ic_eq 56 44 dX10_isUnder_41 rfl rfl).trans (mm_ite ((ev_iconst 57 (v := 1) dX10_isUnder_56 rfl rfl).trans ((ev_goto 61 dX10_isUnder_57 rfl).trans (ev_zret1 dX10_isUnder_61 rfl))) (rfl))))))))
theorem X10_isUnder_44 (h : mm_M) (a0 : Int) (a1 : Int) : mm_ev mX10_isUnder 1 44 [some (vI a0), some (vI a1)] [] h = if ¬ a1 = 6 then some ([vI 0], h) else if ¬ a0 = 7 then some ([vI 0], h) else some ([vI 1], h) := (ev_iload_n 45 dX10_isUnder_44 rfl rfl).trans ((ev_bipush 47 (v := 6) dX10_isUnder_45 rfl rfl).trans ((ev_ic_ne 60 50 dX10_isUnder_47 rfl rfl).trans (mm_ite ((ev_iconst 61 (v := 0) dX10_isUnder_60 rfl rfl).trans (ev_zret0 dX10_isUnder_61 rfl)) ((ev_iload_n 51 dX10_isUnder_50 rfl rfl).trans ((ev_bipush 53 (v := 7) dX10_isUnder_51 rfl rfl).trans ((ev_ic_ne 60 56 dX10_isUnder_53 rfl rfl).trans (mm_ite ((ev_iconst 61 (v := 0) dX10_isUnder_60 rfl rfl).trans (ev_zret0 dX10_isUnder_61 rfl)) ((ev_iconst 57 (v := 1) dX10_isUnder_56 rfl rfl).trans ((ev_goto 61 dX10_isUnder_57 rfl).trans (ev_zret1 dX10_isUnder_61 rfl))))))))))
theorem dX10_shift_0 : decode mX10_shift.1 0 = .ok (.iload_n 1, 1) := by decide +kernel
theorem dX10_shift_1 : decode mX10_shift.1 1 = .ok (.invokestatic 147, 3) := by decide +kernel
theorem dX10_shift_4 : decode mX10_shift.1 4 = .ok (.ifCond .eq 10, 3) := by decide +kernel
theorem dX10_shift_7 : decode mX10_shift.1 7 = .ok (.iload_n 3, 1) := by decide +kernel
theorem dX10_shift_8 : decode mX10_shift.1 8 = .ok (.invokestatic 147, 3) := by decide +kernel
theorem dX10_shift_11 : decode mX10_shift.1 11 = .ok (.ifCond .ne 5, 3) := by decide +kernel
theorem dX10_shift_14 : decode mX10_shift.1 14 = .ok (.iconst (-1), 1) := by decide +kernel
theorem dX10_shift_15 : decode mX10_shift.1 15 = .ok (.ireturn, 1) := by decide +kernel
theorem dX10_shift_16 : decode mX10_shift.1 16 = .ok (.aload_n 0, 1) := by decide +kernel
theorem dX10_shift_17 : decode mX10_shift.1 17 = .ok (.getfield 117, 3) := by decide +kernel
theorem dX10_shift_20 : decode mX10_shift.1 20 = .ok (.iload_n 1, 1) := by decide +kernel
theorem dX10_shift_21 : decode mX10_shift.1 21 = .ok (.iaload, 1) := by decide +kernel
theorem dX10_shift_22 : decode mX10_shift.1 22 = .ok (.iconst (-1), 1) := by decide +kernel
theorem dX10_shift_23 : decode mX10_shift.1 23 = .ok (.if_icmp .eq 13, 3) := by decide +kernel
theorem dX10_shift_26 : decode mX10_shift.1 26 = .ok (.aload_n 0, 1) := by decide +kernel
theorem dX10_shift_27 : decode mX10_shift.1 27 = .ok (.getfield 117, 3) := by decide +kernel
theorem dX10_shift_30 : decode mX10_shift.1 30 = .ok (.iload_n 3, 1) := by decide +kernel
theorem dX10_shift_31 : decode mX10_shift.1 31 = .ok (.iaload, 1) := by decide +kernel
theorem dX10_shift_32 : decode mX10_shift.1 32 = .ok (.iconst (-1), 1) := by decide +kernel
theorem dX10_shift_33 : decode mX10_shift.1 33 = .ok (.if_icmp .ne 6, 3) := by decide +kernel
theorem dX10_shift_36 : decode mX10_shift.1 36 = .ok (.bipush (-11), 2) := by decide +kernel
theorem dX10_shift_38 : decode mX10_shift.1 38 = .ok (.ireturn, 1) := by decide +kernel
theorem dX10_shift_39 : decode mX10_shift.1 39 = .ok (.aload_n 0, 1) := by decide +kernel
theorem dX10_shift_40 : decode mX10_shift.1 40 = .ok (.getfield 117, 3) := by decide +kernel
theorem dX10_shift_43 : decode mX10_shift.1 43 = .ok (.iload_n 1, 1) := by decide +kernel
theorem dX10_shift_44 : decode mX10_shift.1 44 = .ok (.iaload, 1) := by decide +kernel
theorem dX10_shift_45 : decode mX10_shift.1 45 = .ok (.ifCond .ge 18, 3) := by decide +kernel
theorem dX10_shift_48 : decode mX10_shift.1 48 = .ok (.aload_n 0, 1) := by decide +kernel
theorem dX10_shift_49 : decode mX10_shift.1 49 = .ok (.getfield 117, 3) := by decide +kernel
theorem dX10_shift_52 : decode mX10_shift.1 52 = .ok (.iload_n 1, 1) := by decide +kernel
theorem dX10_shift_53 : decode mX10_shift.1 53 = .ok (.iaload, 1) := by decide +kernel
theorem dX10_shift_54 : decode mX10_shift.1 54 = .ok (.aload_n 0, 1) := by decide +kernel
theorem dX10_shift_55 : decode mX10_shift.1 55 = .ok (.getfield 117, 3) := by decide +kernel
theorem dX10_shift_58 : decode mX10_shift.1 58 = .ok (.iload_n 3, 1) := by decide +kernel
theorem dX10_shift_59 : decode mX10_shift.1 59 = .ok (.iaload, 1) := by decide +kernel
theorem dX10_shift_60 : decode mX10_shift.1 60 = .ok (.if_icmp .eq 6, 3) := by decide +kernel
theorem dX10_shift_63 : decode mX10_shift.1 63 = .ok (.bipush (-12), 2) := by decide +kernel
theorem dX10_shift_65 : decode mX10_shift.1 65 = .ok (.ireturn, 1) := by decide +kernel
theorem dX10_shift_66 : decode mX10_shift.1 66 = .ok (.iload 5, 2) := by decide +kernel
theorem dX10_shift_68 : decode mX10_shift.1 68 = .ok (.ifCond .lt 39, 3) := by decide +kernel
theorem dX10_shift_71 : decode mX10_shift.1 71 = .ok (.iload_n 2, 1) := by decide +kernel
theorem dX10_shift_72 : decode mX10_shift.1 72 = .ok (.ifCond .lt 35, 3) := by decide +kernel
theorem dX10_shift_75 : decode mX10_shift.1 75 = .ok (.iload 4, 2) := by decide +kernel
theorem dX10_shift_77 : decode mX10_shift.1 77 = .ok (.ifCond .lt 30, 3) := by decide +kernel
theorem dX10_shift_80 : decode mX10_shift.1 80 = .ok (.iload_n 2, 1) := by decide +kernel
theorem dX10_shift_81 : decode mX10_shift.1 81 = .ok (.aload_n 0, 1) := by decide +kernel
theorem dX10_shift_82 : decode mX10_shift.1 82 = .ok (.getfield 120, 3) := by decide +kernel
theorem dX10_shift_85 : decode mX10_shift.1 85 = .ok (.iload_n 1, 1) := by decide +kernel
theorem dX10_shift_86 : decode mX10_shift.1 86 = .ok (.iaload, 1) := by decide +kernel
theorem dX10_shift_87 : decode mX10_shift.1 87 = .ok (.iload 5, 2) := by decide +kernel
theorem dX10_shift_89 : decode mX10_shift.1 89 = .ok (.isub, 1) := by decide +kernel
theorem dX10_shift_90 : decode mX10_shift.1 90 = .ok (.if_icmp .gt 17, 3) := by decide +kernel
theorem dX10_shift_93 : decode mX10_shift.1 93 = .ok (.iload 4, 2) := by decide +kernel
theorem dX10_shift_95 : decode mX10_shift.1 95 = .ok (.aload_n 0, 1) := by decide +kernel
theorem dX10_shift_96 : decode mX10_shift.1 96 = .ok (.getfield 120, 3) := by decide +kernel
theorem dX10_shift_99 : decode mX10_shift.1 99 = .ok (.iload_n 3, 1) := by decide +kernel
theorem dX10_shift_100 : decode mX10_shift.1 100 = .ok (.iaload, 1) := by decide +kernel
theorem dX10_shift_101 : decode mX10_shift.1 101 = .ok (.iload 5, 2) := by decide +kernel
theorem dX10_shift_103 : decode mX10_shift.1 103 = .ok (.isub, 1) := by decide +kernel
theorem dX10_shift_104 : decode mX10_shift.1 104 = .ok (.if_icmp .le 6, 3) := by decide +kernel
theorem dX10_shift_107 : decode mX10_shift.1 107 = .ok (.bipush (-13), 2) := by decide +kernel
theorem dX10_shift_109 : decode mX10_shift.1 109 = .ok (.ireturn, 1) := by decide +kernel
theorem dX10_shift_110 : decode mX10_shift.1 110 = .ok (.iconst 0, 1) := by decide +kernel
theorem dX10_shift_111 : decode mX10_shift.1 111 = .ok (.istore 6, 2) := by decide +kernel
theorem dX10_shift_113 : decode mX10_shift.1 113 = .ok (.iload 6, 2) := by decide +kernel
theorem dX10_shift_115 : decode mX10_shift.1 115 = .ok (.iload 5, 2) := by decide +kernel
theorem dX10_shift_117 : decode mX10_shift.1 117 = .ok (.if_icmp .ge 30, 3) := by decide +kernel
theorem dX10_shift_120 : decode mX10_shift.1 120 = .ok (.aload_n 0, 1) := by decide +kernel
theorem dX10_shift_121 : decode mX10_shift.1 121 = .ok (.getfield 127, 3) := by decide +kernel
theorem dX10_shift_124 : decode mX10_shift.1 124 = .ok (.iload 6, 2) := by decide +kernel
theorem dX10_shift_126 : decode mX10_shift.1 126 = .ok (.aload_n 0, 1) := by decide +kernel
theorem dX10_shift_127 : decode mX10_shift.1 127 = .ok (.getfield 123, 3) := by decide +kernel
theorem dX10_shift_130 : decode mX10_shift.1 130 = .ok (.bipush 60, 2) := by decide +kernel
theorem dX10_shift_132 : decode mX10_shift.1 132 = .ok (.iload_n 1, 1) := by decide +kernel
theorem dX10_shift_133 : decode mX10_shift.1 133 = .ok (.imul, 1) := by decide +kernel
theorem dX10_shift_134 : decode mX10_shift.1 134 = .ok (.iload_n 2, 1) := by decide +kernel
theorem dX10_shift_135 : decode mX10_shift.1 135 = .ok (.iadd, 1) := by decide +kernel
theorem dX10_shift_136 : decode mX10_shift.1 136 = .ok (.iload 6, 2) := by decide +kernel
theorem dX10_shift_138 : decode mX10_shift.1 138 = .ok (.iadd, 1) := by decide +kernel
theorem dX10_shift_139 : decode mX10_shift.1 139 = .ok (.laload, 1) := by decide +kernel
theorem dX10_shift_140 : decode mX10_shift.1 140 = .ok (.lastore, 1) := by decide +kernel
theorem dX10_shift_141 : decode mX10_shift.1 141 = .ok (.iinc 6 1, 3) := by decide +kernel
theorem dX10_shift_144 : decode mX10_shift.1 144 = .ok (.goto (-31), 3) := by decide +kernel
theorem dX10_shift_147 : decode mX10_shift.1 147 = .ok (.iconst 0, 1) := by decide +kernel
theorem dX10_shift_148 : decode mX10_shift.1 148 = .ok (.istore 6, 2) := by decide +kernel
theorem dX10_shift_150 : decode mX10_shift.1 150 = .ok (.iload 6, 2) := by decide +kernel
theorem dX10_shift_152 : decode mX10_shift.1 152 = .ok (.iload 5, 2) := by decide +kernel
theorem dX10_shift_154 : decode mX10_shift.1 154 = .ok (.if_icmp .ge 31, 3) := by decide +kernel
theorem dX10_shift_157 : decode mX10_shift.1 157 = .ok (.aload_n 0, 1) := by decide +kernel
theorem dX10_shift_158 : decode mX10_shift.1 158 = .ok (.getfield 123, 3) := by decide +kernel
theorem dX10_shift_161 : decode mX10_shift.1 161 = .ok (.bipush 60, 2) := by decide +kernel
theorem dX10_shift_163 : decode mX10_shift.1 163 = .ok (.iload_n 3, 1) := by decide +kernel
theorem dX10_shift_164 : decode mX10_shift.1 164 = .ok (.imul, 1) := by decide +kernel
theorem dX10_shift_165 : decode mX10_shift.1 165 = .ok (.iload 4, 2) := by decide +kernel
theorem dX10_shift_167 : decode mX10_shift.1 167 = .ok (.iadd, 1) := by decide +kernel
theorem dX10_shift_168 : decode mX10_shift.1 168 = .ok (.iload 6, 2) := by decide +kernel
theorem dX10_shift_170 : decode mX10_shift.1 170 = .ok (.iadd, 1) := by decide +kernel
theorem dX10_shift_171 : decode mX10_shift.1 171 = .ok (.aload_n 0, 1) := by decide +kernel
theorem dX10_shift_172 : decode mX10_shift.1 172 = .ok (.getfield 127, 3) := by decide +kernel
theorem dX10_shift_175 : decode mX10_shift.1 175 = .ok (.iload 6, 2) := by decide +kernel
theorem dX10_shift_177 : decode mX10_shift.1 177 = .ok (.laload, 1) := by decide +kernel
theorem dX10_shift_178 : decode mX10_shift.1 178 = .ok (.lastore, 1) := by decide +kernel
theorem dX10_shift_179 : decode mX10_shift.1 179 = .ok (.iinc 6 1, 3) := by decide +kernel
theorem dX10_shift_182 : decode mX10_shift.1 182 = .ok (.goto (-32), 3) := by decide +kernel
theorem dX10_shift_185 : decode mX10_shift.1 185 = .ok (.iload 5, 2) := by decide +kernel
theorem dX10_shift_187 : decode mX10_shift.1 187 = .ok (.ireturn, 1) := by decide +kernel
theorem X10_shift_0 (h : mm_M) (a1 : Int) (a2 : Int) (a3 : Int) (a4 : Int) (a5 : Int) : mm_ev mX10_shift 3 0 [some (vR 47), some (vI a1), some (vI a2), some (vI a3), some (vI a4), some (vI a5), none] [] h = (mm_call mX10_isShelf [vI a1] h).bind (fun w => mm_ev mX10_shift 3 4 [some (vR 47), some (vI a1), some (vI a2), some (vI a3), some (vI a4), some (vI a5), none] (w.1 ++ []) w.2) := (ev_iload_n 1 dX10_shift_0 rfl rfl).trans ((ev_calls mX10_isShelf [vI a1] [] 4 dX10_shift_1 ml_10_147 k258 rfl rfl rfl (Nat.le_of_ble_eq_true rfl) (Nat.le_of_ble_eq_true rfl) rfl).trans (if_pos (show 2 < 3 from by decide)))
theorem X10_shift_c (h : mm_M) (a1 : Int) (a2 : Int) (a3 : Int) (a4 : Int) (a5 : Int) : mm_call mX10_shift [vR 47, vI a1, vI a2, vI a3, vI a4, vI a5] h = (mm_call mX10_isShelf [vI a1] h).bind (fun w => mm_ev mX10_shift 3 4 [some (vR 47), some (vI a1), some (vI a2), some (vI a3), some (vI a4), some (vI a5), none] (w.1 ++ []) w.2) := X10_shift_0 h a1 a2 a3 a4 a5
theorem X10_shift_4 (h : mm_M) (a1 : Int) (a2 : Int) (a3 : Int) (a4 : Int) (a5 : Int) (s0 : Int) : mm_ev mX10_shift 3 4 [some (vR 47), some (vI a1), some (vI a2), some (vI a3), some (vI a4), some (vI a5), none] [vI s0] h = if s0 = 0 then some ([vI (-1)], h) else (mm_call mX10_isShelf [vI a3] h).bind (fun w => mm_ev mX10_shift 3 11 [some (vR 47), some (vI a1), some (vI a2), some (vI a3), some (vI a4), some (vI a5), none] (w.1 ++ []) w.2) := (ev_if_eq 14 7 dX10_shift_4 rfl rfl).trans (mm_ite ((ev_iconst 15 (v := (-1)) dX10_shift_14 rfl rfl).trans (ev_iret dX10_shift_15 rfl)) ((ev_iload_n 8 dX10_shift_7 rfl rfl).trans ((ev_calls mX10_isShelf [vI a3] [] 11 dX10_shift_8 ml_10_147 k258 rfl rfl rfl (Nat.le_of_ble_eq_true rfl) (Nat.le_of_ble_eq_true rfl) rfl).trans (if_pos (show 2 < 3 from by decide)))))
theorem X10_shift_11 (h : mm_M) (a1 : Int) (a2 : Int) (a3 : Int) (a4 : Int) (a5 : Int) (s0 : Int) : mm_ev mX10_shift 3 11 [some (vR 47), some (vI a1), some (vI a2), some (vI a3), some (vI a4), some (vI a5), none] [vI s0] h = if ¬ s0 = 0 then if 0 ≤ a1 ∧ a1 < 6 then if (h 79 a1) = (-1) then some ([vI (-11)], h) else if 0 ≤ a3 ∧ a3 < 6 then if ¬ (h 79 a3) = (-1) then if 0 ≤ a1 ∧ a1 < 6 then if 0 ≤ (h 79 a1) then some ([vI (-12)], h) else if 0 ≤ a1 ∧ a1 < 6 then if 0 ≤ a3 ∧ a3 < 6 then if (h 79 a1) = (h 79 a3) then if a5 < 0 then some ([vI (-13)], h) else if a2 < 0 then some ([vI (-13)], h) else if a4 < 0 then some ([vI (-13)], h) else if 0 ≤ a1 ∧ a1 < 6 then if (w32 ((h 80 a1) - a5)) < a2 then some ([vI (-13)], h) else if 0 ≤ a3 ∧ a3 < 6 then if a4 ≤ (w32 ((h 80 a3) - a5)) then mm_ev mX10_shift 3 113 [some (vR 47), some (vI a1), some (vI a2), some (vI a3), some (vI a4), some (vI a5), some (vI 0)] [] h else some ([vI (-13)], h) else none else none else some ([vI (-12)], h) else none else none else none else some ([vI (-11)], h) else none else none else some ([vI (-1)], h) := (ev_if_ne 16 14 dX10_shift_11 rfl rfl).trans (mm_ite ((ev_aload_n 17 dX10_shift_16 rfl rfl).trans ((ev_getF 20 79 dX10_shift_17 fl_10_117 oc47 ak47 rfl rf_47_53 rfl).trans ((ev_iload_n 21 dX10_shift_20 rfl rfl).trans ((ev_iald 22 6 dX10_shift_21 ak79 an79 rfl).trans (mm_ite ((ev_iconst 23 (v := (-1)) dX10_shift_22 rfl rfl).trans ((ev_ic_eq 36 26 dX10_shift_23 rfl rfl).trans (mm_ite ((ev_bipush 38 (v := (-11)) dX10_shift_36 rfl rfl).trans (ev_iret dX10_shift_38 rfl)) ((ev_aload_n 27 dX10_shift_26 rfl rfl).trans ((ev_getF 30 79 dX10_shift_27 fl_10_117 oc47 ak47 rfl rf_47_53 rfl).trans ((ev_iload_n 31 dX10_shift_30 rfl rfl).trans ((ev_iald 32 6 dX10_shift_31 ak79 an79 rfl).trans (mm_ite ((ev_iconst 33 (v := (-1)) dX10_shift_32 rfl rfl).trans ((ev_ic_ne 39 36 dX10_shift_33 rfl rfl).trans (mm_ite ((ev_aload_n 40 dX10_shift_39 rfl rfl).trans ((ev_getF 43 79 dX10_shift_40 fl_10_117 oc47 ak47 rfl rf_47_53 rfl).trans ((ev_iload_n 44 dX10_shift_43 rfl rfl).trans ((ev_iald 45 6 dX10_shift_44 ak79 an79 rfl).trans (mm_ite ((ev_if_ge 63 48 dX10_shift_45 rfl rfl).trans (mm_ite ((ev_bipush 65 (v := (-12)) dX10_shift_63 rfl rfl).trans (ev_iret dX10_shift_65 rfl)) ((ev_aload_n 49 dX10_shift_48 rfl rfl).trans ((ev_getF 52 79 dX10_shift_49 fl_10_117 oc47 ak47 rfl rf_47_53 rfl).trans ((ev_iload_n 53 dX10_shift_52 rfl rfl).trans ((ev_iald 54 6 dX10_shift_53 ak79 an79 rfl).trans (mm_ite ((ev_aload_n 55 dX10_shift_54 rfl rfl).trans ((ev_getF 58 79 dX10_shift_55 fl_10_117 oc47 ak47 rfl rf_47_53 rfl).trans ((ev_iload_n 59 dX10_shift_58 rfl rfl).trans ((ev_iald 60 6 dX10_shift_59 ak79 an79 rfl).trans (mm_ite ((ev_ic_eq 66 63 dX10_shift_60 rfl rfl).trans (mm_ite ((ev_iload 68 dX10_shift_66 rfl rfl).trans ((ev_if_lt 107 71 dX10_shift_68 rfl rfl).trans (mm_ite ((ev_bipush 109 (v := (-13)) dX10_shift_107 rfl rfl).trans (ev_iret dX10_shift_109 rfl)) ((ev_iload_n 72 dX10_shift_71 rfl rfl).trans ((ev_if_lt 107 75 dX10_shift_72 rfl rfl).trans (mm_ite ((ev_bipush 109 (v := (-13)) dX10_shift_107 rfl rfl).trans (ev_iret dX10_shift_109 rfl)) ((ev_iload 77 dX10_shift_75 rfl rfl).trans ((ev_if_lt 107 80 dX10_shift_77 rfl rfl).trans (mm_ite ((ev_bipush 109 (v := (-13)) dX10_shift_107 rfl rfl).trans (ev_iret dX10_shift_109 rfl)) ((ev_iload_n 81 dX10_shift_80 rfl rfl).trans ((ev_aload_n 82 dX10_shift_81 rfl rfl).trans ((ev_getF 85 80 dX10_shift_82 fl_10_120 oc47 ak47 rfl rf_47_54 rfl).trans ((ev_iload_n 86 dX10_shift_85 rfl rfl).trans ((ev_iald 87 6 dX10_shift_86 ak80 an80 rfl).trans (mm_ite ((ev_iload 89 dX10_shift_87 rfl rfl).trans ((ev_isub 90 dX10_shift_89 rfl).trans ((ev_ic_gt 107 93 dX10_shift_90 rfl rfl).trans (mm_ite ((ev_bipush 109 (v := (-13)) dX10_shift_107 rfl rfl).trans (ev_iret dX10_shift_109 rfl)) ((ev_iload 95 dX10_shift_93 rfl rfl).trans ((ev_aload_n 96 dX10_shift_95 rfl rfl).trans ((ev_getF 99 80 dX10_shift_96 fl_10_120 oc47 ak47 rfl rf_47_54 rfl).trans ((ev_iload_n 100 dX10_shift_99 rfl rfl).trans ((ev_iald 101 6 dX10_shift_100 ak80 an80 rfl).trans (mm_ite ((ev_iload 103 dX10_shift_101 rfl rfl).trans ((ev_isub 104 dX10_shift_103 rfl).trans ((ev_ic_le 110 107 dX10_shift_104 rfl rfl).trans (mm_ite ((ev_iconst 111 (v := 0) dX10_shift_110 rfl rfl).trans (ev_istore 113 [some (vR 47), some (vI a1), some (vI a2), some (vI a3), some (vI a4), some (vI a5), some (vI 0)] dX10_shift_111 rfl rfl)) ((ev_bipush 109 (v := (-13)) dX10_shift_107 rfl rfl).trans (ev_iret dX10_shift_109 rfl)))))) (rfl))))))))))) (rfl)))))))))))))))) ((ev_bipush 65 (v := (-12)) dX10_shift_63 rfl rfl).trans (ev_iret dX10_shift_65 rfl)))) (rfl)))))) (rfl)))))))) (rfl)))))) ((ev_bipush 38 (v := (-11)) dX10_shift_36 rfl rfl).trans (ev_iret dX10_shift_38 rfl))))) (rfl))))))))) (rfl)))))) ((ev_iconst 15 (v := (-1)) dX10_shift_14 rfl rfl).trans (ev_iret dX10_shift_15 rfl)))
theorem X10_shift_113 (h : mm_M) (a1 : Int) (a2 : Int) (a3 : Int) (a4 : Int) (a5 : Int) (a6 : Int) : mm_ev mX10_shift 3 113 [some (vR 47), some (vI a1), some (vI a2), some (vI a3), some (vI a4), some (vI a5), some (vI a6)] [] h = if a5 ≤ a6 then mm_ev mX10_shift 3 150 [some (vR 47), some (vI a1), some (vI a2), some (vI a3), some (vI a4), some (vI a5), some (vI 0)] [] h else if 0 ≤ (w32 ((w32 ((w32 (60 * a1)) + a2)) + a6)) ∧ (w32 ((w32 ((w32 (60 * a1)) + a2)) + a6)) < 360 then if 0 ≤ a6 ∧ a6 < 60 then mm_ev mX10_shift 3 113 [some (vR 47), some (vI a1), some (vI a2), some (vI a3), some (vI a4), some (vI a5), some (vI (w32 (a6 + 1)))] [] (mUp h 82 a6 (h 81 (w32 ((w32 ((w32 (60 * a1)) + a2)) + a6)))) else none else none := (ev_iload 115 dX10_shift_113 rfl rfl).trans ((ev_iload 117 dX10_shift_115 rfl rfl).trans ((ev_ic_ge 147 120 dX10_shift_117 rfl rfl).trans (mm_ite ((ev_iconst 148 (v := 0) dX10_shift_147 rfl rfl).trans (ev_istore 150 [some (vR 47), some (vI a1), some (vI a2), some (vI a3), some (vI a4), some (vI a5), some (vI 0)] dX10_shift_148 rfl rfl)) ((ev_aload_n 121 dX10_shift_120 rfl rfl).trans ((ev_getF 124 82 dX10_shift_121 fl_10_127 oc47 ak47 rfl rf_47_56 rfl).trans ((ev_iload 126 dX10_shift_124 rfl rfl).trans ((ev_aload_n 127 dX10_shift_126 rfl rfl).trans ((ev_getF 130 81 dX10_shift_127 fl_10_123 oc47 ak47 rfl rf_47_55 rfl).trans ((ev_bipush 132 (v := 60) dX10_shift_130 rfl rfl).trans ((ev_iload_n 133 dX10_shift_132 rfl rfl).trans ((ev_imul 134 dX10_shift_133 rfl).trans ((ev_iload_n 135 dX10_shift_134 rfl rfl).trans ((ev_iadd 136 dX10_shift_135 rfl).trans ((ev_iload 138 dX10_shift_136 rfl rfl).trans ((ev_iadd 139 dX10_shift_138 rfl).trans ((ev_lald 140 360 dX10_shift_139 ak81 an81 rfl).trans (mm_ite ((ev_last 141 60 dX10_shift_140 ak82 an82 rfl).trans (mm_ite ((ev_iinc 144 [some (vR 47), some (vI a1), some (vI a2), some (vI a3), some (vI a4), some (vI a5), some (vI (w32 (a6 + 1)))] dX10_shift_141 rfl rfl rfl).trans (ev_goto 113 dX10_shift_144 rfl)) (rfl))) (rfl))))))))))))))))))
theorem X10_shift_150 (h : mm_M) (a1 : Int) (a2 : Int) (a3 : Int) (a4 : Int) (a5 : Int) (a6 : Int) : mm_ev mX10_shift 3 150 [some (vR 47), some (vI a1), some (vI a2), some (vI a3), some (vI a4), some (vI a5), some (vI a6)] [] h = if a5 ≤ a6 then some ([vI a5], h) else if 0 ≤ a6 ∧ a6 < 60 then if 0 ≤ (w32 ((w32 ((w32 (60 * a3)) + a4)) + a6)) ∧ (w32 ((w32 ((w32 (60 * a3)) + a4)) + a6)) < 360 then mm_ev mX10_shift 3 150 [some (vR 47), some (vI a1), some (vI a2), some (vI a3), some (vI a4), some (vI a5), some (vI (w32 (a6 + 1)))] [] (mUp h 81 (w32 ((w32 ((w32 (60 * a3)) + a4)) + a6)) (h 82 a6)) else none else none := (ev_iload 152 dX10_shift_150 rfl rfl).trans ((ev_iload 154 dX10_shift_152 rfl rfl).trans ((ev_ic_ge 185 157 dX10_shift_154 rfl rfl).trans (mm_ite ((ev_iload 187 dX10_shift_185 rfl rfl).trans (ev_iret dX10_shift_187 rfl)) ((ev_aload_n 158 dX10_shift_157 rfl rfl).trans ((ev_getF 161 81 dX10_shift_158 fl_10_123 oc47 ak47 rfl rf_47_55 rfl).trans ((ev_bipush 163 (v := 60) dX10_shift_161 rfl rfl).trans ((ev_iload_n 164 dX10_shift_163 rfl rfl).trans ((ev_imul 165 dX10_shift_164 rfl).trans ((ev_iload 167 dX10_shift_165 rfl rfl).trans ((ev_iadd 168 dX10_shift_167 rfl).trans ((ev_iload 170 dX10_shift_168 rfl rfl).trans ((ev_iadd 171 dX10_shift_170 rfl).trans ((ev_aload_n 172 dX10_shift_171 rfl rfl).trans ((ev_getF 175 82 dX10_shift_172 fl_10_127 oc47 ak47 rfl rf_47_56 rfl).trans ((ev_iload 177 dX10_shift_175 rfl rfl).trans ((ev_lald 178 60 dX10_shift_177 ak82 an82 rfl).trans (mm_ite ((ev_last 179 360 dX10_shift_178 ak81 an81 rfl).trans (mm_ite ((ev_iinc 182 [some (vR 47), some (vI a1), some (vI a2), some (vI a3), some (vI a4), some (vI a5), some (vI (w32 (a6 + 1)))] dX10_shift_179 rfl rfl rfl).trans (ev_goto 150 dX10_shift_182 rfl)) (rfl))) (rfl))))))))))))))))))
theorem dX10_element_0 : decode mX10_element.1 0 = .ok (.aload_n 0, 1) := by decide +kernel
theorem dX10_element_1 : decode mX10_element.1 1 = .ok (.iload_n 1, 1) := by decide +kernel
theorem dX10_element_2 : decode mX10_element.1 2 = .ok (.iload_n 2, 1) := by decide +kernel
theorem dX10_element_3 : decode mX10_element.1 3 = .ok (.invokevirtual 446, 3) := by decide +kernel
theorem dX10_element_6 : decode mX10_element.1 6 = .ok (.ifCond .ge 9, 3) := by decide +kernel
theorem dX10_element_9 : decode mX10_element.1 9 = .ok (.ldc2_w 363, 3) := by decide +kernel
theorem dX10_element_12 : decode mX10_element.1 12 = .ok (.goto 14, 3) := by decide +kernel
theorem dX10_element_15 : decode mX10_element.1 15 = .ok (.aload_n 0, 1) := by decide +kernel
theorem dX10_element_16 : decode mX10_element.1 16 = .ok (.getfield 123, 3) := by decide +kernel
theorem dX10_element_19 : decode mX10_element.1 19 = .ok (.bipush 60, 2) := by decide +kernel
theorem dX10_element_21 : decode mX10_element.1 21 = .ok (.iload_n 1, 1) := by decide +kernel
theorem dX10_element_22 : decode mX10_element.1 22 = .ok (.imul, 1) := by decide +kernel
theorem dX10_element_23 : decode mX10_element.1 23 = .ok (.iload_n 2, 1) := by decide +kernel
theorem dX10_element_24 : decode mX10_element.1 24 = .ok (.iadd, 1) := by decide +kernel
theorem dX10_element_25 : decode mX10_element.1 25 = .ok (.laload, 1) := by decide +kernel
theorem dX10_element_26 : decode mX10_element.1 26 = .ok (.lreturn, 1) := by decide +kernel
theorem X10_element_0 (h : mm_M) (a1 : Int) (a2 : Int) : mm_ev mX10_element 4 0 [some (vR 47), some (vI a1), some (vI a2)] [] h = (mm_call mX10_whyNoPlace [vR 47, vI a1, vI a2] h).bind (fun w => mm_ev mX10_element 4 6 [some (vR 47), some (vI a1), some (vI a2)] (w.1 ++ []) w.2) := (ev_aload_n 1 dX10_element_0 rfl rfl).trans ((ev_iload_n 2 dX10_element_1 rfl rfl).trans ((ev_iload_n 3 dX10_element_2 rfl rfl).trans ((ev_callv mX10_whyNoPlace [vR 47, vI a1, vI a2] [] 6 dX10_element_3 ml_10_446 k261 rfl oc47 ak47 rfl rfl (Nat.le_of_ble_eq_true rfl) (Nat.le_of_ble_eq_true rfl) rfl).trans (if_pos (show 3 < 4 from by decide)))))
theorem X10_element_c (h : mm_M) (a1 : Int) (a2 : Int) : mm_call mX10_element [vR 47, vI a1, vI a2] h = (mm_call mX10_whyNoPlace [vR 47, vI a1, vI a2] h).bind (fun w => mm_ev mX10_element 4 6 [some (vR 47), some (vI a1), some (vI a2)] (w.1 ++ []) w.2) := X10_element_0 h a1 a2
theorem X10_element_6 (h : mm_M) (a1 : Int) (a2 : Int) (s0 : Int) : mm_ev mX10_element 4 6 [some (vR 47), some (vI a1), some (vI a2)] [vI s0] h = if 0 ≤ s0 then if 0 ≤ (w32 ((w32 (60 * a1)) + a2)) ∧ (w32 ((w32 (60 * a1)) + a2)) < 360 then some ([vL (h 81 (w32 ((w32 (60 * a1)) + a2)))], h) else none else some ([vL (-9223372036854775808)], h) := (ev_if_ge 15 9 dX10_element_6 rfl rfl).trans (mm_ite ((ev_aload_n 16 dX10_element_15 rfl rfl).trans ((ev_getF 19 81 dX10_element_16 fl_10_123 oc47 ak47 rfl rf_47_55 rfl).trans ((ev_bipush 21 (v := 60) dX10_element_19 rfl rfl).trans ((ev_iload_n 22 dX10_element_21 rfl rfl).trans ((ev_imul 23 dX10_element_22 rfl).trans ((ev_iload_n 24 dX10_element_23 rfl rfl).trans ((ev_iadd 25 dX10_element_24 rfl).trans ((ev_lald 26 360 dX10_element_25 ak81 an81 rfl).trans (mm_ite (ev_lret dX10_element_26 rfl) (rfl)))))))))) ((ev_ldc2_w 12 dX10_element_9 cL_10_363 rfl).trans ((ev_goto 26 dX10_element_12 rfl).trans (ev_lret dX10_element_26 rfl))))
theorem dX10_whyNoPlace_0 : decode mX10_whyNoPlace.1 0 = .ok (.iload_n 1, 1) := by decide +kernel
theorem dX10_whyNoPlace_1 : decode mX10_whyNoPlace.1 1 = .ok (.invokestatic 147, 3) := by decide +kernel
theorem dX10_whyNoPlace_4 : decode mX10_whyNoPlace.1 4 = .ok (.ifCond .ne 5, 3) := by decide +kernel
theorem dX10_whyNoPlace_7 : decode mX10_whyNoPlace.1 7 = .ok (.iconst (-1), 1) := by decide +kernel
theorem dX10_whyNoPlace_8 : decode mX10_whyNoPlace.1 8 = .ok (.ireturn, 1) := by decide +kernel
theorem dX10_whyNoPlace_9 : decode mX10_whyNoPlace.1 9 = .ok (.aload_n 0, 1) := by decide +kernel
theorem dX10_whyNoPlace_10 : decode mX10_whyNoPlace.1 10 = .ok (.getfield 117, 3) := by decide +kernel
theorem dX10_whyNoPlace_13 : decode mX10_whyNoPlace.1 13 = .ok (.iload_n 1, 1) := by decide +kernel
theorem dX10_whyNoPlace_14 : decode mX10_whyNoPlace.1 14 = .ok (.iaload, 1) := by decide +kernel
theorem dX10_whyNoPlace_15 : decode mX10_whyNoPlace.1 15 = .ok (.iconst (-1), 1) := by decide +kernel
theorem dX10_whyNoPlace_16 : decode mX10_whyNoPlace.1 16 = .ok (.if_icmp .ne 6, 3) := by decide +kernel
theorem dX10_whyNoPlace_19 : decode mX10_whyNoPlace.1 19 = .ok (.bipush (-11), 2) := by decide +kernel
theorem dX10_whyNoPlace_21 : decode mX10_whyNoPlace.1 21 = .ok (.ireturn, 1) := by decide +kernel
theorem dX10_whyNoPlace_22 : decode mX10_whyNoPlace.1 22 = .ok (.aload_n 0, 1) := by decide +kernel
theorem dX10_whyNoPlace_23 : decode mX10_whyNoPlace.1 23 = .ok (.getfield 117, 3) := by decide +kernel
theorem dX10_whyNoPlace_26 : decode mX10_whyNoPlace.1 26 = .ok (.iload_n 1, 1) := by decide +kernel
theorem dX10_whyNoPlace_27 : decode mX10_whyNoPlace.1 27 = .ok (.iaload, 1) := by decide +kernel
theorem dX10_whyNoPlace_28 : decode mX10_whyNoPlace.1 28 = .ok (.ifCond .lt 6, 3) := by decide +kernel
theorem dX10_whyNoPlace_31 : decode mX10_whyNoPlace.1 31 = .ok (.bipush (-12), 2) := by decide +kernel
theorem dX10_whyNoPlace_33 : decode mX10_whyNoPlace.1 33 = .ok (.ireturn, 1) := by decide +kernel
theorem dX10_whyNoPlace_34 : decode mX10_whyNoPlace.1 34 = .ok (.iload_n 2, 1) := by decide +kernel
theorem dX10_whyNoPlace_35 : decode mX10_whyNoPlace.1 35 = .ok (.iconst 0, 1) := by decide +kernel
theorem dX10_whyNoPlace_36 : decode mX10_whyNoPlace.1 36 = .ok (.aload_n 0, 1) := by decide +kernel
theorem dX10_whyNoPlace_37 : decode mX10_whyNoPlace.1 37 = .ok (.getfield 120, 3) := by decide +kernel
theorem dX10_whyNoPlace_40 : decode mX10_whyNoPlace.1 40 = .ok (.iload_n 1, 1) := by decide +kernel
theorem dX10_whyNoPlace_41 : decode mX10_whyNoPlace.1 41 = .ok (.iaload, 1) := by decide +kernel
theorem dX10_whyNoPlace_42 : decode mX10_whyNoPlace.1 42 = .ok (.iconst 1, 1) := by decide +kernel
theorem dX10_whyNoPlace_43 : decode mX10_whyNoPlace.1 43 = .ok (.isub, 1) := by decide +kernel
theorem dX10_whyNoPlace_44 : decode mX10_whyNoPlace.1 44 = .ok (.invokestatic 136, 3) := by decide +kernel
theorem dX10_whyNoPlace_47 : decode mX10_whyNoPlace.1 47 = .ok (.ifCond .eq 7, 3) := by decide +kernel
theorem dX10_whyNoPlace_50 : decode mX10_whyNoPlace.1 50 = .ok (.iconst 0, 1) := by decide +kernel
theorem dX10_whyNoPlace_51 : decode mX10_whyNoPlace.1 51 = .ok (.goto 5, 3) := by decide +kernel
theorem dX10_whyNoPlace_54 : decode mX10_whyNoPlace.1 54 = .ok (.bipush (-13), 2) := by decide +kernel
theorem dX10_whyNoPlace_56 : decode mX10_whyNoPlace.1 56 = .ok (.ireturn, 1) := by decide +kernel
theorem X10_whyNoPlace_0 (h : mm_M) (a1 : Int) (a2 : Int) : mm_ev mX10_whyNoPlace 3 0 [some (vR 47), some (vI a1), some (vI a2)] [] h = (mm_call mX10_isShelf [vI a1] h).bind (fun w => mm_ev mX10_whyNoPlace 3 4 [some (vR 47), some (vI a1), some (vI a2)] (w.1 ++ []) w.2) := (ev_iload_n 1 dX10_whyNoPlace_0 rfl rfl).trans ((ev_calls mX10_isShelf [vI a1] [] 4 dX10_whyNoPlace_1 ml_10_147 k258 rfl rfl rfl (Nat.le_of_ble_eq_true rfl) (Nat.le_of_ble_eq_true rfl) rfl).trans (if_pos (show 2 < 3 from by decide)))
theorem X10_whyNoPlace_c (h : mm_M) (a1 : Int) (a2 : Int) : mm_call mX10_whyNoPlace [vR 47, vI a1, vI a2] h = (mm_call mX10_isShelf [vI a1] h).bind (fun w => mm_ev mX10_whyNoPlace 3 4 [some (vR 47), some (vI a1), some (vI a2)] (w.1 ++ []) w.2) := X10_whyNoPlace_0 h a1 a2
theorem X10_whyNoPlace_4 (h : mm_M) (a1 : Int) (a2 : Int) (s0 : Int) : mm_ev mX10_whyNoPlace 3 4 [some (vR 47), some (vI a1), some (vI a2)] [vI s0] h = if ¬ s0 = 0 then if 0 ≤ a1 ∧ a1 < 6 then if ¬ (h 79 a1) = (-1) then if 0 ≤ a1 ∧ a1 < 6 then if (h 79 a1) < 0 then if 0 ≤ a1 ∧ a1 < 6 then (mm_call mX10_in [vI a2, vI 0, vI (w32 ((h 80 a1) - 1))] h).bind (fun w => mm_ev mX10_whyNoPlace 3 47 [some (vR 47), some (vI a1), some (vI a2)] (w.1 ++ []) w.2) else none else some ([vI (-12)], h) else none else some ([vI (-11)], h) else none else some ([vI (-1)], h) := (ev_if_ne 9 7 dX10_whyNoPlace_4 rfl rfl).trans (mm_ite ((ev_aload_n 10 dX10_whyNoPlace_9 rfl rfl).trans ((ev_getF 13 79 dX10_whyNoPlace_10 fl_10_117 oc47 ak47 rfl rf_47_53 rfl).trans ((ev_iload_n 14 dX10_whyNoPlace_13 rfl rfl).trans ((ev_iald 15 6 dX10_whyNoPlace_14 ak79 an79 rfl).trans (mm_ite ((ev_iconst 16 (v := (-1)) dX10_whyNoPlace_15 rfl rfl).trans ((ev_ic_ne 22 19 dX10_whyNoPlace_16 rfl rfl).trans (mm_ite ((ev_aload_n 23 dX10_whyNoPlace_22 rfl rfl).trans ((ev_getF 26 79 dX10_whyNoPlace_23 fl_10_117 oc47 ak47 rfl rf_47_53 rfl).trans ((ev_iload_n 27 dX10_whyNoPlace_26 rfl rfl).trans ((ev_iald 28 6 dX10_whyNoPlace_27 ak79 an79 rfl).trans (mm_ite ((ev_if_lt 34 31 dX10_whyNoPlace_28 rfl rfl).trans (mm_ite ((ev_iload_n 35 dX10_whyNoPlace_34 rfl rfl).trans ((ev_iconst 36 (v := 0) dX10_whyNoPlace_35 rfl rfl).trans ((ev_aload_n 37 dX10_whyNoPlace_36 rfl rfl).trans ((ev_getF 40 80 dX10_whyNoPlace_37 fl_10_120 oc47 ak47 rfl rf_47_54 rfl).trans ((ev_iload_n 41 dX10_whyNoPlace_40 rfl rfl).trans ((ev_iald 42 6 dX10_whyNoPlace_41 ak80 an80 rfl).trans (mm_ite ((ev_iconst 43 (v := 1) dX10_whyNoPlace_42 rfl rfl).trans ((ev_isub 44 dX10_whyNoPlace_43 rfl).trans ((ev_calls mX10_in [vI a2, vI 0, vI (w32 ((h 80 a1) - 1))] [] 47 dX10_whyNoPlace_44 ml_10_136 k143 rfl rfl rfl (Nat.le_of_ble_eq_true rfl) (Nat.le_of_ble_eq_true rfl) rfl).trans (if_pos (show 1 < 3 from by decide))))) (rfl)))))))) ((ev_bipush 33 (v := (-12)) dX10_whyNoPlace_31 rfl rfl).trans (ev_iret dX10_whyNoPlace_33 rfl)))) (rfl)))))) ((ev_bipush 21 (v := (-11)) dX10_whyNoPlace_19 rfl rfl).trans (ev_iret dX10_whyNoPlace_21 rfl))))) (rfl)))))) ((ev_iconst 8 (v := (-1)) dX10_whyNoPlace_7 rfl rfl).trans (ev_iret dX10_whyNoPlace_8 rfl)))
theorem X10_whyNoPlace_47 (h : mm_M) (a1 : Int) (a2 : Int) (s0 : Int) : mm_ev mX10_whyNoPlace 3 47 [some (vR 47), some (vI a1), some (vI a2)] [vI s0] h = if s0 = 0 then some ([vI (-13)], h) else some ([vI 0], h) := (ev_if_eq 54 50 dX10_whyNoPlace_47 rfl rfl).trans (mm_ite ((ev_bipush 56 (v := (-13)) dX10_whyNoPlace_54 rfl rfl).trans (ev_iret dX10_whyNoPlace_56 rfl)) ((ev_iconst 51 (v := 0) dX10_whyNoPlace_50 rfl rfl).trans ((ev_goto 56 dX10_whyNoPlace_51 rfl).trans (ev_iret dX10_whyNoPlace_56 rfl))))
theorem dX10_put_0 : decode mX10_put.1 0 = .ok (.aload_n 0, 1) := by decide +kernel
theorem dX10_put_1 : decode mX10_put.1 1 = .ok (.iload_n 1, 1) := by decide +kernel
theorem dX10_put_2 : decode mX10_put.1 2 = .ok (.iload_n 2, 1) := by decide +kernel
theorem dX10_put_3 : decode mX10_put.1 3 = .ok (.invokevirtual 446, 3) := by decide +kernel
theorem dX10_put_6 : decode mX10_put.1 6 = .ok (.istore 5, 2) := by decide +kernel
theorem dX10_put_8 : decode mX10_put.1 8 = .ok (.iload 5, 2) := by decide +kernel
theorem dX10_put_10 : decode mX10_put.1 10 = .ok (.ifCond .ge 6, 3) := by decide +kernel
theorem dX10_put_13 : decode mX10_put.1 13 = .ok (.iload 5, 2) := by decide +kernel
theorem dX10_put_15 : decode mX10_put.1 15 = .ok (.ireturn, 1) := by decide +kernel
theorem dX10_put_16 : decode mX10_put.1 16 = .ok (.bipush (-2), 2) := by decide +kernel
theorem dX10_put_18 : decode mX10_put.1 18 = .ok (.aload_n 0, 1) := by decide +kernel
theorem dX10_put_19 : decode mX10_put.1 19 = .ok (.getfield 117, 3) := by decide +kernel
theorem dX10_put_22 : decode mX10_put.1 22 = .ok (.iload_n 1, 1) := by decide +kernel
theorem dX10_put_23 : decode mX10_put.1 23 = .ok (.iaload, 1) := by decide +kernel
theorem dX10_put_24 : decode mX10_put.1 24 = .ok (.isub, 1) := by decide +kernel
theorem dX10_put_25 : decode mX10_put.1 25 = .ok (.istore 6, 2) := by decide +kernel
theorem dX10_put_27 : decode mX10_put.1 27 = .ok (.aload_n 0, 1) := by decide +kernel
theorem dX10_put_28 : decode mX10_put.1 28 = .ok (.getfield 123, 3) := by decide +kernel
theorem dX10_put_31 : decode mX10_put.1 31 = .ok (.bipush 60, 2) := by decide +kernel
theorem dX10_put_33 : decode mX10_put.1 33 = .ok (.iload_n 1, 1) := by decide +kernel
theorem dX10_put_34 : decode mX10_put.1 34 = .ok (.imul, 1) := by decide +kernel
theorem dX10_put_35 : decode mX10_put.1 35 = .ok (.iload_n 2, 1) := by decide +kernel
theorem dX10_put_36 : decode mX10_put.1 36 = .ok (.iadd, 1) := by decide +kernel
theorem dX10_put_37 : decode mX10_put.1 37 = .ok (.iload 6, 2) := by decide +kernel
theorem dX10_put_39 : decode mX10_put.1 39 = .ok (.ifCond .ne 10, 3) := by decide +kernel
theorem dX10_put_42 : decode mX10_put.1 42 = .ok (.lload_n 3, 1) := by decide +kernel
theorem dX10_put_43 : decode mX10_put.1 43 = .ok (.l2i, 1) := by decide +kernel
theorem dX10_put_44 : decode mX10_put.1 44 = .ok (.i2b, 1) := by decide +kernel
theorem dX10_put_45 : decode mX10_put.1 45 = .ok (.i2l, 1) := by decide +kernel
theorem dX10_put_46 : decode mX10_put.1 46 = .ok (.goto 49, 3) := by decide +kernel
theorem dX10_put_49 : decode mX10_put.1 49 = .ok (.iload 6, 2) := by decide +kernel
theorem dX10_put_51 : decode mX10_put.1 51 = .ok (.iconst 1, 1) := by decide +kernel
theorem dX10_put_52 : decode mX10_put.1 52 = .ok (.if_icmp .ne 10, 3) := by decide +kernel
theorem dX10_put_55 : decode mX10_put.1 55 = .ok (.lload_n 3, 1) := by decide +kernel
theorem dX10_put_56 : decode mX10_put.1 56 = .ok (.l2i, 1) := by decide +kernel
theorem dX10_put_57 : decode mX10_put.1 57 = .ok (.i2s, 1) := by decide +kernel
theorem dX10_put_58 : decode mX10_put.1 58 = .ok (.i2l, 1) := by decide +kernel
theorem dX10_put_59 : decode mX10_put.1 59 = .ok (.goto 36, 3) := by decide +kernel
theorem dX10_put_62 : decode mX10_put.1 62 = .ok (.iload 6, 2) := by decide +kernel
theorem dX10_put_64 : decode mX10_put.1 64 = .ok (.iconst 2, 1) := by decide +kernel
theorem dX10_put_65 : decode mX10_put.1 65 = .ok (.if_icmp .ne 9, 3) := by decide +kernel
theorem dX10_put_68 : decode mX10_put.1 68 = .ok (.lload_n 3, 1) := by decide +kernel
theorem dX10_put_69 : decode mX10_put.1 69 = .ok (.l2i, 1) := by decide +kernel
theorem dX10_put_70 : decode mX10_put.1 70 = .ok (.i2l, 1) := by decide +kernel
theorem dX10_put_71 : decode mX10_put.1 71 = .ok (.goto 24, 3) := by decide +kernel
theorem dX10_put_74 : decode mX10_put.1 74 = .ok (.iload 6, 2) := by decide +kernel
theorem dX10_put_76 : decode mX10_put.1 76 = .ok (.iconst 3, 1) := by decide +kernel
theorem dX10_put_77 : decode mX10_put.1 77 = .ok (.if_icmp .ne 7, 3) := by decide +kernel
theorem dX10_put_80 : decode mX10_put.1 80 = .ok (.lload_n 3, 1) := by decide +kernel
theorem dX10_put_81 : decode mX10_put.1 81 = .ok (.goto 14, 3) := by decide +kernel
theorem dX10_put_84 : decode mX10_put.1 84 = .ok (.lload_n 3, 1) := by decide +kernel
theorem dX10_put_85 : decode mX10_put.1 85 = .ok (.lconst 0, 1) := by decide +kernel
theorem dX10_put_86 : decode mX10_put.1 86 = .ok (.lcmp, 1) := by decide +kernel
theorem dX10_put_87 : decode mX10_put.1 87 = .ok (.ifCond .eq 7, 3) := by decide +kernel
theorem dX10_put_90 : decode mX10_put.1 90 = .ok (.lconst 1, 1) := by decide +kernel
theorem dX10_put_91 : decode mX10_put.1 91 = .ok (.goto 4, 3) := by decide +kernel
theorem dX10_put_94 : decode mX10_put.1 94 = .ok (.lconst 0, 1) := by decide +kernel
theorem dX10_put_95 : decode mX10_put.1 95 = .ok (.lastore, 1) := by decide +kernel
theorem dX10_put_96 : decode mX10_put.1 96 = .ok (.iconst 1, 1) := by decide +kernel
theorem dX10_put_97 : decode mX10_put.1 97 = .ok (.ireturn, 1) := by decide +kernel
theorem X10_put_0 (h : mm_M) (a1 : Int) (a2 : Int) (a3 : Int) : mm_ev mX10_put 4 0 [some (vR 47), some (vI a1), some (vI a2), some (vL a3), none, none, none] [] h = (mm_call mX10_whyNoPlace [vR 47, vI a1, vI a2] h).bind (fun w => mm_ev mX10_put 4 6 [some (vR 47), some (vI a1), some (vI a2), some (vL a3), none, none, none] (w.1 ++ []) w.2) := (ev_aload_n 1 dX10_put_0 rfl rfl).trans ((ev_iload_n 2 dX10_put_1 rfl rfl).trans ((ev_iload_n 3 dX10_put_2 rfl rfl).trans ((ev_callv mX10_whyNoPlace [vR 47, vI a1, vI a2] [] 6 dX10_put_3 ml_10_446 k261 rfl oc47 ak47 rfl rfl (Nat.le_of_ble_eq_true rfl) (Nat.le_of_ble_eq_true rfl) rfl).trans (if_pos (show 3 < 4 from by decide)))))
theorem X10_put_c (h : mm_M) (a1 : Int) (a2 : Int) (a3 : Int) : mm_call mX10_put [vR 47, vI a1, vI a2, vL a3] h = (mm_call mX10_whyNoPlace [vR 47, vI a1, vI a2] h).bind (fun w => mm_ev mX10_put 4 6 [some (vR 47), some (vI a1), some (vI a2), some (vL a3), none, none, none] (w.1 ++ []) w.2) := X10_put_0 h a1 a2 a3
theorem X10_put_6 (h : mm_M) (a1 : Int) (a2 : Int) (a3 : Int) (s0 : Int) : mm_ev mX10_put 4 6 [some (vR 47), some (vI a1), some (vI a2), some (vL a3), none, none, none] [vI s0] h = if 0 ≤ s0 then if 0 ≤ a1 ∧ a1 < 6 then if ¬ (w32 ((-2) - (h 79 a1))) = 0 then if ¬ (w32 ((-2) - (h 79 a1))) = 1 then if ¬ (w32 ((-2) - (h 79 a1))) = 2 then if ¬ (w32 ((-2) - (h 79 a1))) = 3 then if (lCmp a3 0) = 0 then if 0 ≤ (w32 ((w32 (60 * a1)) + a2)) ∧ (w32 ((w32 (60 * a1)) + a2)) < 360 then some ([vI 1], mUp h 81 (w32 ((w32 (60 * a1)) + a2)) 0) else none else if 0 ≤ (w32 ((w32 (60 * a1)) + a2)) ∧ (w32 ((w32 (60 * a1)) + a2)) < 360 then some ([vI 1], mUp h 81 (w32 ((w32 (60 * a1)) + a2)) 1) else none else if 0 ≤ (w32 ((w32 (60 * a1)) + a2)) ∧ (w32 ((w32 (60 * a1)) + a2)) < 360 then some ([vI 1], mUp h 81 (w32 ((w32 (60 * a1)) + a2)) a3) else none else if 0 ≤ (w32 ((w32 (60 * a1)) + a2)) ∧ (w32 ((w32 (60 * a1)) + a2)) < 360 then some ([vI 1], mUp h 81 (w32 ((w32 (60 * a1)) + a2)) (w32 a3)) else none else if 0 ≤ (w32 ((w32 (60 * a1)) + a2)) ∧ (w32 ((w32 (60 * a1)) + a2)) < 360 then some ([vI 1], mUp h 81 (w32 ((w32 (60 * a1)) + a2)) (w16 (w32 a3))) else none else if 0 ≤ (w32 ((w32 (60 * a1)) + a2)) ∧ (w32 ((w32 (60 * a1)) + a2)) < 360 then some ([vI 1], mUp h 81 (w32 ((w32 (60 * a1)) + a2)) (w8 (w32 a3))) else none else none else some ([vI s0], h) := (ev_istore 8 [some (vR 47), some (vI a1), some (vI a2), some (vL a3), none, some (vI s0), none] dX10_put_6 rfl rfl).trans ((ev_iload 10 dX10_put_8 rfl rfl).trans ((ev_if_ge 16 13 dX10_put_10 rfl rfl).trans (mm_ite ((ev_bipush 18 (v := (-2)) dX10_put_16 rfl rfl).trans ((ev_aload_n 19 dX10_put_18 rfl rfl).trans ((ev_getF 22 79 dX10_put_19 fl_10_117 oc47 ak47 rfl rf_47_53 rfl).trans ((ev_iload_n 23 dX10_put_22 rfl rfl).trans ((ev_iald 24 6 dX10_put_23 ak79 an79 rfl).trans (mm_ite ((ev_isub 25 dX10_put_24 rfl).trans ((ev_istore 27 [some (vR 47), some (vI a1), some (vI a2), some (vL a3), none, some (vI s0), some (vI (w32 ((-2) - (h 79 a1))))] dX10_put_25 rfl rfl).trans ((ev_aload_n 28 dX10_put_27 rfl rfl).trans ((ev_getF 31 81 dX10_put_28 fl_10_123 oc47 ak47 rfl rf_47_55 rfl).trans ((ev_bipush 33 (v := 60) dX10_put_31 rfl rfl).trans ((ev_iload_n 34 dX10_put_33 rfl rfl).trans ((ev_imul 35 dX10_put_34 rfl).trans ((ev_iload_n 36 dX10_put_35 rfl rfl).trans ((ev_iadd 37 dX10_put_36 rfl).trans ((ev_iload 39 dX10_put_37 rfl rfl).trans ((ev_if_ne 49 42 dX10_put_39 rfl rfl).trans (mm_ite ((ev_iload 51 dX10_put_49 rfl rfl).trans ((ev_iconst 52 (v := 1) dX10_put_51 rfl rfl).trans ((ev_ic_ne 62 55 dX10_put_52 rfl rfl).trans (mm_ite ((ev_iload 64 dX10_put_62 rfl rfl).trans ((ev_iconst 65 (v := 2) dX10_put_64 rfl rfl).trans ((ev_ic_ne 74 68 dX10_put_65 rfl rfl).trans (mm_ite ((ev_iload 76 dX10_put_74 rfl rfl).trans ((ev_iconst 77 (v := 3) dX10_put_76 rfl rfl).trans ((ev_ic_ne 84 80 dX10_put_77 rfl rfl).trans (mm_ite ((ev_lload_n 85 dX10_put_84 rfl rfl).trans ((ev_lconst 86 (v := 0) dX10_put_85 rfl rfl).trans ((ev_lcmp 87 dX10_put_86 rfl).trans ((ev_if_eq 94 90 dX10_put_87 rfl rfl).trans (mm_ite ((ev_lconst 95 (v := 0) dX10_put_94 rfl rfl).trans ((ev_last 96 360 dX10_put_95 ak81 an81 rfl).trans (mm_ite ((ev_iconst 97 (v := 1) dX10_put_96 rfl rfl).trans (ev_iret dX10_put_97 rfl)) (rfl)))) ((ev_lconst 91 (v := 1) dX10_put_90 rfl rfl).trans ((ev_goto 95 dX10_put_91 rfl).trans ((ev_last 96 360 dX10_put_95 ak81 an81 rfl).trans (mm_ite ((ev_iconst 97 (v := 1) dX10_put_96 rfl rfl).trans (ev_iret dX10_put_97 rfl)) (rfl)))))))))) ((ev_lload_n 81 dX10_put_80 rfl rfl).trans ((ev_goto 95 dX10_put_81 rfl).trans ((ev_last 96 360 dX10_put_95 ak81 an81 rfl).trans (mm_ite ((ev_iconst 97 (v := 1) dX10_put_96 rfl rfl).trans (ev_iret dX10_put_97 rfl)) (rfl))))))))) ((ev_lload_n 69 dX10_put_68 rfl rfl).trans ((ev_l2i 70 dX10_put_69 rfl).trans ((ev_i2l 71 dX10_put_70 rfl).trans ((ev_goto 95 dX10_put_71 rfl).trans ((ev_last 96 360 dX10_put_95 ak81 an81 rfl).trans (mm_ite ((ev_iconst 97 (v := 1) dX10_put_96 rfl rfl).trans (ev_iret dX10_put_97 rfl)) (rfl))))))))))) ((ev_lload_n 56 dX10_put_55 rfl rfl).trans ((ev_l2i 57 dX10_put_56 rfl).trans ((ev_i2s 58 dX10_put_57 rfl).trans ((ev_i2l 59 dX10_put_58 rfl).trans ((ev_goto 95 dX10_put_59 rfl).trans ((ev_last 96 360 dX10_put_95 ak81 an81 rfl).trans (mm_ite ((ev_iconst 97 (v := 1) dX10_put_96 rfl rfl).trans (ev_iret dX10_put_97 rfl)) (rfl)))))))))))) ((ev_lload_n 43 dX10_put_42 rfl rfl).trans ((ev_l2i 44 dX10_put_43 rfl).trans ((ev_i2b 45 dX10_put_44 rfl).trans ((ev_i2l 46 dX10_put_45 rfl).trans ((ev_goto 95 dX10_put_46 rfl).trans ((ev_last 96 360 dX10_put_95 ak81 an81 rfl).trans (mm_ite ((ev_iconst 97 (v := 1) dX10_put_96 rfl rfl).trans (ev_iret dX10_put_97 rfl)) (rfl)))))))))))))))))))) (rfl))))))) ((ev_iload 15 dX10_put_13 rfl rfl).trans (ev_iret dX10_put_15 rfl)))))
theorem dX10_row_0 : decode mX10_row.1 0 = .ok (.iload_n 1, 1) := by decide +kernel
theorem dX10_row_1 : decode mX10_row.1 1 = .ok (.invokestatic 147, 3) := by decide +kernel
theorem dX10_row_4 : decode mX10_row.1 4 = .ok (.ifCond .eq 18, 3) := by decide +kernel
theorem dX10_row_7 : decode mX10_row.1 7 = .ok (.iload_n 2, 1) := by decide +kernel
theorem dX10_row_8 : decode mX10_row.1 8 = .ok (.iconst 0, 1) := by decide +kernel
theorem dX10_row_9 : decode mX10_row.1 9 = .ok (.iconst 4, 1) := by decide +kernel
theorem dX10_row_10 : decode mX10_row.1 10 = .ok (.invokestatic 136, 3) := by decide +kernel
theorem dX10_row_13 : decode mX10_row.1 13 = .ok (.ifCond .eq 9, 3) := by decide +kernel
theorem dX10_row_16 : decode mX10_row.1 16 = .ok (.iload_n 3, 1) := by decide +kernel
theorem dX10_row_17 : decode mX10_row.1 17 = .ok (.bipush 60, 2) := by decide +kernel
theorem dX10_row_19 : decode mX10_row.1 19 = .ok (.if_icmp .le 5, 3) := by decide +kernel
theorem dX10_row_22 : decode mX10_row.1 22 = .ok (.iconst (-1), 1) := by decide +kernel
theorem dX10_row_23 : decode mX10_row.1 23 = .ok (.ireturn, 1) := by decide +kernel
theorem dX10_row_24 : decode mX10_row.1 24 = .ok (.iload_n 3, 1) := by decide +kernel
theorem dX10_row_25 : decode mX10_row.1 25 = .ok (.ifCond .ge 6, 3) := by decide +kernel
theorem dX10_row_28 : decode mX10_row.1 28 = .ok (.bipush (-14), 2) := by decide +kernel
theorem dX10_row_30 : decode mX10_row.1 30 = .ok (.ireturn, 1) := by decide +kernel
theorem dX10_row_31 : decode mX10_row.1 31 = .ok (.aload_n 0, 1) := by decide +kernel
theorem dX10_row_32 : decode mX10_row.1 32 = .ok (.getfield 117, 3) := by decide +kernel
theorem dX10_row_35 : decode mX10_row.1 35 = .ok (.iload_n 1, 1) := by decide +kernel
theorem dX10_row_36 : decode mX10_row.1 36 = .ok (.bipush (-2), 2) := by decide +kernel
theorem dX10_row_38 : decode mX10_row.1 38 = .ok (.iload_n 2, 1) := by decide +kernel
theorem dX10_row_39 : decode mX10_row.1 39 = .ok (.isub, 1) := by decide +kernel
theorem dX10_row_40 : decode mX10_row.1 40 = .ok (.iastore, 1) := by decide +kernel
theorem dX10_row_41 : decode mX10_row.1 41 = .ok (.aload_n 0, 1) := by decide +kernel
theorem dX10_row_42 : decode mX10_row.1 42 = .ok (.getfield 120, 3) := by decide +kernel
theorem dX10_row_45 : decode mX10_row.1 45 = .ok (.iload_n 1, 1) := by decide +kernel
theorem dX10_row_46 : decode mX10_row.1 46 = .ok (.iload_n 3, 1) := by decide +kernel
theorem dX10_row_47 : decode mX10_row.1 47 = .ok (.iastore, 1) := by decide +kernel
theorem dX10_row_48 : decode mX10_row.1 48 = .ok (.bipush 60, 2) := by decide +kernel
theorem dX10_row_50 : decode mX10_row.1 50 = .ok (.iload_n 1, 1) := by decide +kernel
theorem dX10_row_51 : decode mX10_row.1 51 = .ok (.imul, 1) := by decide +kernel
theorem dX10_row_52 : decode mX10_row.1 52 = .ok (.istore 4, 2) := by decide +kernel
theorem dX10_row_54 : decode mX10_row.1 54 = .ok (.iload 4, 2) := by decide +kernel
theorem dX10_row_56 : decode mX10_row.1 56 = .ok (.bipush 60, 2) := by decide +kernel
theorem dX10_row_58 : decode mX10_row.1 58 = .ok (.iload_n 1, 1) := by decide +kernel
theorem dX10_row_59 : decode mX10_row.1 59 = .ok (.imul, 1) := by decide +kernel
theorem dX10_row_60 : decode mX10_row.1 60 = .ok (.bipush 60, 2) := by decide +kernel
theorem dX10_row_62 : decode mX10_row.1 62 = .ok (.iadd, 1) := by decide +kernel
theorem dX10_row_63 : decode mX10_row.1 63 = .ok (.if_icmp .ge 17, 3) := by decide +kernel
theorem dX10_row_66 : decode mX10_row.1 66 = .ok (.aload_n 0, 1) := by decide +kernel
theorem dX10_row_67 : decode mX10_row.1 67 = .ok (.getfield 123, 3) := by decide +kernel
theorem dX10_row_70 : decode mX10_row.1 70 = .ok (.iload 4, 2) := by decide +kernel
theorem dX10_row_72 : decode mX10_row.1 72 = .ok (.lconst 0, 1) := by decide +kernel
theorem dX10_row_73 : decode mX10_row.1 73 = .ok (.lastore, 1) := by decide +kernel
theorem dX10_row_74 : decode mX10_row.1 74 = .ok (.iinc 4 1, 3) := by decide +kernel
theorem dX10_row_77 : decode mX10_row.1 77 = .ok (.goto (-23), 3) := by decide +kernel
theorem dX10_row_80 : decode mX10_row.1 80 = .ok (.iconst 1, 1) := by decide +kernel
theorem dX10_row_81 : decode mX10_row.1 81 = .ok (.ireturn, 1) := by decide +kernel
theorem X10_row_0 (h : mm_M) (a1 : Int) (a2 : Int) (a3 : Int) : mm_ev mX10_row 3 0 [some (vR 47), some (vI a1), some (vI a2), some (vI a3), none] [] h = (mm_call mX10_isShelf [vI a1] h).bind (fun w => mm_ev mX10_row 3 4 [some (vR 47), some (vI a1), some (vI a2), some (vI a3), none] (w.1 ++ []) w.2) := (ev_iload_n 1 dX10_row_0 rfl rfl).trans ((ev_calls mX10_isShelf [vI a1] [] 4 dX10_row_1 ml_10_147 k258 rfl rfl rfl (Nat.le_of_ble_eq_true rfl) (Nat.le_of_ble_eq_true rfl) rfl).trans (if_pos (show 2 < 3 from by decide)))
theorem X10_row_c (h : mm_M) (a1 : Int) (a2 : Int) (a3 : Int) : mm_call mX10_row [vR 47, vI a1, vI a2, vI a3] h = (mm_call mX10_isShelf [vI a1] h).bind (fun w => mm_ev mX10_row 3 4 [some (vR 47), some (vI a1), some (vI a2), some (vI a3), none] (w.1 ++ []) w.2) := X10_row_0 h a1 a2 a3
theorem X10_row_4 (h : mm_M) (a1 : Int) (a2 : Int) (a3 : Int) (s0 : Int) : mm_ev mX10_row 3 4 [some (vR 47), some (vI a1), some (vI a2), some (vI a3), none] [vI s0] h = if s0 = 0 then some ([vI (-1)], h) else (mm_call mX10_in [vI a2, vI 0, vI 4] h).bind (fun w => mm_ev mX10_row 3 13 [some (vR 47), some (vI a1), some (vI a2), some (vI a3), none] (w.1 ++ []) w.2) := (ev_if_eq 22 7 dX10_row_4 rfl rfl).trans (mm_ite ((ev_iconst 23 (v := (-1)) dX10_row_22 rfl rfl).trans (ev_iret dX10_row_23 rfl)) ((ev_iload_n 8 dX10_row_7 rfl rfl).trans ((ev_iconst 9 (v := 0) dX10_row_8 rfl rfl).trans ((ev_iconst 10 (v := 4) dX10_row_9 rfl rfl).trans ((ev_calls mX10_in [vI a2, vI 0, vI 4] [] 13 dX10_row_10 ml_10_136 k143 rfl rfl rfl (Nat.le_of_ble_eq_true rfl) (Nat.le_of_ble_eq_true rfl) rfl).trans (if_pos (show 1 < 3 from by decide)))))))
theorem X10_row_13 (h : mm_M) (a1 : Int) (a2 : Int) (a3 : Int) (s0 : Int) : mm_ev mX10_row 3 13 [some (vR 47), some (vI a1), some (vI a2), some (vI a3), none] [vI s0] h = if s0 = 0 then some ([vI (-1)], h) else if a3 ≤ 60 then if 0 ≤ a3 then if 0 ≤ a1 ∧ a1 < 6 then if 0 ≤ a1 ∧ a1 < 6 then mm_ev mX10_row 3 54 [some (vR 47), some (vI a1), some (vI a2), some (vI a3), some (vI (w32 (60 * a1)))] [] (mUp (mUp h 79 a1 (w32 ((-2) - a2))) 80 a1 a3) else none else none else some ([vI (-14)], h) else some ([vI (-1)], h) := (ev_if_eq 22 16 dX10_row_13 rfl rfl).trans (mm_ite ((ev_iconst 23 (v := (-1)) dX10_row_22 rfl rfl).trans (ev_iret dX10_row_23 rfl)) ((ev_iload_n 17 dX10_row_16 rfl rfl).trans ((ev_bipush 19 (v := 60) dX10_row_17 rfl rfl).trans ((ev_ic_le 24 22 dX10_row_19 rfl rfl).trans (mm_ite ((ev_iload_n 25 dX10_row_24 rfl rfl).trans ((ev_if_ge 31 28 dX10_row_25 rfl rfl).trans (mm_ite ((ev_aload_n 32 dX10_row_31 rfl rfl).trans ((ev_getF 35 79 dX10_row_32 fl_10_117 oc47 ak47 rfl rf_47_53 rfl).trans ((ev_iload_n 36 dX10_row_35 rfl rfl).trans ((ev_bipush 38 (v := (-2)) dX10_row_36 rfl rfl).trans ((ev_iload_n 39 dX10_row_38 rfl rfl).trans ((ev_isub 40 dX10_row_39 rfl).trans ((ev_iast 41 6 dX10_row_40 ak79 an79 rfl).trans (mm_ite ((ev_aload_n 42 dX10_row_41 rfl rfl).trans ((ev_getF 45 80 dX10_row_42 fl_10_120 oc47 ak47 rfl rf_47_54 rfl).trans ((ev_iload_n 46 dX10_row_45 rfl rfl).trans ((ev_iload_n 47 dX10_row_46 rfl rfl).trans ((ev_iast 48 6 dX10_row_47 ak80 an80 rfl).trans (mm_ite ((ev_bipush 50 (v := 60) dX10_row_48 rfl rfl).trans ((ev_iload_n 51 dX10_row_50 rfl rfl).trans ((ev_imul 52 dX10_row_51 rfl).trans (ev_istore 54 [some (vR 47), some (vI a1), some (vI a2), some (vI a3), some (vI (w32 (60 * a1)))] dX10_row_52 rfl rfl)))) (rfl))))))) (rfl))))))))) ((ev_bipush 30 (v := (-14)) dX10_row_28 rfl rfl).trans (ev_iret dX10_row_30 rfl))))) ((ev_iconst 23 (v := (-1)) dX10_row_22 rfl rfl).trans (ev_iret dX10_row_23 rfl)))))))
theorem X10_row_54 (h : mm_M) (a1 : Int) (a2 : Int) (a3 : Int) (a4 : Int) : mm_ev mX10_row 3 54 [some (vR 47), some (vI a1), some (vI a2), some (vI a3), some (vI a4)] [] h = if (w32 ((w32 (60 * a1)) + 60)) ≤ a4 then some ([vI 1], h) else if 0 ≤ a4 ∧ a4 < 360 then mm_ev mX10_row 3 54 [some (vR 47), some (vI a1), some (vI a2), some (vI a3), some (vI (w32 (a4 + 1)))] [] (mUp h 81 a4 0) else none := (ev_iload 56 dX10_row_54 rfl rfl).trans ((ev_bipush 58 (v := 60) dX10_row_56 rfl rfl).trans ((ev_iload_n 59 dX10_row_58 rfl rfl).trans ((ev_imul 60 dX10_row_59 rfl).trans ((ev_bipush 62 (v := 60) dX10_row_60 rfl rfl).trans ((ev_iadd 63 dX10_row_62 rfl).trans ((ev_ic_ge 80 66 dX10_row_63 rfl rfl).trans (mm_ite ((ev_iconst 81 (v := 1) dX10_row_80 rfl rfl).trans (ev_iret dX10_row_81 rfl)) ((ev_aload_n 67 dX10_row_66 rfl rfl).trans ((ev_getF 70 81 dX10_row_67 fl_10_123 oc47 ak47 rfl rf_47_55 rfl).trans ((ev_iload 72 dX10_row_70 rfl rfl).trans ((ev_lconst 73 (v := 0) dX10_row_72 rfl rfl).trans ((ev_last 74 360 dX10_row_73 ak81 an81 rfl).trans (mm_ite ((ev_iinc 77 [some (vR 47), some (vI a1), some (vI a2), some (vI a3), some (vI (w32 (a4 + 1)))] dX10_row_74 rfl rfl rfl).trans (ev_goto 54 dX10_row_77 rfl)) (rfl))))))))))))))
theorem dX10_keep_0 : decode mX10_keep.1 0 = .ok (.iload_n 1, 1) := by decide +kernel
theorem dX10_keep_1 : decode mX10_keep.1 1 = .ok (.invokestatic 147, 3) := by decide +kernel
theorem dX10_keep_4 : decode mX10_keep.1 4 = .ok (.ifCond .eq 16, 3) := by decide +kernel
theorem dX10_keep_7 : decode mX10_keep.1 7 = .ok (.iload_n 2, 1) := by decide +kernel
theorem dX10_keep_8 : decode mX10_keep.1 8 = .ok (.iconst (-1), 1) := by decide +kernel
theorem dX10_keep_9 : decode mX10_keep.1 9 = .ok (.if_icmp .eq 13, 3) := by decide +kernel
theorem dX10_keep_12 : decode mX10_keep.1 12 = .ok (.aload_n 0, 1) := by decide +kernel
theorem dX10_keep_13 : decode mX10_keep.1 13 = .ok (.iload_n 2, 1) := by decide +kernel
theorem dX10_keep_14 : decode mX10_keep.1 14 = .ok (.invokevirtual 440, 3) := by decide +kernel
theorem dX10_keep_17 : decode mX10_keep.1 17 = .ok (.ifCond .ne 5, 3) := by decide +kernel
theorem dX10_keep_20 : decode mX10_keep.1 20 = .ok (.iconst (-1), 1) := by decide +kernel
theorem dX10_keep_21 : decode mX10_keep.1 21 = .ok (.ireturn, 1) := by decide +kernel
theorem dX10_keep_22 : decode mX10_keep.1 22 = .ok (.aload_n 0, 1) := by decide +kernel
theorem dX10_keep_23 : decode mX10_keep.1 23 = .ok (.getfield 117, 3) := by decide +kernel
theorem dX10_keep_26 : decode mX10_keep.1 26 = .ok (.iload_n 1, 1) := by decide +kernel
theorem dX10_keep_27 : decode mX10_keep.1 27 = .ok (.iload_n 2, 1) := by decide +kernel
theorem dX10_keep_28 : decode mX10_keep.1 28 = .ok (.iastore, 1) := by decide +kernel
theorem dX10_keep_29 : decode mX10_keep.1 29 = .ok (.iconst 1, 1) := by decide +kernel
theorem dX10_keep_30 : decode mX10_keep.1 30 = .ok (.ireturn, 1) := by decide +kernel
theorem X10_keep_0 (h : mm_M) (a1 : Int) (a2 : Int) : mm_ev mX10_keep 3 0 [some (vR 47), some (vI a1), some (vI a2)] [] h = (mm_call mX10_isShelf [vI a1] h).bind (fun w => mm_ev mX10_keep 3 4 [some (vR 47), some (vI a1), some (vI a2)] (w.1 ++ []) w.2) := (ev_iload_n 1 dX10_keep_0 rfl rfl).trans ((ev_calls mX10_isShelf [vI a1] [] 4 dX10_keep_1 ml_10_147 k258 rfl rfl rfl (Nat.le_of_ble_eq_true rfl) (Nat.le_of_ble_eq_true rfl) rfl).trans (if_pos (show 2 < 3 from by decide)))
theorem X10_keep_c (h : mm_M) (a1 : Int) (a2 : Int) : mm_call mX10_keep [vR 47, vI a1, vI a2] h = (mm_call mX10_isShelf [vI a1] h).bind (fun w => mm_ev mX10_keep 3 4 [some (vR 47), some (vI a1), some (vI a2)] (w.1 ++ []) w.2) := X10_keep_0 h a1 a2
theorem X10_keep_4 (h : mm_M) (a1 : Int) (a2 : Int) (s0 : Int) : mm_ev mX10_keep 3 4 [some (vR 47), some (vI a1), some (vI a2)] [vI s0] h = if s0 = 0 then some ([vI (-1)], h) else if a2 = (-1) then mm_ev mX10_keep 3 22 [some (vR 47), some (vI a1), some (vI a2)] [] h else (mm_call mX10_isBody [vR 47, vI a2] h).bind (fun w => mm_ev mX10_keep 3 17 [some (vR 47), some (vI a1), some (vI a2)] (w.1 ++ []) w.2) := (ev_if_eq 20 7 dX10_keep_4 rfl rfl).trans (mm_ite ((ev_iconst 21 (v := (-1)) dX10_keep_20 rfl rfl).trans (ev_iret dX10_keep_21 rfl)) ((ev_iload_n 8 dX10_keep_7 rfl rfl).trans ((ev_iconst 9 (v := (-1)) dX10_keep_8 rfl rfl).trans ((ev_ic_eq 22 12 dX10_keep_9 rfl rfl).trans (mm_ite (rfl) ((ev_aload_n 13 dX10_keep_12 rfl rfl).trans ((ev_iload_n 14 dX10_keep_13 rfl rfl).trans ((ev_callv mX10_isBody [vR 47, vI a2] [] 17 dX10_keep_14 ml_10_440 k240 rfl oc47 ak47 rfl rfl (Nat.le_of_ble_eq_true rfl) (Nat.le_of_ble_eq_true rfl) rfl).trans (if_pos (show 2 < 3 from by decide))))))))))
theorem X10_keep_17 (h : mm_M) (a1 : Int) (a2 : Int) (s0 : Int) : mm_ev mX10_keep 3 17 [some (vR 47), some (vI a1), some (vI a2)] [vI s0] h = if ¬ s0 = 0 then mm_ev mX10_keep 3 22 [some (vR 47), some (vI a1), some (vI a2)] [] h else some ([vI (-1)], h) := (ev_if_ne 22 20 dX10_keep_17 rfl rfl).trans (mm_ite (rfl) ((ev_iconst 21 (v := (-1)) dX10_keep_20 rfl rfl).trans (ev_iret dX10_keep_21 rfl)))
theorem X10_keep_22 (h : mm_M) (a1 : Int) (a2 : Int) : mm_ev mX10_keep 3 22 [some (vR 47), some (vI a1), some (vI a2)] [] h = if 0 ≤ a1 ∧ a1 < 6 then some ([vI 1], mUp h 79 a1 a2) else none := (ev_aload_n 23 dX10_keep_22 rfl rfl).trans ((ev_getF 26 79 dX10_keep_23 fl_10_117 oc47 ak47 rfl rf_47_53 rfl).trans ((ev_iload_n 27 dX10_keep_26 rfl rfl).trans ((ev_iload_n 28 dX10_keep_27 rfl rfl).trans ((ev_iast 29 6 dX10_keep_28 ak79 an79 rfl).trans (mm_ite ((ev_iconst 30 (v := 1) dX10_keep_29 rfl rfl).trans (ev_iret dX10_keep_30 rfl)) (rfl))))))
theorem dX10_isBody_0 : decode mX10_isBody.1 0 = .ok (.iload_n 1, 1) := by decide +kernel
theorem dX10_isBody_1 : decode mX10_isBody.1 1 = .ok (.iconst 0, 1) := by decide +kernel
theorem dX10_isBody_2 : decode mX10_isBody.1 2 = .ok (.aload_n 0, 1) := by decide +kernel
theorem dX10_isBody_3 : decode mX10_isBody.1 3 = .ok (.getfield 398, 3) := by decide +kernel
theorem dX10_isBody_6 : decode mX10_isBody.1 6 = .ok (.iconst 1, 1) := by decide +kernel
theorem dX10_isBody_7 : decode mX10_isBody.1 7 = .ok (.isub, 1) := by decide +kernel
theorem dX10_isBody_8 : decode mX10_isBody.1 8 = .ok (.invokestatic 136, 3) := by decide +kernel
theorem dX10_isBody_11 : decode mX10_isBody.1 11 = .ok (.ireturn, 1) := by decide +kernel
theorem X10_isBody_0 (h : mm_M) (a1 : Int) : mm_ev mX10_isBody 2 0 [some (vR 47), some (vI a1)] [] h = (mm_call mX10_in [vI a1, vI 0, vI (w32 ((h 47 49) - 1))] h).bind (fun w => mm_ev mX10_isBody 2 11 [some (vR 47), some (vI a1)] (w.1 ++ []) w.2) := (ev_iload_n 1 dX10_isBody_0 rfl rfl).trans ((ev_iconst 2 (v := 0) dX10_isBody_1 rfl rfl).trans ((ev_aload_n 3 dX10_isBody_2 rfl rfl).trans ((ev_getI 6 49 dX10_isBody_3 fl_10_398 oc47 ak47 (by decide) rfl rfl).trans ((ev_iconst 7 (v := 1) dX10_isBody_6 rfl rfl).trans ((ev_isub 8 dX10_isBody_7 rfl).trans ((ev_calls mX10_in [vI a1, vI 0, vI (w32 ((h 47 49) - 1))] [] 11 dX10_isBody_8 ml_10_136 k143 rfl rfl rfl (Nat.le_of_ble_eq_true rfl) (Nat.le_of_ble_eq_true rfl) rfl).trans (if_pos (show 1 < 2 from by decide))))))))
theorem X10_isBody_c (h : mm_M) (a1 : Int) : mm_call mX10_isBody [vR 47, vI a1] h = (mm_call mX10_in [vI a1, vI 0, vI (w32 ((h 47 49) - 1))] h).bind (fun w => mm_ev mX10_isBody 2 11 [some (vR 47), some (vI a1)] (w.1 ++ []) w.2) := X10_isBody_0 h a1
theorem X10_isBody_11 (h : mm_M) (a1 : Int) (s0 : Int) : mm_ev mX10_isBody 2 11 [some (vR 47), some (vI a1)] [vI s0] h = if s0 = 0 ∨ s0 = 1 then some ([vI s0], h) else none := ev_zret dX10_isBody_11 rfl
theorem dX10_trace_0 : decode mX10_trace.1 0 = .ok (.iload_n 1, 1) := by decide +kernel
theorem dX10_trace_1 : decode mX10_trace.1 1 = .ok (.ifCond .lt 26, 3) := by decide +kernel
theorem dX10_trace_4 : decode mX10_trace.1 4 = .ok (.iload_n 1, 1) := by decide +kernel
theorem dX10_trace_5 : decode mX10_trace.1 5 = .ok (.aload_n 0, 1) := by decide +kernel
theorem dX10_trace_6 : decode mX10_trace.1 6 = .ok (.getfield 401, 3) := by decide +kernel
theorem dX10_trace_9 : decode mX10_trace.1 9 = .ok (.if_icmp .ge 18, 3) := by decide +kernel
theorem dX10_trace_12 : decode mX10_trace.1 12 = .ok (.iload_n 1, 1) := by decide +kernel
theorem dX10_trace_13 : decode mX10_trace.1 13 = .ok (.bipush 24, 2) := by decide +kernel
theorem dX10_trace_15 : decode mX10_trace.1 15 = .ok (.if_icmp .ge 12, 3) := by decide +kernel
theorem dX10_trace_18 : decode mX10_trace.1 18 = .ok (.aload_n 0, 1) := by decide +kernel
theorem dX10_trace_19 : decode mX10_trace.1 19 = .ok (.getfield 114, 3) := by decide +kernel
theorem dX10_trace_22 : decode mX10_trace.1 22 = .ok (.iload_n 1, 1) := by decide +kernel
theorem dX10_trace_23 : decode mX10_trace.1 23 = .ok (.iaload, 1) := by decide +kernel
theorem dX10_trace_24 : decode mX10_trace.1 24 = .ok (.goto 4, 3) := by decide +kernel
theorem dX10_trace_27 : decode mX10_trace.1 27 = .ok (.iconst (-1), 1) := by decide +kernel
theorem dX10_trace_28 : decode mX10_trace.1 28 = .ok (.ireturn, 1) := by decide +kernel
theorem X10_trace_0 (h : mm_M) (a1 : Int) : mm_ev mX10_trace 1 0 [some (vR 47), some (vI a1)] [] h = if a1 < 0 then some ([vI (-1)], h) else if (h 47 51) ≤ a1 then some ([vI (-1)], h) else if 24 ≤ a1 then some ([vI (-1)], h) else if 0 ≤ a1 ∧ a1 < 24 then some ([vI (h 78 a1)], h) else none := (ev_iload_n 1 dX10_trace_0 rfl rfl).trans ((ev_if_lt 27 4 dX10_trace_1 rfl rfl).trans (mm_ite ((ev_iconst 28 (v := (-1)) dX10_trace_27 rfl rfl).trans (ev_iret dX10_trace_28 rfl)) ((ev_iload_n 5 dX10_trace_4 rfl rfl).trans ((ev_aload_n 6 dX10_trace_5 rfl rfl).trans ((ev_getI 9 51 dX10_trace_6 fl_10_401 oc47 ak47 (by decide) rfl rfl).trans ((ev_ic_ge 27 12 dX10_trace_9 rfl rfl).trans (mm_ite ((ev_iconst 28 (v := (-1)) dX10_trace_27 rfl rfl).trans (ev_iret dX10_trace_28 rfl)) ((ev_iload_n 13 dX10_trace_12 rfl rfl).trans ((ev_bipush 15 (v := 24) dX10_trace_13 rfl rfl).trans ((ev_ic_ge 27 18 dX10_trace_15 rfl rfl).trans (mm_ite ((ev_iconst 28 (v := (-1)) dX10_trace_27 rfl rfl).trans (ev_iret dX10_trace_28 rfl)) ((ev_aload_n 19 dX10_trace_18 rfl rfl).trans ((ev_getF 22 78 dX10_trace_19 fl_10_114 oc47 ak47 rfl rf_47_52 rfl).trans ((ev_iload_n 23 dX10_trace_22 rfl rfl).trans ((ev_iald 24 24 dX10_trace_23 ak78 an78 rfl).trans (mm_ite ((ev_goto 28 dX10_trace_24 rfl).trans (ev_iret dX10_trace_28 rfl)) (rfl)))))))))))))))))
theorem X10_trace_c (h : mm_M) (a1 : Int) : mm_call mX10_trace [vR 47, vI a1] h = if a1 < 0 then some ([vI (-1)], h) else if (h 47 51) ≤ a1 then some ([vI (-1)], h) else if 24 ≤ a1 then some ([vI (-1)], h) else if 0 ≤ a1 ∧ a1 < 24 then some ([vI (h 78 a1)], h) else none := X10_trace_0 h a1
theorem dX10_act_0 : decode mX10_act.1 0 = .ok (.aload_n 0, 1) := by decide +kernel
theorem dX10_act_1 : decode mX10_act.1 1 = .ok (.iconst 0, 1) := by decide +kernel
theorem dX10_act_2 : decode mX10_act.1 2 = .ok (.putfield 401, 3) := by decide +kernel
theorem dX10_act_5 : decode mX10_act.1 5 = .ok (.aload_n 0, 1) := by decide +kernel
theorem dX10_act_6 : decode mX10_act.1 6 = .ok (.iload_n 1, 1) := by decide +kernel
theorem dX10_act_7 : decode mX10_act.1 7 = .ok (.invokevirtual 440, 3) := by decide +kernel
theorem dX10_act_10 : decode mX10_act.1 10 = .ok (.ifCond .eq 12, 3) := by decide +kernel
theorem dX10_act_13 : decode mX10_act.1 13 = .ok (.iload_n 2, 1) := by decide +kernel
theorem dX10_act_14 : decode mX10_act.1 14 = .ok (.iconst 0, 1) := by decide +kernel
theorem dX10_act_15 : decode mX10_act.1 15 = .ok (.iconst 3, 1) := by decide +kernel
theorem dX10_act_16 : decode mX10_act.1 16 = .ok (.invokestatic 136, 3) := by decide +kernel
theorem dX10_act_19 : decode mX10_act.1 19 = .ok (.ifCond .ne 5, 3) := by decide +kernel
theorem dX10_act_22 : decode mX10_act.1 22 = .ok (.iconst 0, 1) := by decide +kernel
theorem dX10_act_23 : decode mX10_act.1 23 = .ok (.ireturn, 1) := by decide +kernel
theorem dX10_act_24 : decode mX10_act.1 24 = .ok (.iload_n 2, 1) := by decide +kernel
theorem dX10_act_25 : decode mX10_act.1 25 = .ok (.ifCond .ne 12, 3) := by decide +kernel
theorem dX10_act_28 : decode mX10_act.1 28 = .ok (.aload_n 0, 1) := by decide +kernel
theorem dX10_act_29 : decode mX10_act.1 29 = .ok (.iload_n 1, 1) := by decide +kernel
theorem dX10_act_30 : decode mX10_act.1 30 = .ok (.iload_n 3, 1) := by decide +kernel
theorem dX10_act_31 : decode mX10_act.1 31 = .ok (.invokevirtual 416, 3) := by decide +kernel
theorem dX10_act_34 : decode mX10_act.1 34 = .ok (.goto 37, 3) := by decide +kernel
theorem dX10_act_37 : decode mX10_act.1 37 = .ok (.iload_n 2, 1) := by decide +kernel
theorem dX10_act_38 : decode mX10_act.1 38 = .ok (.iconst 1, 1) := by decide +kernel
theorem dX10_act_39 : decode mX10_act.1 39 = .ok (.if_icmp .ne 12, 3) := by decide +kernel
theorem dX10_act_42 : decode mX10_act.1 42 = .ok (.aload_n 0, 1) := by decide +kernel
theorem dX10_act_43 : decode mX10_act.1 43 = .ok (.iload_n 1, 1) := by decide +kernel
theorem dX10_act_44 : decode mX10_act.1 44 = .ok (.iload_n 3, 1) := by decide +kernel
theorem dX10_act_45 : decode mX10_act.1 45 = .ok (.invokevirtual 434, 3) := by decide +kernel
theorem dX10_act_48 : decode mX10_act.1 48 = .ok (.goto 23, 3) := by decide +kernel
theorem dX10_act_51 : decode mX10_act.1 51 = .ok (.iload_n 2, 1) := by decide +kernel
theorem dX10_act_52 : decode mX10_act.1 52 = .ok (.iconst 2, 1) := by decide +kernel
theorem dX10_act_53 : decode mX10_act.1 53 = .ok (.if_icmp .ne 12, 3) := by decide +kernel
theorem dX10_act_56 : decode mX10_act.1 56 = .ok (.aload_n 0, 1) := by decide +kernel
theorem dX10_act_57 : decode mX10_act.1 57 = .ok (.iload_n 1, 1) := by decide +kernel
theorem dX10_act_58 : decode mX10_act.1 58 = .ok (.iload_n 3, 1) := by decide +kernel
theorem dX10_act_59 : decode mX10_act.1 59 = .ok (.invokevirtual 425, 3) := by decide +kernel
theorem dX10_act_62 : decode mX10_act.1 62 = .ok (.goto 9, 3) := by decide +kernel
theorem dX10_act_65 : decode mX10_act.1 65 = .ok (.aload_n 0, 1) := by decide +kernel
theorem dX10_act_66 : decode mX10_act.1 66 = .ok (.iload_n 1, 1) := by decide +kernel
theorem dX10_act_67 : decode mX10_act.1 67 = .ok (.iload_n 3, 1) := by decide +kernel
theorem dX10_act_68 : decode mX10_act.1 68 = .ok (.invokevirtual 443, 3) := by decide +kernel
theorem dX10_act_71 : decode mX10_act.1 71 = .ok (.ireturn, 1) := by decide +kernel
theorem X10_act_0 (h : mm_M) (a1 : Int) (a2 : Int) (a3 : Int) : mm_ev mX10_act 10 0 [some (vR 47), some (vI a1), some (vI a2), some (vI a3)] [] h = (mm_call mX10_isBody [vR 47, vI a1] (mUp h 47 51 0)).bind (fun w => mm_ev mX10_act 10 10 [some (vR 47), some (vI a1), some (vI a2), some (vI a3)] (w.1 ++ []) w.2) := (ev_aload_n 1 dX10_act_0 rfl rfl).trans ((ev_iconst 2 (v := 0) dX10_act_1 rfl rfl).trans ((ev_putI 5 51 dX10_act_2 fl_10_401 oc47 ak47 rfl rfl rfl).trans ((ev_aload_n 6 dX10_act_5 rfl rfl).trans ((ev_iload_n 7 dX10_act_6 rfl rfl).trans ((ev_callv mX10_isBody [vR 47, vI a1] [] 10 dX10_act_7 ml_10_440 k240 rfl oc47 ak47 rfl rfl (Nat.le_of_ble_eq_true rfl) (Nat.le_of_ble_eq_true rfl) rfl).trans (if_pos (show 2 < 10 from by decide)))))))
theorem X10_act_c (h : mm_M) (a1 : Int) (a2 : Int) (a3 : Int) : mm_call mX10_act [vR 47, vI a1, vI a2, vI a3] h = (mm_call mX10_isBody [vR 47, vI a1] (mUp h 47 51 0)).bind (fun w => mm_ev mX10_act 10 10 [some (vR 47), some (vI a1), some (vI a2), some (vI a3)] (w.1 ++ []) w.2) := X10_act_0 h a1 a2 a3
theorem X10_act_10 (h : mm_M) (a1 : Int) (a2 : Int) (a3 : Int) (s0 : Int) : mm_ev mX10_act 10 10 [some (vR 47), some (vI a1), some (vI a2), some (vI a3)] [vI s0] h = if s0 = 0 then some ([vI 0], h) else (mm_call mX10_in [vI a2, vI 0, vI 3] h).bind (fun w => mm_ev mX10_act 10 19 [some (vR 47), some (vI a1), some (vI a2), some (vI a3)] (w.1 ++ []) w.2) := (ev_if_eq 22 13 dX10_act_10 rfl rfl).trans (mm_ite ((ev_iconst 23 (v := 0) dX10_act_22 rfl rfl).trans (ev_iret dX10_act_23 rfl)) ((ev_iload_n 14 dX10_act_13 rfl rfl).trans ((ev_iconst 15 (v := 0) dX10_act_14 rfl rfl).trans ((ev_iconst 16 (v := 3) dX10_act_15 rfl rfl).trans ((ev_calls mX10_in [vI a2, vI 0, vI 3] [] 19 dX10_act_16 ml_10_136 k143 rfl rfl rfl (Nat.le_of_ble_eq_true rfl) (Nat.le_of_ble_eq_true rfl) rfl).trans (if_pos (show 1 < 10 from by decide)))))))
theorem X10_act_19 (h : mm_M) (a1 : Int) (a2 : Int) (a3 : Int) (s0 : Int) : mm_ev mX10_act 10 19 [some (vR 47), some (vI a1), some (vI a2), some (vI a3)] [vI s0] h = if ¬ s0 = 0 then if ¬ a2 = 0 then if ¬ a2 = 1 then if ¬ a2 = 2 then (mm_call mX10_telling [vR 47, vI a1, vI a3] h).bind (fun w => mm_ev mX10_act 10 71 [some (vR 47), some (vI a1), some (vI a2), some (vI a3)] (w.1 ++ []) w.2) else (mm_call mX10_holding [vR 47, vI a1, vI a3] h).bind (fun w => mm_ev mX10_act 10 62 [some (vR 47), some (vI a1), some (vI a2), some (vI a3)] (w.1 ++ []) w.2) else (mm_call mX10_hearing [vR 47, vI a1, vI a3] h).bind (fun w => mm_ev mX10_act 10 48 [some (vR 47), some (vI a1), some (vI a2), some (vI a3)] (w.1 ++ []) w.2) else (mm_call mX10_saying [vR 47, vI a1, vI a3] h).bind (fun w => mm_ev mX10_act 10 34 [some (vR 47), some (vI a1), some (vI a2), some (vI a3)] (w.1 ++ []) w.2) else some ([vI 0], h) := (ev_if_ne 24 22 dX10_act_19 rfl rfl).trans (mm_ite ((ev_iload_n 25 dX10_act_24 rfl rfl).trans ((ev_if_ne 37 28 dX10_act_25 rfl rfl).trans (mm_ite ((ev_iload_n 38 dX10_act_37 rfl rfl).trans ((ev_iconst 39 (v := 1) dX10_act_38 rfl rfl).trans ((ev_ic_ne 51 42 dX10_act_39 rfl rfl).trans (mm_ite ((ev_iload_n 52 dX10_act_51 rfl rfl).trans ((ev_iconst 53 (v := 2) dX10_act_52 rfl rfl).trans ((ev_ic_ne 65 56 dX10_act_53 rfl rfl).trans (mm_ite ((ev_aload_n 66 dX10_act_65 rfl rfl).trans ((ev_iload_n 67 dX10_act_66 rfl rfl).trans ((ev_iload_n 68 dX10_act_67 rfl rfl).trans ((ev_callv mX10_telling [vR 47, vI a1, vI a3] [] 71 dX10_act_68 ml_10_443 k255 rfl oc47 ak47 rfl rfl (Nat.le_of_ble_eq_true rfl) (Nat.le_of_ble_eq_true rfl) rfl).trans (if_pos (show 9 < 10 from by decide)))))) ((ev_aload_n 57 dX10_act_56 rfl rfl).trans ((ev_iload_n 58 dX10_act_57 rfl rfl).trans ((ev_iload_n 59 dX10_act_58 rfl rfl).trans ((ev_callv mX10_holding [vR 47, vI a1, vI a3] [] 62 dX10_act_59 ml_10_425 k253 rfl oc47 ak47 rfl rfl (Nat.le_of_ble_eq_true rfl) (Nat.le_of_ble_eq_true rfl) rfl).trans (if_pos (show 5 < 10 from by decide)))))))))) ((ev_aload_n 43 dX10_act_42 rfl rfl).trans ((ev_iload_n 44 dX10_act_43 rfl rfl).trans ((ev_iload_n 45 dX10_act_44 rfl rfl).trans ((ev_callv mX10_hearing [vR 47, vI a1, vI a3] [] 48 dX10_act_45 ml_10_434 k250 rfl oc47 ak47 rfl rfl (Nat.le_of_ble_eq_true rfl) (Nat.le_of_ble_eq_true rfl) rfl).trans (if_pos (show 7 < 10 from by decide)))))))))) ((ev_aload_n 29 dX10_act_28 rfl rfl).trans ((ev_iload_n 30 dX10_act_29 rfl rfl).trans ((ev_iload_n 31 dX10_act_30 rfl rfl).trans ((ev_callv mX10_saying [vR 47, vI a1, vI a3] [] 34 dX10_act_31 ml_10_416 k247 rfl oc47 ak47 rfl rfl (Nat.le_of_ble_eq_true rfl) (Nat.le_of_ble_eq_true rfl) rfl).trans (if_pos (show 4 < 10 from by decide))))))))) ((ev_iconst 23 (v := 0) dX10_act_22 rfl rfl).trans (ev_iret dX10_act_23 rfl)))
theorem X10_act_34 (h : mm_M) (a1 : Int) (a2 : Int) (a3 : Int) (s0 : Int) : mm_ev mX10_act 10 34 [some (vR 47), some (vI a1), some (vI a2), some (vI a3)] [vI s0] h = mm_ev mX10_act 10 71 [some (vR 47), some (vI a1), some (vI a2), some (vI a3)] [vI s0] h := ev_goto 71 dX10_act_34 rfl
theorem X10_act_48 (h : mm_M) (a1 : Int) (a2 : Int) (a3 : Int) (s0 : Int) : mm_ev mX10_act 10 48 [some (vR 47), some (vI a1), some (vI a2), some (vI a3)] [vI s0] h = mm_ev mX10_act 10 71 [some (vR 47), some (vI a1), some (vI a2), some (vI a3)] [vI s0] h := ev_goto 71 dX10_act_48 rfl
theorem X10_act_62 (h : mm_M) (a1 : Int) (a2 : Int) (a3 : Int) (s0 : Int) : mm_ev mX10_act 10 62 [some (vR 47), some (vI a1), some (vI a2), some (vI a3)] [vI s0] h = mm_ev mX10_act 10 71 [some (vR 47), some (vI a1), some (vI a2), some (vI a3)] [vI s0] h := ev_goto 71 dX10_act_62 rfl
theorem X10_act_71 (h : mm_M) (a1 : Int) (a2 : Int) (a3 : Int) (s0 : Int) : mm_ev mX10_act 10 71 [some (vR 47), some (vI a1), some (vI a2), some (vI a3)] [vI s0] h = some ([vI s0], h) := ev_iret dX10_act_71 rfl
theorem dX10_saying_0 : decode mX10_saying.1 0 = .ok (.aload_n 0, 1) := by decide +kernel
theorem dX10_saying_1 : decode mX10_saying.1 1 = .ok (.getfield 111, 3) := by decide +kernel
theorem dX10_saying_4 : decode mX10_saying.1 4 = .ok (.iload_n 1, 1) := by decide +kernel
theorem dX10_saying_5 : decode mX10_saying.1 5 = .ok (.iaload, 1) := by decide +kernel
theorem dX10_saying_6 : decode mX10_saying.1 6 = .ok (.iconst 1, 1) := by decide +kernel
theorem dX10_saying_7 : decode mX10_saying.1 7 = .ok (.invokestatic 410, 3) := by decide +kernel
theorem dX10_saying_10 : decode mX10_saying.1 10 = .ok (.ifCond .eq 18, 3) := by decide +kernel
theorem dX10_saying_13 : decode mX10_saying.1 13 = .ok (.aload_n 0, 1) := by decide +kernel
theorem dX10_saying_14 : decode mX10_saying.1 14 = .ok (.bipush 20, 2) := by decide +kernel
theorem dX10_saying_16 : decode mX10_saying.1 16 = .ok (.invokevirtual 404, 3) := by decide +kernel
theorem dX10_saying_19 : decode mX10_saying.1 19 = .ok (.aload_n 0, 1) := by decide +kernel
theorem dX10_saying_20 : decode mX10_saying.1 20 = .ok (.iload_n 1, 1) := by decide +kernel
theorem dX10_saying_21 : decode mX10_saying.1 21 = .ok (.iload_n 2, 1) := by decide +kernel
theorem dX10_saying_22 : decode mX10_saying.1 22 = .ok (.invokevirtual 407, 3) := by decide +kernel
theorem dX10_saying_25 : decode mX10_saying.1 25 = .ok (.iconst 3, 1) := by decide +kernel
theorem dX10_saying_26 : decode mX10_saying.1 26 = .ok (.iadd, 1) := by decide +kernel
theorem dX10_saying_27 : decode mX10_saying.1 27 = .ok (.ireturn, 1) := by decide +kernel
theorem dX10_saying_28 : decode mX10_saying.1 28 = .ok (.aload_n 0, 1) := by decide +kernel
theorem dX10_saying_29 : decode mX10_saying.1 29 = .ok (.getfield 111, 3) := by decide +kernel
theorem dX10_saying_32 : decode mX10_saying.1 32 = .ok (.iload_n 1, 1) := by decide +kernel
theorem dX10_saying_33 : decode mX10_saying.1 33 = .ok (.iaload, 1) := by decide +kernel
theorem dX10_saying_34 : decode mX10_saying.1 34 = .ok (.bipush 7, 2) := by decide +kernel
theorem dX10_saying_36 : decode mX10_saying.1 36 = .ok (.if_icmp .ne 18, 3) := by decide +kernel
theorem dX10_saying_39 : decode mX10_saying.1 39 = .ok (.aload_n 0, 1) := by decide +kernel
theorem dX10_saying_40 : decode mX10_saying.1 40 = .ok (.bipush 81, 2) := by decide +kernel
theorem dX10_saying_42 : decode mX10_saying.1 42 = .ok (.invokevirtual 404, 3) := by decide +kernel
theorem dX10_saying_45 : decode mX10_saying.1 45 = .ok (.aload_n 0, 1) := by decide +kernel
theorem dX10_saying_46 : decode mX10_saying.1 46 = .ok (.iload_n 1, 1) := by decide +kernel
theorem dX10_saying_47 : decode mX10_saying.1 47 = .ok (.iload_n 2, 1) := by decide +kernel
theorem dX10_saying_48 : decode mX10_saying.1 48 = .ok (.invokevirtual 413, 3) := by decide +kernel
theorem dX10_saying_51 : decode mX10_saying.1 51 = .ok (.iconst 1, 1) := by decide +kernel
theorem dX10_saying_52 : decode mX10_saying.1 52 = .ok (.isub, 1) := by decide +kernel
theorem dX10_saying_53 : decode mX10_saying.1 53 = .ok (.ireturn, 1) := by decide +kernel
theorem dX10_saying_54 : decode mX10_saying.1 54 = .ok (.aload_n 0, 1) := by decide +kernel
theorem dX10_saying_55 : decode mX10_saying.1 55 = .ok (.getfield 111, 3) := by decide +kernel
theorem dX10_saying_58 : decode mX10_saying.1 58 = .ok (.iload_n 1, 1) := by decide +kernel
theorem dX10_saying_59 : decode mX10_saying.1 59 = .ok (.iaload, 1) := by decide +kernel
theorem dX10_saying_60 : decode mX10_saying.1 60 = .ok (.bipush 6, 2) := by decide +kernel
theorem dX10_saying_62 : decode mX10_saying.1 62 = .ok (.if_icmp .ne 12, 3) := by decide +kernel
theorem dX10_saying_65 : decode mX10_saying.1 65 = .ok (.aload_n 0, 1) := by decide +kernel
theorem dX10_saying_66 : decode mX10_saying.1 66 = .ok (.iload_n 1, 1) := by decide +kernel
theorem dX10_saying_67 : decode mX10_saying.1 67 = .ok (.iload_n 2, 1) := by decide +kernel
theorem dX10_saying_68 : decode mX10_saying.1 68 = .ok (.invokevirtual 413, 3) := by decide +kernel
theorem dX10_saying_71 : decode mX10_saying.1 71 = .ok (.goto 9, 3) := by decide +kernel
theorem dX10_saying_74 : decode mX10_saying.1 74 = .ok (.aload_n 0, 1) := by decide +kernel
theorem dX10_saying_75 : decode mX10_saying.1 75 = .ok (.iload_n 1, 1) := by decide +kernel
theorem dX10_saying_76 : decode mX10_saying.1 76 = .ok (.iload_n 2, 1) := by decide +kernel
theorem dX10_saying_77 : decode mX10_saying.1 77 = .ok (.invokevirtual 407, 3) := by decide +kernel
theorem dX10_saying_80 : decode mX10_saying.1 80 = .ok (.ireturn, 1) := by decide +kernel
theorem X10_saying_0 (h : mm_M) (a1 : Int) (a2 : Int) : mm_ev mX10_saying 4 0 [some (vR 47), some (vI a1), some (vI a2)] [] h = if 0 ≤ a1 ∧ a1 < 50 then (mm_call mX10_isUnder [vI (h 77 a1), vI 1] h).bind (fun w => mm_ev mX10_saying 4 10 [some (vR 47), some (vI a1), some (vI a2)] (w.1 ++ []) w.2) else none := (ev_aload_n 1 dX10_saying_0 rfl rfl).trans ((ev_getF 4 77 dX10_saying_1 fl_10_111 oc47 ak47 rfl rf_47_50 rfl).trans ((ev_iload_n 5 dX10_saying_4 rfl rfl).trans ((ev_iald 6 50 dX10_saying_5 ak77 an77 rfl).trans (mm_ite ((ev_iconst 7 (v := 1) dX10_saying_6 rfl rfl).trans ((ev_calls mX10_isUnder [vI (h 77 a1), vI 1] [] 10 dX10_saying_7 ml_10_410 k244 rfl rfl rfl (Nat.le_of_ble_eq_true rfl) (Nat.le_of_ble_eq_true rfl) rfl).trans (if_pos (show 1 < 4 from by decide)))) (rfl)))))
theorem X10_saying_c (h : mm_M) (a1 : Int) (a2 : Int) : mm_call mX10_saying [vR 47, vI a1, vI a2] h = if 0 ≤ a1 ∧ a1 < 50 then (mm_call mX10_isUnder [vI (h 77 a1), vI 1] h).bind (fun w => mm_ev mX10_saying 4 10 [some (vR 47), some (vI a1), some (vI a2)] (w.1 ++ []) w.2) else none := X10_saying_0 h a1 a2
theorem X10_saying_10 (h : mm_M) (a1 : Int) (a2 : Int) (s0 : Int) : mm_ev mX10_saying 4 10 [some (vR 47), some (vI a1), some (vI a2)] [vI s0] h = if s0 = 0 then if 0 ≤ a1 ∧ a1 < 50 then if ¬ (h 77 a1) = 7 then if 0 ≤ a1 ∧ a1 < 50 then if ¬ (h 77 a1) = 6 then (mm_call mX10_plainSays [vR 47, vI a1, vI a2] h).bind (fun w => mm_ev mX10_saying 4 80 [some (vR 47), some (vI a1), some (vI a2)] (w.1 ++ []) w.2) else (mm_call mX10_strangerSays [vR 47, vI a1, vI a2] h).bind (fun w => mm_ev mX10_saying 4 71 [some (vR 47), some (vI a1), some (vI a2)] (w.1 ++ []) w.2) else none else (mm_call mX10_ran [vR 47, vI 81] h).bind (fun w => mm_ev mX10_saying 4 45 [some (vR 47), some (vI a1), some (vI a2)] (w.1 ++ []) w.2) else none else (mm_call mX10_ran [vR 47, vI 20] h).bind (fun w => mm_ev mX10_saying 4 19 [some (vR 47), some (vI a1), some (vI a2)] (w.1 ++ []) w.2) := (ev_if_eq 28 13 dX10_saying_10 rfl rfl).trans (mm_ite ((ev_aload_n 29 dX10_saying_28 rfl rfl).trans ((ev_getF 32 77 dX10_saying_29 fl_10_111 oc47 ak47 rfl rf_47_50 rfl).trans ((ev_iload_n 33 dX10_saying_32 rfl rfl).trans ((ev_iald 34 50 dX10_saying_33 ak77 an77 rfl).trans (mm_ite ((ev_bipush 36 (v := 7) dX10_saying_34 rfl rfl).trans ((ev_ic_ne 54 39 dX10_saying_36 rfl rfl).trans (mm_ite ((ev_aload_n 55 dX10_saying_54 rfl rfl).trans ((ev_getF 58 77 dX10_saying_55 fl_10_111 oc47 ak47 rfl rf_47_50 rfl).trans ((ev_iload_n 59 dX10_saying_58 rfl rfl).trans ((ev_iald 60 50 dX10_saying_59 ak77 an77 rfl).trans (mm_ite ((ev_bipush 62 (v := 6) dX10_saying_60 rfl rfl).trans ((ev_ic_ne 74 65 dX10_saying_62 rfl rfl).trans (mm_ite ((ev_aload_n 75 dX10_saying_74 rfl rfl).trans ((ev_iload_n 76 dX10_saying_75 rfl rfl).trans ((ev_iload_n 77 dX10_saying_76 rfl rfl).trans ((ev_callv mX10_plainSays [vR 47, vI a1, vI a2] [] 80 dX10_saying_77 ml_10_407 k245 rfl oc47 ak47 rfl rfl (Nat.le_of_ble_eq_true rfl) (Nat.le_of_ble_eq_true rfl) rfl).trans (if_pos (show 2 < 4 from by decide)))))) ((ev_aload_n 66 dX10_saying_65 rfl rfl).trans ((ev_iload_n 67 dX10_saying_66 rfl rfl).trans ((ev_iload_n 68 dX10_saying_67 rfl rfl).trans ((ev_callv mX10_strangerSays [vR 47, vI a1, vI a2] [] 71 dX10_saying_68 ml_10_413 k246 rfl oc47 ak47 rfl rfl (Nat.le_of_ble_eq_true rfl) (Nat.le_of_ble_eq_true rfl) rfl).trans (if_pos (show 3 < 4 from by decide))))))))) (rfl)))))) ((ev_aload_n 40 dX10_saying_39 rfl rfl).trans ((ev_bipush 42 (v := 81) dX10_saying_40 rfl rfl).trans ((ev_callv mX10_ran [vR 47, vI 81] [] 45 dX10_saying_42 ml_10_404 k241 rfl oc47 ak47 rfl rfl (Nat.le_of_ble_eq_true rfl) (Nat.le_of_ble_eq_true rfl) rfl).trans (if_pos (show 1 < 4 from by decide)))))))) (rfl)))))) ((ev_aload_n 14 dX10_saying_13 rfl rfl).trans ((ev_bipush 16 (v := 20) dX10_saying_14 rfl rfl).trans ((ev_callv mX10_ran [vR 47, vI 20] [] 19 dX10_saying_16 ml_10_404 k241 rfl oc47 ak47 rfl rfl (Nat.le_of_ble_eq_true rfl) (Nat.le_of_ble_eq_true rfl) rfl).trans (if_pos (show 1 < 4 from by decide))))))
theorem X10_saying_19 (h : mm_M) (a1 : Int) (a2 : Int) : mm_ev mX10_saying 4 19 [some (vR 47), some (vI a1), some (vI a2)] [] h = (mm_call mX10_plainSays [vR 47, vI a1, vI a2] h).bind (fun w => mm_ev mX10_saying 4 25 [some (vR 47), some (vI a1), some (vI a2)] (w.1 ++ []) w.2) := (ev_aload_n 20 dX10_saying_19 rfl rfl).trans ((ev_iload_n 21 dX10_saying_20 rfl rfl).trans ((ev_iload_n 22 dX10_saying_21 rfl rfl).trans ((ev_callv mX10_plainSays [vR 47, vI a1, vI a2] [] 25 dX10_saying_22 ml_10_407 k245 rfl oc47 ak47 rfl rfl (Nat.le_of_ble_eq_true rfl) (Nat.le_of_ble_eq_true rfl) rfl).trans (if_pos (show 2 < 4 from by decide)))))
theorem X10_saying_25 (h : mm_M) (a1 : Int) (a2 : Int) (s0 : Int) : mm_ev mX10_saying 4 25 [some (vR 47), some (vI a1), some (vI a2)] [vI s0] h = some ([vI (w32 (s0 + 3))], h) := (ev_iconst 26 (v := 3) dX10_saying_25 rfl rfl).trans ((ev_iadd 27 dX10_saying_26 rfl).trans (ev_iret dX10_saying_27 rfl))
theorem X10_saying_45 (h : mm_M) (a1 : Int) (a2 : Int) : mm_ev mX10_saying 4 45 [some (vR 47), some (vI a1), some (vI a2)] [] h = (mm_call mX10_strangerSays [vR 47, vI a1, vI a2] h).bind (fun w => mm_ev mX10_saying 4 51 [some (vR 47), some (vI a1), some (vI a2)] (w.1 ++ []) w.2) := (ev_aload_n 46 dX10_saying_45 rfl rfl).trans ((ev_iload_n 47 dX10_saying_46 rfl rfl).trans ((ev_iload_n 48 dX10_saying_47 rfl rfl).trans ((ev_callv mX10_strangerSays [vR 47, vI a1, vI a2] [] 51 dX10_saying_48 ml_10_413 k246 rfl oc47 ak47 rfl rfl (Nat.le_of_ble_eq_true rfl) (Nat.le_of_ble_eq_true rfl) rfl).trans (if_pos (show 3 < 4 from by decide)))))
theorem X10_saying_51 (h : mm_M) (a1 : Int) (a2 : Int) (s0 : Int) : mm_ev mX10_saying 4 51 [some (vR 47), some (vI a1), some (vI a2)] [vI s0] h = some ([vI (w32 (s0 - 1))], h) := (ev_iconst 52 (v := 1) dX10_saying_51 rfl rfl).trans ((ev_isub 53 dX10_saying_52 rfl).trans (ev_iret dX10_saying_53 rfl))
theorem X10_saying_71 (h : mm_M) (a1 : Int) (a2 : Int) (s0 : Int) : mm_ev mX10_saying 4 71 [some (vR 47), some (vI a1), some (vI a2)] [vI s0] h = mm_ev mX10_saying 4 80 [some (vR 47), some (vI a1), some (vI a2)] [vI s0] h := ev_goto 80 dX10_saying_71 rfl
theorem X10_saying_80 (h : mm_M) (a1 : Int) (a2 : Int) (s0 : Int) : mm_ev mX10_saying 4 80 [some (vR 47), some (vI a1), some (vI a2)] [vI s0] h = some ([vI s0], h) := ev_iret dX10_saying_80 rfl
theorem dX10_ran_0 : decode mX10_ran.1 0 = .ok (.aload_n 0, 1) := by decide +kernel
theorem dX10_ran_1 : decode mX10_ran.1 1 = .ok (.getfield 401, 3) := by decide +kernel
theorem dX10_ran_4 : decode mX10_ran.1 4 = .ok (.bipush 24, 2) := by decide +kernel
theorem dX10_ran_6 : decode mX10_ran.1 6 = .ok (.if_icmp .ge 13, 3) := by decide +kernel
theorem dX10_ran_9 : decode mX10_ran.1 9 = .ok (.aload_n 0, 1) := by decide +kernel
theorem dX10_ran_10 : decode mX10_ran.1 10 = .ok (.getfield 114, 3) := by decide +kernel
theorem dX10_ran_13 : decode mX10_ran.1 13 = .ok (.aload_n 0, 1) := by decide +kernel
theorem dX10_ran_14 : decode mX10_ran.1 14 = .ok (.getfield 401, 3) := by decide +kernel
theorem dX10_ran_17 : decode mX10_ran.1 17 = .ok (.iload_n 1, 1) := by decide +kernel
theorem dX10_ran_18 : decode mX10_ran.1 18 = .ok (.iastore, 1) := by decide +kernel
theorem dX10_ran_19 : decode mX10_ran.1 19 = .ok (.aload_n 0, 1) := by decide +kernel
theorem dX10_ran_20 : decode mX10_ran.1 20 = .ok (.dup, 1) := by decide +kernel
theorem dX10_ran_21 : decode mX10_ran.1 21 = .ok (.getfield 401, 3) := by decide +kernel
theorem dX10_ran_24 : decode mX10_ran.1 24 = .ok (.iconst 1, 1) := by decide +kernel
theorem dX10_ran_25 : decode mX10_ran.1 25 = .ok (.iadd, 1) := by decide +kernel
theorem dX10_ran_26 : decode mX10_ran.1 26 = .ok (.putfield 401, 3) := by decide +kernel
theorem dX10_ran_29 : decode mX10_ran.1 29 = .ok (.return_, 1) := by decide +kernel
theorem X10_ran_0 (h : mm_M) (a1 : Int) : mm_ev mX10_ran 1 0 [some (vR 47), some (vI a1)] [] h = if 24 ≤ (h 47 51) then mm_ev mX10_ran 1 19 [some (vR 47), some (vI a1)] [] h else if 0 ≤ (h 47 51) ∧ (h 47 51) < 24 then mm_ev mX10_ran 1 19 [some (vR 47), some (vI a1)] [] (mUp h 78 (h 47 51) a1) else none := (ev_aload_n 1 dX10_ran_0 rfl rfl).trans ((ev_getI 4 51 dX10_ran_1 fl_10_401 oc47 ak47 (by decide) rfl rfl).trans ((ev_bipush 6 (v := 24) dX10_ran_4 rfl rfl).trans ((ev_ic_ge 19 9 dX10_ran_6 rfl rfl).trans (mm_ite (rfl) ((ev_aload_n 10 dX10_ran_9 rfl rfl).trans ((ev_getF 13 78 dX10_ran_10 fl_10_114 oc47 ak47 rfl rf_47_52 rfl).trans ((ev_aload_n 14 dX10_ran_13 rfl rfl).trans ((ev_getI 17 51 dX10_ran_14 fl_10_401 oc47 ak47 (by decide) rfl rfl).trans ((ev_iload_n 18 dX10_ran_17 rfl rfl).trans (ev_iast 19 24 dX10_ran_18 ak78 an78 rfl))))))))))
theorem X10_ran_c (h : mm_M) (a1 : Int) : mm_call mX10_ran [vR 47, vI a1] h = if 24 ≤ (h 47 51) then mm_ev mX10_ran 1 19 [some (vR 47), some (vI a1)] [] h else if 0 ≤ (h 47 51) ∧ (h 47 51) < 24 then mm_ev mX10_ran 1 19 [some (vR 47), some (vI a1)] [] (mUp h 78 (h 47 51) a1) else none := X10_ran_0 h a1
theorem X10_ran_19 (h : mm_M) (a1 : Int) : mm_ev mX10_ran 1 19 [some (vR 47), some (vI a1)] [] h = some ([], mUp h 47 51 (w32 ((h 47 51) + 1))) := (ev_aload_n 20 dX10_ran_19 rfl rfl).trans ((ev_dup 21 dX10_ran_20 rfl rfl).trans ((ev_getI 24 51 dX10_ran_21 fl_10_401 oc47 ak47 (by decide) rfl rfl).trans ((ev_iconst 25 (v := 1) dX10_ran_24 rfl rfl).trans ((ev_iadd 26 dX10_ran_25 rfl).trans ((ev_putI 29 51 dX10_ran_26 fl_10_401 oc47 ak47 rfl rfl rfl).trans (ev_vret dX10_ran_29 rfl))))))
theorem dX10_plainSays_0 : decode mX10_plainSays.1 0 = .ok (.aload_n 0, 1) := by decide +kernel
theorem dX10_plainSays_1 : decode mX10_plainSays.1 1 = .ok (.iconst 1, 1) := by decide +kernel
theorem dX10_plainSays_2 : decode mX10_plainSays.1 2 = .ok (.invokevirtual 404, 3) := by decide +kernel
theorem dX10_plainSays_5 : decode mX10_plainSays.1 5 = .ok (.iload_n 2, 1) := by decide +kernel
theorem dX10_plainSays_6 : decode mX10_plainSays.1 6 = .ok (.iload_n 1, 1) := by decide +kernel
theorem dX10_plainSays_7 : decode mX10_plainSays.1 7 = .ok (.iadd, 1) := by decide +kernel
theorem dX10_plainSays_8 : decode mX10_plainSays.1 8 = .ok (.ireturn, 1) := by decide +kernel
theorem X10_plainSays_0 (h : mm_M) (a1 : Int) (a2 : Int) : mm_ev mX10_plainSays 2 0 [some (vR 47), some (vI a1), some (vI a2)] [] h = (mm_call mX10_ran [vR 47, vI 1] h).bind (fun w => mm_ev mX10_plainSays 2 5 [some (vR 47), some (vI a1), some (vI a2)] (w.1 ++ []) w.2) := (ev_aload_n 1 dX10_plainSays_0 rfl rfl).trans ((ev_iconst 2 (v := 1) dX10_plainSays_1 rfl rfl).trans ((ev_callv mX10_ran [vR 47, vI 1] [] 5 dX10_plainSays_2 ml_10_404 k241 rfl oc47 ak47 rfl rfl (Nat.le_of_ble_eq_true rfl) (Nat.le_of_ble_eq_true rfl) rfl).trans (if_pos (show 1 < 2 from by decide))))
theorem X10_plainSays_c (h : mm_M) (a1 : Int) (a2 : Int) : mm_call mX10_plainSays [vR 47, vI a1, vI a2] h = (mm_call mX10_ran [vR 47, vI 1] h).bind (fun w => mm_ev mX10_plainSays 2 5 [some (vR 47), some (vI a1), some (vI a2)] (w.1 ++ []) w.2) := X10_plainSays_0 h a1 a2
theorem X10_plainSays_5 (h : mm_M) (a1 : Int) (a2 : Int) : mm_ev mX10_plainSays 2 5 [some (vR 47), some (vI a1), some (vI a2)] [] h = some ([vI (w32 (a2 + a1))], h) := (ev_iload_n 6 dX10_plainSays_5 rfl rfl).trans ((ev_iload_n 7 dX10_plainSays_6 rfl rfl).trans ((ev_iadd 8 dX10_plainSays_7 rfl).trans (ev_iret dX10_plainSays_8 rfl)))
theorem dX10_strangerSays_0 : decode mX10_strangerSays.1 0 = .ok (.aload_n 0, 1) := by decide +kernel
theorem dX10_strangerSays_1 : decode mX10_strangerSays.1 1 = .ok (.bipush 70, 2) := by decide +kernel
theorem dX10_strangerSays_3 : decode mX10_strangerSays.1 3 = .ok (.invokevirtual 404, 3) := by decide +kernel
theorem dX10_strangerSays_6 : decode mX10_strangerSays.1 6 = .ok (.aload_n 0, 1) := by decide +kernel
theorem dX10_strangerSays_7 : decode mX10_strangerSays.1 7 = .ok (.iload_n 1, 1) := by decide +kernel
theorem dX10_strangerSays_8 : decode mX10_strangerSays.1 8 = .ok (.iload_n 2, 1) := by decide +kernel
theorem dX10_strangerSays_9 : decode mX10_strangerSays.1 9 = .ok (.invokevirtual 407, 3) := by decide +kernel
theorem dX10_strangerSays_12 : decode mX10_strangerSays.1 12 = .ok (.iconst 2, 1) := by decide +kernel
theorem dX10_strangerSays_13 : decode mX10_strangerSays.1 13 = .ok (.imul, 1) := by decide +kernel
theorem dX10_strangerSays_14 : decode mX10_strangerSays.1 14 = .ok (.ireturn, 1) := by decide +kernel
theorem X10_strangerSays_0 (h : mm_M) (a1 : Int) (a2 : Int) : mm_ev mX10_strangerSays 3 0 [some (vR 47), some (vI a1), some (vI a2)] [] h = (mm_call mX10_ran [vR 47, vI 70] h).bind (fun w => mm_ev mX10_strangerSays 3 6 [some (vR 47), some (vI a1), some (vI a2)] (w.1 ++ []) w.2) := (ev_aload_n 1 dX10_strangerSays_0 rfl rfl).trans ((ev_bipush 3 (v := 70) dX10_strangerSays_1 rfl rfl).trans ((ev_callv mX10_ran [vR 47, vI 70] [] 6 dX10_strangerSays_3 ml_10_404 k241 rfl oc47 ak47 rfl rfl (Nat.le_of_ble_eq_true rfl) (Nat.le_of_ble_eq_true rfl) rfl).trans (if_pos (show 1 < 3 from by decide))))
theorem X10_strangerSays_c (h : mm_M) (a1 : Int) (a2 : Int) : mm_call mX10_strangerSays [vR 47, vI a1, vI a2] h = (mm_call mX10_ran [vR 47, vI 70] h).bind (fun w => mm_ev mX10_strangerSays 3 6 [some (vR 47), some (vI a1), some (vI a2)] (w.1 ++ []) w.2) := X10_strangerSays_0 h a1 a2
theorem X10_strangerSays_6 (h : mm_M) (a1 : Int) (a2 : Int) : mm_ev mX10_strangerSays 3 6 [some (vR 47), some (vI a1), some (vI a2)] [] h = (mm_call mX10_plainSays [vR 47, vI a1, vI a2] h).bind (fun w => mm_ev mX10_strangerSays 3 12 [some (vR 47), some (vI a1), some (vI a2)] (w.1 ++ []) w.2) := (ev_aload_n 7 dX10_strangerSays_6 rfl rfl).trans ((ev_iload_n 8 dX10_strangerSays_7 rfl rfl).trans ((ev_iload_n 9 dX10_strangerSays_8 rfl rfl).trans ((ev_callv mX10_plainSays [vR 47, vI a1, vI a2] [] 12 dX10_strangerSays_9 ml_10_407 k245 rfl oc47 ak47 rfl rfl (Nat.le_of_ble_eq_true rfl) (Nat.le_of_ble_eq_true rfl) rfl).trans (if_pos (show 2 < 3 from by decide)))))
theorem X10_strangerSays_12 (h : mm_M) (a1 : Int) (a2 : Int) (s0 : Int) : mm_ev mX10_strangerSays 3 12 [some (vR 47), some (vI a1), some (vI a2)] [vI s0] h = some ([vI (w32 (s0 * 2))], h) := (ev_iconst 13 (v := 2) dX10_strangerSays_12 rfl rfl).trans ((ev_imul 14 dX10_strangerSays_13 rfl).trans (ev_iret dX10_strangerSays_14 rfl))
theorem dX10_hearing_0 : decode mX10_hearing.1 0 = .ok (.aload_n 0, 1) := by decide +kernel
theorem dX10_hearing_1 : decode mX10_hearing.1 1 = .ok (.getfield 111, 3) := by decide +kernel
theorem dX10_hearing_4 : decode mX10_hearing.1 4 = .ok (.iload_n 1, 1) := by decide +kernel
theorem dX10_hearing_5 : decode mX10_hearing.1 5 = .ok (.iaload, 1) := by decide +kernel
theorem dX10_hearing_6 : decode mX10_hearing.1 6 = .ok (.iconst 3, 1) := by decide +kernel
theorem dX10_hearing_7 : decode mX10_hearing.1 7 = .ok (.invokestatic 410, 3) := by decide +kernel
theorem dX10_hearing_10 : decode mX10_hearing.1 10 = .ok (.ifCond .eq 18, 3) := by decide +kernel
theorem dX10_hearing_13 : decode mX10_hearing.1 13 = .ok (.aload_n 0, 1) := by decide +kernel
theorem dX10_hearing_14 : decode mX10_hearing.1 14 = .ok (.bipush 41, 2) := by decide +kernel
theorem dX10_hearing_16 : decode mX10_hearing.1 16 = .ok (.invokevirtual 404, 3) := by decide +kernel
theorem dX10_hearing_19 : decode mX10_hearing.1 19 = .ok (.aload_n 0, 1) := by decide +kernel
theorem dX10_hearing_20 : decode mX10_hearing.1 20 = .ok (.iload_n 1, 1) := by decide +kernel
theorem dX10_hearing_21 : decode mX10_hearing.1 21 = .ok (.iload_n 2, 1) := by decide +kernel
theorem dX10_hearing_22 : decode mX10_hearing.1 22 = .ok (.iconst 1, 1) := by decide +kernel
theorem dX10_hearing_23 : decode mX10_hearing.1 23 = .ok (.iadd, 1) := by decide +kernel
theorem dX10_hearing_24 : decode mX10_hearing.1 24 = .ok (.invokevirtual 422, 3) := by decide +kernel
theorem dX10_hearing_27 : decode mX10_hearing.1 27 = .ok (.ireturn, 1) := by decide +kernel
theorem dX10_hearing_28 : decode mX10_hearing.1 28 = .ok (.aload_n 0, 1) := by decide +kernel
theorem dX10_hearing_29 : decode mX10_hearing.1 29 = .ok (.getfield 111, 3) := by decide +kernel
theorem dX10_hearing_32 : decode mX10_hearing.1 32 = .ok (.iload_n 1, 1) := by decide +kernel
theorem dX10_hearing_33 : decode mX10_hearing.1 33 = .ok (.iaload, 1) := by decide +kernel
theorem dX10_hearing_34 : decode mX10_hearing.1 34 = .ok (.bipush 7, 2) := by decide +kernel
theorem dX10_hearing_36 : decode mX10_hearing.1 36 = .ok (.if_icmp .ne 25, 3) := by decide +kernel
theorem dX10_hearing_39 : decode mX10_hearing.1 39 = .ok (.aload_n 0, 1) := by decide +kernel
theorem dX10_hearing_40 : decode mX10_hearing.1 40 = .ok (.bipush 80, 2) := by decide +kernel
theorem dX10_hearing_42 : decode mX10_hearing.1 42 = .ok (.invokevirtual 404, 3) := by decide +kernel
theorem dX10_hearing_45 : decode mX10_hearing.1 45 = .ok (.aload_n 0, 1) := by decide +kernel
theorem dX10_hearing_46 : decode mX10_hearing.1 46 = .ok (.iload_n 1, 1) := by decide +kernel
theorem dX10_hearing_47 : decode mX10_hearing.1 47 = .ok (.iload_n 2, 1) := by decide +kernel
theorem dX10_hearing_48 : decode mX10_hearing.1 48 = .ok (.invokevirtual 419, 3) := by decide +kernel
theorem dX10_hearing_51 : decode mX10_hearing.1 51 = .ok (.istore_n 3, 1) := by decide +kernel
theorem dX10_hearing_52 : decode mX10_hearing.1 52 = .ok (.iload_n 3, 1) := by decide +kernel
theorem dX10_hearing_53 : decode mX10_hearing.1 53 = .ok (.aload_n 0, 1) := by decide +kernel
theorem dX10_hearing_54 : decode mX10_hearing.1 54 = .ok (.iload_n 1, 1) := by decide +kernel
theorem dX10_hearing_55 : decode mX10_hearing.1 55 = .ok (.iconst 2, 1) := by decide +kernel
theorem dX10_hearing_56 : decode mX10_hearing.1 56 = .ok (.invokevirtual 425, 3) := by decide +kernel
theorem dX10_hearing_59 : decode mX10_hearing.1 59 = .ok (.iadd, 1) := by decide +kernel
theorem dX10_hearing_60 : decode mX10_hearing.1 60 = .ok (.ireturn, 1) := by decide +kernel
theorem dX10_hearing_61 : decode mX10_hearing.1 61 = .ok (.aload_n 0, 1) := by decide +kernel
theorem dX10_hearing_62 : decode mX10_hearing.1 62 = .ok (.getfield 111, 3) := by decide +kernel
theorem dX10_hearing_65 : decode mX10_hearing.1 65 = .ok (.iload_n 1, 1) := by decide +kernel
theorem dX10_hearing_66 : decode mX10_hearing.1 66 = .ok (.iaload, 1) := by decide +kernel
theorem dX10_hearing_67 : decode mX10_hearing.1 67 = .ok (.iconst 2, 1) := by decide +kernel
theorem dX10_hearing_68 : decode mX10_hearing.1 68 = .ok (.if_icmp .ne 12, 3) := by decide +kernel
theorem dX10_hearing_71 : decode mX10_hearing.1 71 = .ok (.aload_n 0, 1) := by decide +kernel
theorem dX10_hearing_72 : decode mX10_hearing.1 72 = .ok (.iload_n 1, 1) := by decide +kernel
theorem dX10_hearing_73 : decode mX10_hearing.1 73 = .ok (.iload_n 2, 1) := by decide +kernel
theorem dX10_hearing_74 : decode mX10_hearing.1 74 = .ok (.invokevirtual 422, 3) := by decide +kernel
theorem dX10_hearing_77 : decode mX10_hearing.1 77 = .ok (.goto 9, 3) := by decide +kernel
theorem dX10_hearing_80 : decode mX10_hearing.1 80 = .ok (.aload_n 0, 1) := by decide +kernel
theorem dX10_hearing_81 : decode mX10_hearing.1 81 = .ok (.iload_n 1, 1) := by decide +kernel
theorem dX10_hearing_82 : decode mX10_hearing.1 82 = .ok (.iload_n 2, 1) := by decide +kernel
theorem dX10_hearing_83 : decode mX10_hearing.1 83 = .ok (.invokevirtual 419, 3) := by decide +kernel
theorem dX10_hearing_86 : decode mX10_hearing.1 86 = .ok (.ireturn, 1) := by decide +kernel
theorem X10_hearing_0 (h : mm_M) (a1 : Int) (a2 : Int) : mm_ev mX10_hearing 7 0 [some (vR 47), some (vI a1), some (vI a2), none] [] h = if 0 ≤ a1 ∧ a1 < 50 then (mm_call mX10_isUnder [vI (h 77 a1), vI 3] h).bind (fun w => mm_ev mX10_hearing 7 10 [some (vR 47), some (vI a1), some (vI a2), none] (w.1 ++ []) w.2) else none := (ev_aload_n 1 dX10_hearing_0 rfl rfl).trans ((ev_getF 4 77 dX10_hearing_1 fl_10_111 oc47 ak47 rfl rf_47_50 rfl).trans ((ev_iload_n 5 dX10_hearing_4 rfl rfl).trans ((ev_iald 6 50 dX10_hearing_5 ak77 an77 rfl).trans (mm_ite ((ev_iconst 7 (v := 3) dX10_hearing_6 rfl rfl).trans ((ev_calls mX10_isUnder [vI (h 77 a1), vI 3] [] 10 dX10_hearing_7 ml_10_410 k244 rfl rfl rfl (Nat.le_of_ble_eq_true rfl) (Nat.le_of_ble_eq_true rfl) rfl).trans (if_pos (show 1 < 7 from by decide)))) (rfl)))))
theorem X10_hearing_c (h : mm_M) (a1 : Int) (a2 : Int) : mm_call mX10_hearing [vR 47, vI a1, vI a2] h = if 0 ≤ a1 ∧ a1 < 50 then (mm_call mX10_isUnder [vI (h 77 a1), vI 3] h).bind (fun w => mm_ev mX10_hearing 7 10 [some (vR 47), some (vI a1), some (vI a2), none] (w.1 ++ []) w.2) else none := X10_hearing_0 h a1 a2
theorem X10_hearing_10 (h : mm_M) (a1 : Int) (a2 : Int) (s0 : Int) : mm_ev mX10_hearing 7 10 [some (vR 47), some (vI a1), some (vI a2), none] [vI s0] h = if s0 = 0 then if 0 ≤ a1 ∧ a1 < 50 then if ¬ (h 77 a1) = 7 then if 0 ≤ a1 ∧ a1 < 50 then if ¬ (h 77 a1) = 2 then (mm_call mX10_plainHears [vR 47, vI a1, vI a2] h).bind (fun w => mm_ev mX10_hearing 7 86 [some (vR 47), some (vI a1), some (vI a2), none] (w.1 ++ []) w.2) else (mm_call mX10_latherHears [vR 47, vI a1, vI a2] h).bind (fun w => mm_ev mX10_hearing 7 77 [some (vR 47), some (vI a1), some (vI a2), none] (w.1 ++ []) w.2) else none else (mm_call mX10_ran [vR 47, vI 80] h).bind (fun w => mm_ev mX10_hearing 7 45 [some (vR 47), some (vI a1), some (vI a2), none] (w.1 ++ []) w.2) else none else (mm_call mX10_ran [vR 47, vI 41] h).bind (fun w => mm_ev mX10_hearing 7 19 [some (vR 47), some (vI a1), some (vI a2), none] (w.1 ++ []) w.2) := (ev_if_eq 28 13 dX10_hearing_10 rfl rfl).trans (mm_ite ((ev_aload_n 29 dX10_hearing_28 rfl rfl).trans ((ev_getF 32 77 dX10_hearing_29 fl_10_111 oc47 ak47 rfl rf_47_50 rfl).trans ((ev_iload_n 33 dX10_hearing_32 rfl rfl).trans ((ev_iald 34 50 dX10_hearing_33 ak77 an77 rfl).trans (mm_ite ((ev_bipush 36 (v := 7) dX10_hearing_34 rfl rfl).trans ((ev_ic_ne 61 39 dX10_hearing_36 rfl rfl).trans (mm_ite ((ev_aload_n 62 dX10_hearing_61 rfl rfl).trans ((ev_getF 65 77 dX10_hearing_62 fl_10_111 oc47 ak47 rfl rf_47_50 rfl).trans ((ev_iload_n 66 dX10_hearing_65 rfl rfl).trans ((ev_iald 67 50 dX10_hearing_66 ak77 an77 rfl).trans (mm_ite ((ev_iconst 68 (v := 2) dX10_hearing_67 rfl rfl).trans ((ev_ic_ne 80 71 dX10_hearing_68 rfl rfl).trans (mm_ite ((ev_aload_n 81 dX10_hearing_80 rfl rfl).trans ((ev_iload_n 82 dX10_hearing_81 rfl rfl).trans ((ev_iload_n 83 dX10_hearing_82 rfl rfl).trans ((ev_callv mX10_plainHears [vR 47, vI a1, vI a2] [] 86 dX10_hearing_83 ml_10_419 k248 rfl oc47 ak47 rfl rfl (Nat.le_of_ble_eq_true rfl) (Nat.le_of_ble_eq_true rfl) rfl).trans (if_pos (show 5 < 7 from by decide)))))) ((ev_aload_n 72 dX10_hearing_71 rfl rfl).trans ((ev_iload_n 73 dX10_hearing_72 rfl rfl).trans ((ev_iload_n 74 dX10_hearing_73 rfl rfl).trans ((ev_callv mX10_latherHears [vR 47, vI a1, vI a2] [] 77 dX10_hearing_74 ml_10_422 k249 rfl oc47 ak47 rfl rfl (Nat.le_of_ble_eq_true rfl) (Nat.le_of_ble_eq_true rfl) rfl).trans (if_pos (show 6 < 7 from by decide))))))))) (rfl)))))) ((ev_aload_n 40 dX10_hearing_39 rfl rfl).trans ((ev_bipush 42 (v := 80) dX10_hearing_40 rfl rfl).trans ((ev_callv mX10_ran [vR 47, vI 80] [] 45 dX10_hearing_42 ml_10_404 k241 rfl oc47 ak47 rfl rfl (Nat.le_of_ble_eq_true rfl) (Nat.le_of_ble_eq_true rfl) rfl).trans (if_pos (show 1 < 7 from by decide)))))))) (rfl)))))) ((ev_aload_n 14 dX10_hearing_13 rfl rfl).trans ((ev_bipush 16 (v := 41) dX10_hearing_14 rfl rfl).trans ((ev_callv mX10_ran [vR 47, vI 41] [] 19 dX10_hearing_16 ml_10_404 k241 rfl oc47 ak47 rfl rfl (Nat.le_of_ble_eq_true rfl) (Nat.le_of_ble_eq_true rfl) rfl).trans (if_pos (show 1 < 7 from by decide))))))
theorem X10_hearing_19 (h : mm_M) (a1 : Int) (a2 : Int) : mm_ev mX10_hearing 7 19 [some (vR 47), some (vI a1), some (vI a2), none] [] h = (mm_call mX10_latherHears [vR 47, vI a1, vI (w32 (a2 + 1))] h).bind (fun w => mm_ev mX10_hearing 7 27 [some (vR 47), some (vI a1), some (vI a2), none] (w.1 ++ []) w.2) := (ev_aload_n 20 dX10_hearing_19 rfl rfl).trans ((ev_iload_n 21 dX10_hearing_20 rfl rfl).trans ((ev_iload_n 22 dX10_hearing_21 rfl rfl).trans ((ev_iconst 23 (v := 1) dX10_hearing_22 rfl rfl).trans ((ev_iadd 24 dX10_hearing_23 rfl).trans ((ev_callv mX10_latherHears [vR 47, vI a1, vI (w32 (a2 + 1))] [] 27 dX10_hearing_24 ml_10_422 k249 rfl oc47 ak47 rfl rfl (Nat.le_of_ble_eq_true rfl) (Nat.le_of_ble_eq_true rfl) rfl).trans (if_pos (show 6 < 7 from by decide)))))))
theorem X10_hearing_27 (h : mm_M) (a1 : Int) (a2 : Int) (s0 : Int) : mm_ev mX10_hearing 7 27 [some (vR 47), some (vI a1), some (vI a2), none] [vI s0] h = some ([vI s0], h) := ev_iret dX10_hearing_27 rfl
theorem X10_hearing_45 (h : mm_M) (a1 : Int) (a2 : Int) : mm_ev mX10_hearing 7 45 [some (vR 47), some (vI a1), some (vI a2), none] [] h = (mm_call mX10_plainHears [vR 47, vI a1, vI a2] h).bind (fun w => mm_ev mX10_hearing 7 51 [some (vR 47), some (vI a1), some (vI a2), none] (w.1 ++ []) w.2) := (ev_aload_n 46 dX10_hearing_45 rfl rfl).trans ((ev_iload_n 47 dX10_hearing_46 rfl rfl).trans ((ev_iload_n 48 dX10_hearing_47 rfl rfl).trans ((ev_callv mX10_plainHears [vR 47, vI a1, vI a2] [] 51 dX10_hearing_48 ml_10_419 k248 rfl oc47 ak47 rfl rfl (Nat.le_of_ble_eq_true rfl) (Nat.le_of_ble_eq_true rfl) rfl).trans (if_pos (show 5 < 7 from by decide)))))
theorem X10_hearing_51 (h : mm_M) (a1 : Int) (a2 : Int) (s0 : Int) : mm_ev mX10_hearing 7 51 [some (vR 47), some (vI a1), some (vI a2), none] [vI s0] h = (mm_call mX10_holding [vR 47, vI a1, vI 2] h).bind (fun w => mm_ev mX10_hearing 7 59 [some (vR 47), some (vI a1), some (vI a2), some (vI s0)] (w.1 ++ [vI s0]) w.2) := (ev_istore_n 52 [some (vR 47), some (vI a1), some (vI a2), some (vI s0)] dX10_hearing_51 rfl rfl).trans ((ev_iload_n 53 dX10_hearing_52 rfl rfl).trans ((ev_aload_n 54 dX10_hearing_53 rfl rfl).trans ((ev_iload_n 55 dX10_hearing_54 rfl rfl).trans ((ev_iconst 56 (v := 2) dX10_hearing_55 rfl rfl).trans ((ev_callv mX10_holding [vR 47, vI a1, vI 2] [vI s0] 59 dX10_hearing_56 ml_10_425 k253 rfl oc47 ak47 rfl rfl (Nat.le_of_ble_eq_true rfl) (Nat.le_of_ble_eq_true rfl) rfl).trans (if_pos (show 5 < 7 from by decide)))))))
theorem X10_hearing_59 (h : mm_M) (a1 : Int) (a2 : Int) (a3 : Int) (s0 : Int) (s1 : Int) : mm_ev mX10_hearing 7 59 [some (vR 47), some (vI a1), some (vI a2), some (vI a3)] [vI s0, vI s1] h = some ([vI (w32 (s1 + s0))], h) := (ev_iadd 60 dX10_hearing_59 rfl).trans (ev_iret dX10_hearing_60 rfl)
theorem X10_hearing_77 (h : mm_M) (a1 : Int) (a2 : Int) (s0 : Int) : mm_ev mX10_hearing 7 77 [some (vR 47), some (vI a1), some (vI a2), none] [vI s0] h = mm_ev mX10_hearing 7 86 [some (vR 47), some (vI a1), some (vI a2), none] [vI s0] h := ev_goto 86 dX10_hearing_77 rfl
theorem X10_hearing_86 (h : mm_M) (a1 : Int) (a2 : Int) (s0 : Int) : mm_ev mX10_hearing 7 86 [some (vR 47), some (vI a1), some (vI a2), none] [vI s0] h = some ([vI s0], h) := ev_iret dX10_hearing_86 rfl
theorem dX10_latherHears_0 : decode mX10_latherHears.1 0 = .ok (.aload_n 0, 1) := by decide +kernel
theorem dX10_latherHears_1 : decode mX10_latherHears.1 1 = .ok (.bipush 30, 2) := by decide +kernel
theorem dX10_latherHears_3 : decode mX10_latherHears.1 3 = .ok (.invokevirtual 404, 3) := by decide +kernel
theorem dX10_latherHears_6 : decode mX10_latherHears.1 6 = .ok (.aload_n 0, 1) := by decide +kernel
theorem dX10_latherHears_7 : decode mX10_latherHears.1 7 = .ok (.iload_n 1, 1) := by decide +kernel
theorem dX10_latherHears_8 : decode mX10_latherHears.1 8 = .ok (.iload_n 2, 1) := by decide +kernel
theorem dX10_latherHears_9 : decode mX10_latherHears.1 9 = .ok (.invokevirtual 419, 3) := by decide +kernel
theorem dX10_latherHears_12 : decode mX10_latherHears.1 12 = .ok (.ineg, 1) := by decide +kernel
theorem dX10_latherHears_13 : decode mX10_latherHears.1 13 = .ok (.ireturn, 1) := by decide +kernel
theorem X10_latherHears_0 (h : mm_M) (a1 : Int) (a2 : Int) : mm_ev mX10_latherHears 6 0 [some (vR 47), some (vI a1), some (vI a2)] [] h = (mm_call mX10_ran [vR 47, vI 30] h).bind (fun w => mm_ev mX10_latherHears 6 6 [some (vR 47), some (vI a1), some (vI a2)] (w.1 ++ []) w.2) := (ev_aload_n 1 dX10_latherHears_0 rfl rfl).trans ((ev_bipush 3 (v := 30) dX10_latherHears_1 rfl rfl).trans ((ev_callv mX10_ran [vR 47, vI 30] [] 6 dX10_latherHears_3 ml_10_404 k241 rfl oc47 ak47 rfl rfl (Nat.le_of_ble_eq_true rfl) (Nat.le_of_ble_eq_true rfl) rfl).trans (if_pos (show 1 < 6 from by decide))))
theorem X10_latherHears_c (h : mm_M) (a1 : Int) (a2 : Int) : mm_call mX10_latherHears [vR 47, vI a1, vI a2] h = (mm_call mX10_ran [vR 47, vI 30] h).bind (fun w => mm_ev mX10_latherHears 6 6 [some (vR 47), some (vI a1), some (vI a2)] (w.1 ++ []) w.2) := X10_latherHears_0 h a1 a2
theorem X10_latherHears_6 (h : mm_M) (a1 : Int) (a2 : Int) : mm_ev mX10_latherHears 6 6 [some (vR 47), some (vI a1), some (vI a2)] [] h = (mm_call mX10_plainHears [vR 47, vI a1, vI a2] h).bind (fun w => mm_ev mX10_latherHears 6 12 [some (vR 47), some (vI a1), some (vI a2)] (w.1 ++ []) w.2) := (ev_aload_n 7 dX10_latherHears_6 rfl rfl).trans ((ev_iload_n 8 dX10_latherHears_7 rfl rfl).trans ((ev_iload_n 9 dX10_latherHears_8 rfl rfl).trans ((ev_callv mX10_plainHears [vR 47, vI a1, vI a2] [] 12 dX10_latherHears_9 ml_10_419 k248 rfl oc47 ak47 rfl rfl (Nat.le_of_ble_eq_true rfl) (Nat.le_of_ble_eq_true rfl) rfl).trans (if_pos (show 5 < 6 from by decide)))))
theorem X10_latherHears_12 (h : mm_M) (a1 : Int) (a2 : Int) (s0 : Int) : mm_ev mX10_latherHears 6 12 [some (vR 47), some (vI a1), some (vI a2)] [vI s0] h = some ([vI (w32 (-s0))], h) := (ev_ineg 13 dX10_latherHears_12 rfl).trans (ev_iret dX10_latherHears_13 rfl)
theorem dX10_plainHears_0 : decode mX10_plainHears.1 0 = .ok (.aload_n 0, 1) := by decide +kernel
theorem dX10_plainHears_1 : decode mX10_plainHears.1 1 = .ok (.bipush 10, 2) := by decide +kernel
theorem dX10_plainHears_3 : decode mX10_plainHears.1 3 = .ok (.invokevirtual 404, 3) := by decide +kernel
theorem dX10_plainHears_6 : decode mX10_plainHears.1 6 = .ok (.aload_n 0, 1) := by decide +kernel
theorem dX10_plainHears_7 : decode mX10_plainHears.1 7 = .ok (.iload_n 1, 1) := by decide +kernel
theorem dX10_plainHears_8 : decode mX10_plainHears.1 8 = .ok (.iload_n 2, 1) := by decide +kernel
theorem dX10_plainHears_9 : decode mX10_plainHears.1 9 = .ok (.invokevirtual 416, 3) := by decide +kernel
theorem dX10_plainHears_12 : decode mX10_plainHears.1 12 = .ok (.iconst 2, 1) := by decide +kernel
theorem dX10_plainHears_13 : decode mX10_plainHears.1 13 = .ok (.imul, 1) := by decide +kernel
theorem dX10_plainHears_14 : decode mX10_plainHears.1 14 = .ok (.ireturn, 1) := by decide +kernel
theorem X10_plainHears_0 (h : mm_M) (a1 : Int) (a2 : Int) : mm_ev mX10_plainHears 5 0 [some (vR 47), some (vI a1), some (vI a2)] [] h = (mm_call mX10_ran [vR 47, vI 10] h).bind (fun w => mm_ev mX10_plainHears 5 6 [some (vR 47), some (vI a1), some (vI a2)] (w.1 ++ []) w.2) := (ev_aload_n 1 dX10_plainHears_0 rfl rfl).trans ((ev_bipush 3 (v := 10) dX10_plainHears_1 rfl rfl).trans ((ev_callv mX10_ran [vR 47, vI 10] [] 6 dX10_plainHears_3 ml_10_404 k241 rfl oc47 ak47 rfl rfl (Nat.le_of_ble_eq_true rfl) (Nat.le_of_ble_eq_true rfl) rfl).trans (if_pos (show 1 < 5 from by decide))))
theorem X10_plainHears_c (h : mm_M) (a1 : Int) (a2 : Int) : mm_call mX10_plainHears [vR 47, vI a1, vI a2] h = (mm_call mX10_ran [vR 47, vI 10] h).bind (fun w => mm_ev mX10_plainHears 5 6 [some (vR 47), some (vI a1), some (vI a2)] (w.1 ++ []) w.2) := X10_plainHears_0 h a1 a2
theorem X10_plainHears_6 (h : mm_M) (a1 : Int) (a2 : Int) : mm_ev mX10_plainHears 5 6 [some (vR 47), some (vI a1), some (vI a2)] [] h = (mm_call mX10_saying [vR 47, vI a1, vI a2] h).bind (fun w => mm_ev mX10_plainHears 5 12 [some (vR 47), some (vI a1), some (vI a2)] (w.1 ++ []) w.2) := (ev_aload_n 7 dX10_plainHears_6 rfl rfl).trans ((ev_iload_n 8 dX10_plainHears_7 rfl rfl).trans ((ev_iload_n 9 dX10_plainHears_8 rfl rfl).trans ((ev_callv mX10_saying [vR 47, vI a1, vI a2] [] 12 dX10_plainHears_9 ml_10_416 k247 rfl oc47 ak47 rfl rfl (Nat.le_of_ble_eq_true rfl) (Nat.le_of_ble_eq_true rfl) rfl).trans (if_pos (show 4 < 5 from by decide)))))
theorem X10_plainHears_12 (h : mm_M) (a1 : Int) (a2 : Int) (s0 : Int) : mm_ev mX10_plainHears 5 12 [some (vR 47), some (vI a1), some (vI a2)] [vI s0] h = some ([vI (w32 (s0 * 2))], h) := (ev_iconst 13 (v := 2) dX10_plainHears_12 rfl rfl).trans ((ev_imul 14 dX10_plainHears_13 rfl).trans (ev_iret dX10_plainHears_14 rfl))
theorem dX10_holding_0 : decode mX10_holding.1 0 = .ok (.aload_n 0, 1) := by decide +kernel
theorem dX10_holding_1 : decode mX10_holding.1 1 = .ok (.getfield 111, 3) := by decide +kernel
theorem dX10_holding_4 : decode mX10_holding.1 4 = .ok (.iload_n 1, 1) := by decide +kernel
theorem dX10_holding_5 : decode mX10_holding.1 5 = .ok (.iaload, 1) := by decide +kernel
theorem dX10_holding_6 : decode mX10_holding.1 6 = .ok (.iconst 5, 1) := by decide +kernel
theorem dX10_holding_7 : decode mX10_holding.1 7 = .ok (.if_icmp .ne 25, 3) := by decide +kernel
theorem dX10_holding_10 : decode mX10_holding.1 10 = .ok (.aload_n 0, 1) := by decide +kernel
theorem dX10_holding_11 : decode mX10_holding.1 11 = .ok (.bipush 60, 2) := by decide +kernel
theorem dX10_holding_13 : decode mX10_holding.1 13 = .ok (.invokevirtual 404, 3) := by decide +kernel
theorem dX10_holding_16 : decode mX10_holding.1 16 = .ok (.aload_n 0, 1) := by decide +kernel
theorem dX10_holding_17 : decode mX10_holding.1 17 = .ok (.iload_n 1, 1) := by decide +kernel
theorem dX10_holding_18 : decode mX10_holding.1 18 = .ok (.iload_n 2, 1) := by decide +kernel
theorem dX10_holding_19 : decode mX10_holding.1 19 = .ok (.invokevirtual 431, 3) := by decide +kernel
theorem dX10_holding_22 : decode mX10_holding.1 22 = .ok (.istore_n 3, 1) := by decide +kernel
theorem dX10_holding_23 : decode mX10_holding.1 23 = .ok (.iload_n 3, 1) := by decide +kernel
theorem dX10_holding_24 : decode mX10_holding.1 24 = .ok (.aload_n 0, 1) := by decide +kernel
theorem dX10_holding_25 : decode mX10_holding.1 25 = .ok (.iload_n 1, 1) := by decide +kernel
theorem dX10_holding_26 : decode mX10_holding.1 26 = .ok (.iconst 2, 1) := by decide +kernel
theorem dX10_holding_27 : decode mX10_holding.1 27 = .ok (.invokevirtual 416, 3) := by decide +kernel
theorem dX10_holding_30 : decode mX10_holding.1 30 = .ok (.isub, 1) := by decide +kernel
theorem dX10_holding_31 : decode mX10_holding.1 31 = .ok (.ireturn, 1) := by decide +kernel
theorem dX10_holding_32 : decode mX10_holding.1 32 = .ok (.aload_n 0, 1) := by decide +kernel
theorem dX10_holding_33 : decode mX10_holding.1 33 = .ok (.getfield 111, 3) := by decide +kernel
theorem dX10_holding_36 : decode mX10_holding.1 36 = .ok (.iload_n 1, 1) := by decide +kernel
theorem dX10_holding_37 : decode mX10_holding.1 37 = .ok (.iaload, 1) := by decide +kernel
theorem dX10_holding_38 : decode mX10_holding.1 38 = .ok (.iconst 3, 1) := by decide +kernel
theorem dX10_holding_39 : decode mX10_holding.1 39 = .ok (.if_icmp .ne 12, 3) := by decide +kernel
theorem dX10_holding_42 : decode mX10_holding.1 42 = .ok (.aload_n 0, 1) := by decide +kernel
theorem dX10_holding_43 : decode mX10_holding.1 43 = .ok (.iload_n 1, 1) := by decide +kernel
theorem dX10_holding_44 : decode mX10_holding.1 44 = .ok (.iload_n 2, 1) := by decide +kernel
theorem dX10_holding_45 : decode mX10_holding.1 45 = .ok (.invokevirtual 431, 3) := by decide +kernel
theorem dX10_holding_48 : decode mX10_holding.1 48 = .ok (.goto 9, 3) := by decide +kernel
theorem dX10_holding_51 : decode mX10_holding.1 51 = .ok (.aload_n 0, 1) := by decide +kernel
theorem dX10_holding_52 : decode mX10_holding.1 52 = .ok (.iload_n 1, 1) := by decide +kernel
theorem dX10_holding_53 : decode mX10_holding.1 53 = .ok (.iload_n 2, 1) := by decide +kernel
theorem dX10_holding_54 : decode mX10_holding.1 54 = .ok (.invokevirtual 428, 3) := by decide +kernel
theorem dX10_holding_57 : decode mX10_holding.1 57 = .ok (.ireturn, 1) := by decide +kernel
theorem X10_holding_0 (h : mm_M) (a1 : Int) (a2 : Int) : mm_ev mX10_holding 5 0 [some (vR 47), some (vI a1), some (vI a2), none] [] h = if 0 ≤ a1 ∧ a1 < 50 then if ¬ (h 77 a1) = 5 then if 0 ≤ a1 ∧ a1 < 50 then if ¬ (h 77 a1) = 3 then (mm_call mX10_plainHolds [vR 47, vI a1, vI a2] h).bind (fun w => mm_ev mX10_holding 5 57 [some (vR 47), some (vI a1), some (vI a2), none] (w.1 ++ []) w.2) else (mm_call mX10_runnerHolds [vR 47, vI a1, vI a2] h).bind (fun w => mm_ev mX10_holding 5 48 [some (vR 47), some (vI a1), some (vI a2), none] (w.1 ++ []) w.2) else none else (mm_call mX10_ran [vR 47, vI 60] h).bind (fun w => mm_ev mX10_holding 5 16 [some (vR 47), some (vI a1), some (vI a2), none] (w.1 ++ []) w.2) else none := (ev_aload_n 1 dX10_holding_0 rfl rfl).trans ((ev_getF 4 77 dX10_holding_1 fl_10_111 oc47 ak47 rfl rf_47_50 rfl).trans ((ev_iload_n 5 dX10_holding_4 rfl rfl).trans ((ev_iald 6 50 dX10_holding_5 ak77 an77 rfl).trans (mm_ite ((ev_iconst 7 (v := 5) dX10_holding_6 rfl rfl).trans ((ev_ic_ne 32 10 dX10_holding_7 rfl rfl).trans (mm_ite ((ev_aload_n 33 dX10_holding_32 rfl rfl).trans ((ev_getF 36 77 dX10_holding_33 fl_10_111 oc47 ak47 rfl rf_47_50 rfl).trans ((ev_iload_n 37 dX10_holding_36 rfl rfl).trans ((ev_iald 38 50 dX10_holding_37 ak77 an77 rfl).trans (mm_ite ((ev_iconst 39 (v := 3) dX10_holding_38 rfl rfl).trans ((ev_ic_ne 51 42 dX10_holding_39 rfl rfl).trans (mm_ite ((ev_aload_n 52 dX10_holding_51 rfl rfl).trans ((ev_iload_n 53 dX10_holding_52 rfl rfl).trans ((ev_iload_n 54 dX10_holding_53 rfl rfl).trans ((ev_callv mX10_plainHolds [vR 47, vI a1, vI a2] [] 57 dX10_holding_54 ml_10_428 k251 rfl oc47 ak47 rfl rfl (Nat.le_of_ble_eq_true rfl) (Nat.le_of_ble_eq_true rfl) rfl).trans (if_pos (show 2 < 5 from by decide)))))) ((ev_aload_n 43 dX10_holding_42 rfl rfl).trans ((ev_iload_n 44 dX10_holding_43 rfl rfl).trans ((ev_iload_n 45 dX10_holding_44 rfl rfl).trans ((ev_callv mX10_runnerHolds [vR 47, vI a1, vI a2] [] 48 dX10_holding_45 ml_10_431 k252 rfl oc47 ak47 rfl rfl (Nat.le_of_ble_eq_true rfl) (Nat.le_of_ble_eq_true rfl) rfl).trans (if_pos (show 3 < 5 from by decide))))))))) (rfl)))))) ((ev_aload_n 11 dX10_holding_10 rfl rfl).trans ((ev_bipush 13 (v := 60) dX10_holding_11 rfl rfl).trans ((ev_callv mX10_ran [vR 47, vI 60] [] 16 dX10_holding_13 ml_10_404 k241 rfl oc47 ak47 rfl rfl (Nat.le_of_ble_eq_true rfl) (Nat.le_of_ble_eq_true rfl) rfl).trans (if_pos (show 1 < 5 from by decide)))))))) (rfl)))))
theorem X10_holding_c (h : mm_M) (a1 : Int) (a2 : Int) : mm_call mX10_holding [vR 47, vI a1, vI a2] h = if 0 ≤ a1 ∧ a1 < 50 then if ¬ (h 77 a1) = 5 then if 0 ≤ a1 ∧ a1 < 50 then if ¬ (h 77 a1) = 3 then (mm_call mX10_plainHolds [vR 47, vI a1, vI a2] h).bind (fun w => mm_ev mX10_holding 5 57 [some (vR 47), some (vI a1), some (vI a2), none] (w.1 ++ []) w.2) else (mm_call mX10_runnerHolds [vR 47, vI a1, vI a2] h).bind (fun w => mm_ev mX10_holding 5 48 [some (vR 47), some (vI a1), some (vI a2), none] (w.1 ++ []) w.2) else none else (mm_call mX10_ran [vR 47, vI 60] h).bind (fun w => mm_ev mX10_holding 5 16 [some (vR 47), some (vI a1), some (vI a2), none] (w.1 ++ []) w.2) else none := X10_holding_0 h a1 a2
theorem X10_holding_16 (h : mm_M) (a1 : Int) (a2 : Int) : mm_ev mX10_holding 5 16 [some (vR 47), some (vI a1), some (vI a2), none] [] h = (mm_call mX10_runnerHolds [vR 47, vI a1, vI a2] h).bind (fun w => mm_ev mX10_holding 5 22 [some (vR 47), some (vI a1), some (vI a2), none] (w.1 ++ []) w.2) := (ev_aload_n 17 dX10_holding_16 rfl rfl).trans ((ev_iload_n 18 dX10_holding_17 rfl rfl).trans ((ev_iload_n 19 dX10_holding_18 rfl rfl).trans ((ev_callv mX10_runnerHolds [vR 47, vI a1, vI a2] [] 22 dX10_holding_19 ml_10_431 k252 rfl oc47 ak47 rfl rfl (Nat.le_of_ble_eq_true rfl) (Nat.le_of_ble_eq_true rfl) rfl).trans (if_pos (show 3 < 5 from by decide)))))
theorem X10_holding_22 (h : mm_M) (a1 : Int) (a2 : Int) (s0 : Int) : mm_ev mX10_holding 5 22 [some (vR 47), some (vI a1), some (vI a2), none] [vI s0] h = (mm_call mX10_saying [vR 47, vI a1, vI 2] h).bind (fun w => mm_ev mX10_holding 5 30 [some (vR 47), some (vI a1), some (vI a2), some (vI s0)] (w.1 ++ [vI s0]) w.2) := (ev_istore_n 23 [some (vR 47), some (vI a1), some (vI a2), some (vI s0)] dX10_holding_22 rfl rfl).trans ((ev_iload_n 24 dX10_holding_23 rfl rfl).trans ((ev_aload_n 25 dX10_holding_24 rfl rfl).trans ((ev_iload_n 26 dX10_holding_25 rfl rfl).trans ((ev_iconst 27 (v := 2) dX10_holding_26 rfl rfl).trans ((ev_callv mX10_saying [vR 47, vI a1, vI 2] [vI s0] 30 dX10_holding_27 ml_10_416 k247 rfl oc47 ak47 rfl rfl (Nat.le_of_ble_eq_true rfl) (Nat.le_of_ble_eq_true rfl) rfl).trans (if_pos (show 4 < 5 from by decide)))))))
theorem X10_holding_30 (h : mm_M) (a1 : Int) (a2 : Int) (a3 : Int) (s0 : Int) (s1 : Int) : mm_ev mX10_holding 5 30 [some (vR 47), some (vI a1), some (vI a2), some (vI a3)] [vI s0, vI s1] h = some ([vI (w32 (s1 - s0))], h) := (ev_isub 31 dX10_holding_30 rfl).trans (ev_iret dX10_holding_31 rfl)
theorem X10_holding_48 (h : mm_M) (a1 : Int) (a2 : Int) (s0 : Int) : mm_ev mX10_holding 5 48 [some (vR 47), some (vI a1), some (vI a2), none] [vI s0] h = mm_ev mX10_holding 5 57 [some (vR 47), some (vI a1), some (vI a2), none] [vI s0] h := ev_goto 57 dX10_holding_48 rfl
theorem X10_holding_57 (h : mm_M) (a1 : Int) (a2 : Int) (s0 : Int) : mm_ev mX10_holding 5 57 [some (vR 47), some (vI a1), some (vI a2), none] [vI s0] h = some ([vI s0], h) := ev_iret dX10_holding_57 rfl
theorem dX10_runnerHolds_0 : decode mX10_runnerHolds.1 0 = .ok (.aload_n 0, 1) := by decide +kernel
theorem dX10_runnerHolds_1 : decode mX10_runnerHolds.1 1 = .ok (.bipush 40, 2) := by decide +kernel
theorem dX10_runnerHolds_3 : decode mX10_runnerHolds.1 3 = .ok (.invokevirtual 404, 3) := by decide +kernel
theorem dX10_runnerHolds_6 : decode mX10_runnerHolds.1 6 = .ok (.aload_n 0, 1) := by decide +kernel
theorem dX10_runnerHolds_7 : decode mX10_runnerHolds.1 7 = .ok (.iload_n 1, 1) := by decide +kernel
theorem dX10_runnerHolds_8 : decode mX10_runnerHolds.1 8 = .ok (.iload_n 2, 1) := by decide +kernel
theorem dX10_runnerHolds_9 : decode mX10_runnerHolds.1 9 = .ok (.invokevirtual 428, 3) := by decide +kernel
theorem dX10_runnerHolds_12 : decode mX10_runnerHolds.1 12 = .ok (.iconst 3, 1) := by decide +kernel
theorem dX10_runnerHolds_13 : decode mX10_runnerHolds.1 13 = .ok (.imul, 1) := by decide +kernel
theorem dX10_runnerHolds_14 : decode mX10_runnerHolds.1 14 = .ok (.ireturn, 1) := by decide +kernel
theorem X10_runnerHolds_0 (h : mm_M) (a1 : Int) (a2 : Int) : mm_ev mX10_runnerHolds 3 0 [some (vR 47), some (vI a1), some (vI a2)] [] h = (mm_call mX10_ran [vR 47, vI 40] h).bind (fun w => mm_ev mX10_runnerHolds 3 6 [some (vR 47), some (vI a1), some (vI a2)] (w.1 ++ []) w.2) := (ev_aload_n 1 dX10_runnerHolds_0 rfl rfl).trans ((ev_bipush 3 (v := 40) dX10_runnerHolds_1 rfl rfl).trans ((ev_callv mX10_ran [vR 47, vI 40] [] 6 dX10_runnerHolds_3 ml_10_404 k241 rfl oc47 ak47 rfl rfl (Nat.le_of_ble_eq_true rfl) (Nat.le_of_ble_eq_true rfl) rfl).trans (if_pos (show 1 < 3 from by decide))))
theorem X10_runnerHolds_c (h : mm_M) (a1 : Int) (a2 : Int) : mm_call mX10_runnerHolds [vR 47, vI a1, vI a2] h = (mm_call mX10_ran [vR 47, vI 40] h).bind (fun w => mm_ev mX10_runnerHolds 3 6 [some (vR 47), some (vI a1), some (vI a2)] (w.1 ++ []) w.2) := X10_runnerHolds_0 h a1 a2
theorem X10_runnerHolds_6 (h : mm_M) (a1 : Int) (a2 : Int) : mm_ev mX10_runnerHolds 3 6 [some (vR 47), some (vI a1), some (vI a2)] [] h = (mm_call mX10_plainHolds [vR 47, vI a1, vI a2] h).bind (fun w => mm_ev mX10_runnerHolds 3 12 [some (vR 47), some (vI a1), some (vI a2)] (w.1 ++ []) w.2) := (ev_aload_n 7 dX10_runnerHolds_6 rfl rfl).trans ((ev_iload_n 8 dX10_runnerHolds_7 rfl rfl).trans ((ev_iload_n 9 dX10_runnerHolds_8 rfl rfl).trans ((ev_callv mX10_plainHolds [vR 47, vI a1, vI a2] [] 12 dX10_runnerHolds_9 ml_10_428 k251 rfl oc47 ak47 rfl rfl (Nat.le_of_ble_eq_true rfl) (Nat.le_of_ble_eq_true rfl) rfl).trans (if_pos (show 2 < 3 from by decide)))))
theorem X10_runnerHolds_12 (h : mm_M) (a1 : Int) (a2 : Int) (s0 : Int) : mm_ev mX10_runnerHolds 3 12 [some (vR 47), some (vI a1), some (vI a2)] [vI s0] h = some ([vI (w32 (s0 * 3))], h) := (ev_iconst 13 (v := 3) dX10_runnerHolds_12 rfl rfl).trans ((ev_imul 14 dX10_runnerHolds_13 rfl).trans (ev_iret dX10_runnerHolds_14 rfl))
theorem dX10_plainHolds_0 : decode mX10_plainHolds.1 0 = .ok (.aload_n 0, 1) := by decide +kernel
theorem dX10_plainHolds_1 : decode mX10_plainHolds.1 1 = .ok (.bipush 11, 2) := by decide +kernel
theorem dX10_plainHolds_3 : decode mX10_plainHolds.1 3 = .ok (.invokevirtual 404, 3) := by decide +kernel
theorem dX10_plainHolds_6 : decode mX10_plainHolds.1 6 = .ok (.iload_n 2, 1) := by decide +kernel
theorem dX10_plainHolds_7 : decode mX10_plainHolds.1 7 = .ok (.iload_n 1, 1) := by decide +kernel
theorem dX10_plainHolds_8 : decode mX10_plainHolds.1 8 = .ok (.ixor, 1) := by decide +kernel
theorem dX10_plainHolds_9 : decode mX10_plainHolds.1 9 = .ok (.ireturn, 1) := by decide +kernel
theorem X10_plainHolds_0 (h : mm_M) (a1 : Int) (a2 : Int) : mm_ev mX10_plainHolds 2 0 [some (vR 47), some (vI a1), some (vI a2)] [] h = (mm_call mX10_ran [vR 47, vI 11] h).bind (fun w => mm_ev mX10_plainHolds 2 6 [some (vR 47), some (vI a1), some (vI a2)] (w.1 ++ []) w.2) := (ev_aload_n 1 dX10_plainHolds_0 rfl rfl).trans ((ev_bipush 3 (v := 11) dX10_plainHolds_1 rfl rfl).trans ((ev_callv mX10_ran [vR 47, vI 11] [] 6 dX10_plainHolds_3 ml_10_404 k241 rfl oc47 ak47 rfl rfl (Nat.le_of_ble_eq_true rfl) (Nat.le_of_ble_eq_true rfl) rfl).trans (if_pos (show 1 < 2 from by decide))))
theorem X10_plainHolds_c (h : mm_M) (a1 : Int) (a2 : Int) : mm_call mX10_plainHolds [vR 47, vI a1, vI a2] h = (mm_call mX10_ran [vR 47, vI 11] h).bind (fun w => mm_ev mX10_plainHolds 2 6 [some (vR 47), some (vI a1), some (vI a2)] (w.1 ++ []) w.2) := X10_plainHolds_0 h a1 a2
theorem X10_plainHolds_6 (h : mm_M) (a1 : Int) (a2 : Int) : mm_ev mX10_plainHolds 2 6 [some (vR 47), some (vI a1), some (vI a2)] [] h = some ([vI (iXor a2 a1)], h) := (ev_iload_n 7 dX10_plainHolds_6 rfl rfl).trans ((ev_iload_n 8 dX10_plainHolds_7 rfl rfl).trans ((ev_ixor 9 dX10_plainHolds_8 rfl).trans (ev_iret dX10_plainHolds_9 rfl)))
theorem dX10_telling_0 : decode mX10_telling.1 0 = .ok (.aload_n 0, 1) := by decide +kernel
theorem dX10_telling_1 : decode mX10_telling.1 1 = .ok (.getfield 111, 3) := by decide +kernel
theorem dX10_telling_4 : decode mX10_telling.1 4 = .ok (.iload_n 1, 1) := by decide +kernel
theorem dX10_telling_5 : decode mX10_telling.1 5 = .ok (.iaload, 1) := by decide +kernel
theorem dX10_telling_6 : decode mX10_telling.1 6 = .ok (.iconst 4, 1) := by decide +kernel
theorem dX10_telling_7 : decode mX10_telling.1 7 = .ok (.if_icmp .ne 18, 3) := by decide +kernel
theorem dX10_telling_10 : decode mX10_telling.1 10 = .ok (.aload_n 0, 1) := by decide +kernel
theorem dX10_telling_11 : decode mX10_telling.1 11 = .ok (.bipush 50, 2) := by decide +kernel
theorem dX10_telling_13 : decode mX10_telling.1 13 = .ok (.invokevirtual 404, 3) := by decide +kernel
theorem dX10_telling_16 : decode mX10_telling.1 16 = .ok (.aload_n 0, 1) := by decide +kernel
theorem dX10_telling_17 : decode mX10_telling.1 17 = .ok (.iload_n 1, 1) := by decide +kernel
theorem dX10_telling_18 : decode mX10_telling.1 18 = .ok (.iload_n 2, 1) := by decide +kernel
theorem dX10_telling_19 : decode mX10_telling.1 19 = .ok (.invokevirtual 437, 3) := by decide +kernel
theorem dX10_telling_22 : decode mX10_telling.1 22 = .ok (.iconst 5, 1) := by decide +kernel
theorem dX10_telling_23 : decode mX10_telling.1 23 = .ok (.ixor, 1) := by decide +kernel
theorem dX10_telling_24 : decode mX10_telling.1 24 = .ok (.ireturn, 1) := by decide +kernel
theorem dX10_telling_25 : decode mX10_telling.1 25 = .ok (.aload_n 0, 1) := by decide +kernel
theorem dX10_telling_26 : decode mX10_telling.1 26 = .ok (.getfield 111, 3) := by decide +kernel
theorem dX10_telling_29 : decode mX10_telling.1 29 = .ok (.iload_n 1, 1) := by decide +kernel
theorem dX10_telling_30 : decode mX10_telling.1 30 = .ok (.iaload, 1) := by decide +kernel
theorem dX10_telling_31 : decode mX10_telling.1 31 = .ok (.iconst 5, 1) := by decide +kernel
theorem dX10_telling_32 : decode mX10_telling.1 32 = .ok (.if_icmp .ne 18, 3) := by decide +kernel
theorem dX10_telling_35 : decode mX10_telling.1 35 = .ok (.aload_n 0, 1) := by decide +kernel
theorem dX10_telling_36 : decode mX10_telling.1 36 = .ok (.bipush 61, 2) := by decide +kernel
theorem dX10_telling_38 : decode mX10_telling.1 38 = .ok (.invokevirtual 404, 3) := by decide +kernel
theorem dX10_telling_41 : decode mX10_telling.1 41 = .ok (.aload_n 0, 1) := by decide +kernel
theorem dX10_telling_42 : decode mX10_telling.1 42 = .ok (.iload_n 1, 1) := by decide +kernel
theorem dX10_telling_43 : decode mX10_telling.1 43 = .ok (.iload_n 2, 1) := by decide +kernel
theorem dX10_telling_44 : decode mX10_telling.1 44 = .ok (.invokevirtual 437, 3) := by decide +kernel
theorem dX10_telling_47 : decode mX10_telling.1 47 = .ok (.iconst 1, 1) := by decide +kernel
theorem dX10_telling_48 : decode mX10_telling.1 48 = .ok (.iadd, 1) := by decide +kernel
theorem dX10_telling_49 : decode mX10_telling.1 49 = .ok (.ireturn, 1) := by decide +kernel
theorem dX10_telling_50 : decode mX10_telling.1 50 = .ok (.aload_n 0, 1) := by decide +kernel
theorem dX10_telling_51 : decode mX10_telling.1 51 = .ok (.iload_n 1, 1) := by decide +kernel
theorem dX10_telling_52 : decode mX10_telling.1 52 = .ok (.iload_n 2, 1) := by decide +kernel
theorem dX10_telling_53 : decode mX10_telling.1 53 = .ok (.invokevirtual 437, 3) := by decide +kernel
theorem dX10_telling_56 : decode mX10_telling.1 56 = .ok (.ireturn, 1) := by decide +kernel
theorem X10_telling_0 (h : mm_M) (a1 : Int) (a2 : Int) : mm_ev mX10_telling 9 0 [some (vR 47), some (vI a1), some (vI a2)] [] h = if 0 ≤ a1 ∧ a1 < 50 then if ¬ (h 77 a1) = 4 then if 0 ≤ a1 ∧ a1 < 50 then if ¬ (h 77 a1) = 5 then (mm_call mX10_plainTells [vR 47, vI a1, vI a2] h).bind (fun w => mm_ev mX10_telling 9 56 [some (vR 47), some (vI a1), some (vI a2)] (w.1 ++ []) w.2) else (mm_call mX10_ran [vR 47, vI 61] h).bind (fun w => mm_ev mX10_telling 9 41 [some (vR 47), some (vI a1), some (vI a2)] (w.1 ++ []) w.2) else none else (mm_call mX10_ran [vR 47, vI 50] h).bind (fun w => mm_ev mX10_telling 9 16 [some (vR 47), some (vI a1), some (vI a2)] (w.1 ++ []) w.2) else none := (ev_aload_n 1 dX10_telling_0 rfl rfl).trans ((ev_getF 4 77 dX10_telling_1 fl_10_111 oc47 ak47 rfl rf_47_50 rfl).trans ((ev_iload_n 5 dX10_telling_4 rfl rfl).trans ((ev_iald 6 50 dX10_telling_5 ak77 an77 rfl).trans (mm_ite ((ev_iconst 7 (v := 4) dX10_telling_6 rfl rfl).trans ((ev_ic_ne 25 10 dX10_telling_7 rfl rfl).trans (mm_ite ((ev_aload_n 26 dX10_telling_25 rfl rfl).trans ((ev_getF 29 77 dX10_telling_26 fl_10_111 oc47 ak47 rfl rf_47_50 rfl).trans ((ev_iload_n 30 dX10_telling_29 rfl rfl).trans ((ev_iald 31 50 dX10_telling_30 ak77 an77 rfl).trans (mm_ite ((ev_iconst 32 (v := 5) dX10_telling_31 rfl rfl).trans ((ev_ic_ne 50 35 dX10_telling_32 rfl rfl).trans (mm_ite ((ev_aload_n 51 dX10_telling_50 rfl rfl).trans ((ev_iload_n 52 dX10_telling_51 rfl rfl).trans ((ev_iload_n 53 dX10_telling_52 rfl rfl).trans ((ev_callv mX10_plainTells [vR 47, vI a1, vI a2] [] 56 dX10_telling_53 ml_10_437 k254 rfl oc47 ak47 rfl rfl (Nat.le_of_ble_eq_true rfl) (Nat.le_of_ble_eq_true rfl) rfl).trans (if_pos (show 8 < 9 from by decide)))))) ((ev_aload_n 36 dX10_telling_35 rfl rfl).trans ((ev_bipush 38 (v := 61) dX10_telling_36 rfl rfl).trans ((ev_callv mX10_ran [vR 47, vI 61] [] 41 dX10_telling_38 ml_10_404 k241 rfl oc47 ak47 rfl rfl (Nat.le_of_ble_eq_true rfl) (Nat.le_of_ble_eq_true rfl) rfl).trans (if_pos (show 1 < 9 from by decide)))))))) (rfl)))))) ((ev_aload_n 11 dX10_telling_10 rfl rfl).trans ((ev_bipush 13 (v := 50) dX10_telling_11 rfl rfl).trans ((ev_callv mX10_ran [vR 47, vI 50] [] 16 dX10_telling_13 ml_10_404 k241 rfl oc47 ak47 rfl rfl (Nat.le_of_ble_eq_true rfl) (Nat.le_of_ble_eq_true rfl) rfl).trans (if_pos (show 1 < 9 from by decide)))))))) (rfl)))))
theorem X10_telling_c (h : mm_M) (a1 : Int) (a2 : Int) : mm_call mX10_telling [vR 47, vI a1, vI a2] h = if 0 ≤ a1 ∧ a1 < 50 then if ¬ (h 77 a1) = 4 then if 0 ≤ a1 ∧ a1 < 50 then if ¬ (h 77 a1) = 5 then (mm_call mX10_plainTells [vR 47, vI a1, vI a2] h).bind (fun w => mm_ev mX10_telling 9 56 [some (vR 47), some (vI a1), some (vI a2)] (w.1 ++ []) w.2) else (mm_call mX10_ran [vR 47, vI 61] h).bind (fun w => mm_ev mX10_telling 9 41 [some (vR 47), some (vI a1), some (vI a2)] (w.1 ++ []) w.2) else none else (mm_call mX10_ran [vR 47, vI 50] h).bind (fun w => mm_ev mX10_telling 9 16 [some (vR 47), some (vI a1), some (vI a2)] (w.1 ++ []) w.2) else none := X10_telling_0 h a1 a2
theorem X10_telling_16 (h : mm_M) (a1 : Int) (a2 : Int) : mm_ev mX10_telling 9 16 [some (vR 47), some (vI a1), some (vI a2)] [] h = (mm_call mX10_plainTells [vR 47, vI a1, vI a2] h).bind (fun w => mm_ev mX10_telling 9 22 [some (vR 47), some (vI a1), some (vI a2)] (w.1 ++ []) w.2) := (ev_aload_n 17 dX10_telling_16 rfl rfl).trans ((ev_iload_n 18 dX10_telling_17 rfl rfl).trans ((ev_iload_n 19 dX10_telling_18 rfl rfl).trans ((ev_callv mX10_plainTells [vR 47, vI a1, vI a2] [] 22 dX10_telling_19 ml_10_437 k254 rfl oc47 ak47 rfl rfl (Nat.le_of_ble_eq_true rfl) (Nat.le_of_ble_eq_true rfl) rfl).trans (if_pos (show 8 < 9 from by decide)))))
theorem X10_telling_22 (h : mm_M) (a1 : Int) (a2 : Int) (s0 : Int) : mm_ev mX10_telling 9 22 [some (vR 47), some (vI a1), some (vI a2)] [vI s0] h = some ([vI (iXor s0 5)], h) := (ev_iconst 23 (v := 5) dX10_telling_22 rfl rfl).trans ((ev_ixor 24 dX10_telling_23 rfl).trans (ev_iret dX10_telling_24 rfl))
theorem X10_telling_41 (h : mm_M) (a1 : Int) (a2 : Int) : mm_ev mX10_telling 9 41 [some (vR 47), some (vI a1), some (vI a2)] [] h = (mm_call mX10_plainTells [vR 47, vI a1, vI a2] h).bind (fun w => mm_ev mX10_telling 9 47 [some (vR 47), some (vI a1), some (vI a2)] (w.1 ++ []) w.2) := (ev_aload_n 42 dX10_telling_41 rfl rfl).trans ((ev_iload_n 43 dX10_telling_42 rfl rfl).trans ((ev_iload_n 44 dX10_telling_43 rfl rfl).trans ((ev_callv mX10_plainTells [vR 47, vI a1, vI a2] [] 47 dX10_telling_44 ml_10_437 k254 rfl oc47 ak47 rfl rfl (Nat.le_of_ble_eq_true rfl) (Nat.le_of_ble_eq_true rfl) rfl).trans (if_pos (show 8 < 9 from by decide)))))
theorem X10_telling_47 (h : mm_M) (a1 : Int) (a2 : Int) (s0 : Int) : mm_ev mX10_telling 9 47 [some (vR 47), some (vI a1), some (vI a2)] [vI s0] h = some ([vI (w32 (s0 + 1))], h) := (ev_iconst 48 (v := 1) dX10_telling_47 rfl rfl).trans ((ev_iadd 49 dX10_telling_48 rfl).trans (ev_iret dX10_telling_49 rfl))
theorem X10_telling_56 (h : mm_M) (a1 : Int) (a2 : Int) (s0 : Int) : mm_ev mX10_telling 9 56 [some (vR 47), some (vI a1), some (vI a2)] [vI s0] h = some ([vI s0], h) := ev_iret dX10_telling_56 rfl
theorem dX10_plainTells_0 : decode mX10_plainTells.1 0 = .ok (.aload_n 0, 1) := by decide +kernel
theorem dX10_plainTells_1 : decode mX10_plainTells.1 1 = .ok (.iconst 2, 1) := by decide +kernel
theorem dX10_plainTells_2 : decode mX10_plainTells.1 2 = .ok (.invokevirtual 404, 3) := by decide +kernel
theorem dX10_plainTells_5 : decode mX10_plainTells.1 5 = .ok (.aload_n 0, 1) := by decide +kernel
theorem dX10_plainTells_6 : decode mX10_plainTells.1 6 = .ok (.iload_n 1, 1) := by decide +kernel
theorem dX10_plainTells_7 : decode mX10_plainTells.1 7 = .ok (.iload_n 2, 1) := by decide +kernel
theorem dX10_plainTells_8 : decode mX10_plainTells.1 8 = .ok (.invokevirtual 434, 3) := by decide +kernel
theorem dX10_plainTells_11 : decode mX10_plainTells.1 11 = .ok (.istore_n 3, 1) := by decide +kernel
theorem dX10_plainTells_12 : decode mX10_plainTells.1 12 = .ok (.iload_n 3, 1) := by decide +kernel
theorem dX10_plainTells_13 : decode mX10_plainTells.1 13 = .ok (.aload_n 0, 1) := by decide +kernel
theorem dX10_plainTells_14 : decode mX10_plainTells.1 14 = .ok (.iload_n 1, 1) := by decide +kernel
theorem dX10_plainTells_15 : decode mX10_plainTells.1 15 = .ok (.iconst 1, 1) := by decide +kernel
theorem dX10_plainTells_16 : decode mX10_plainTells.1 16 = .ok (.invokevirtual 425, 3) := by decide +kernel
theorem dX10_plainTells_19 : decode mX10_plainTells.1 19 = .ok (.isub, 1) := by decide +kernel
theorem dX10_plainTells_20 : decode mX10_plainTells.1 20 = .ok (.ireturn, 1) := by decide +kernel
theorem X10_plainTells_0 (h : mm_M) (a1 : Int) (a2 : Int) : mm_ev mX10_plainTells 8 0 [some (vR 47), some (vI a1), some (vI a2), none] [] h = (mm_call mX10_ran [vR 47, vI 2] h).bind (fun w => mm_ev mX10_plainTells 8 5 [some (vR 47), some (vI a1), some (vI a2), none] (w.1 ++ []) w.2) := (ev_aload_n 1 dX10_plainTells_0 rfl rfl).trans ((ev_iconst 2 (v := 2) dX10_plainTells_1 rfl rfl).trans ((ev_callv mX10_ran [vR 47, vI 2] [] 5 dX10_plainTells_2 ml_10_404 k241 rfl oc47 ak47 rfl rfl (Nat.le_of_ble_eq_true rfl) (Nat.le_of_ble_eq_true rfl) rfl).trans (if_pos (show 1 < 8 from by decide))))
theorem X10_plainTells_c (h : mm_M) (a1 : Int) (a2 : Int) : mm_call mX10_plainTells [vR 47, vI a1, vI a2] h = (mm_call mX10_ran [vR 47, vI 2] h).bind (fun w => mm_ev mX10_plainTells 8 5 [some (vR 47), some (vI a1), some (vI a2), none] (w.1 ++ []) w.2) := X10_plainTells_0 h a1 a2
theorem X10_plainTells_5 (h : mm_M) (a1 : Int) (a2 : Int) : mm_ev mX10_plainTells 8 5 [some (vR 47), some (vI a1), some (vI a2), none] [] h = (mm_call mX10_hearing [vR 47, vI a1, vI a2] h).bind (fun w => mm_ev mX10_plainTells 8 11 [some (vR 47), some (vI a1), some (vI a2), none] (w.1 ++ []) w.2) := (ev_aload_n 6 dX10_plainTells_5 rfl rfl).trans ((ev_iload_n 7 dX10_plainTells_6 rfl rfl).trans ((ev_iload_n 8 dX10_plainTells_7 rfl rfl).trans ((ev_callv mX10_hearing [vR 47, vI a1, vI a2] [] 11 dX10_plainTells_8 ml_10_434 k250 rfl oc47 ak47 rfl rfl (Nat.le_of_ble_eq_true rfl) (Nat.le_of_ble_eq_true rfl) rfl).trans (if_pos (show 7 < 8 from by decide)))))
theorem X10_plainTells_11 (h : mm_M) (a1 : Int) (a2 : Int) (s0 : Int) : mm_ev mX10_plainTells 8 11 [some (vR 47), some (vI a1), some (vI a2), none] [vI s0] h = (mm_call mX10_holding [vR 47, vI a1, vI 1] h).bind (fun w => mm_ev mX10_plainTells 8 19 [some (vR 47), some (vI a1), some (vI a2), some (vI s0)] (w.1 ++ [vI s0]) w.2) := (ev_istore_n 12 [some (vR 47), some (vI a1), some (vI a2), some (vI s0)] dX10_plainTells_11 rfl rfl).trans ((ev_iload_n 13 dX10_plainTells_12 rfl rfl).trans ((ev_aload_n 14 dX10_plainTells_13 rfl rfl).trans ((ev_iload_n 15 dX10_plainTells_14 rfl rfl).trans ((ev_iconst 16 (v := 1) dX10_plainTells_15 rfl rfl).trans ((ev_callv mX10_holding [vR 47, vI a1, vI 1] [vI s0] 19 dX10_plainTells_16 ml_10_425 k253 rfl oc47 ak47 rfl rfl (Nat.le_of_ble_eq_true rfl) (Nat.le_of_ble_eq_true rfl) rfl).trans (if_pos (show 5 < 8 from by decide)))))))
theorem X10_plainTells_19 (h : mm_M) (a1 : Int) (a2 : Int) (a3 : Int) (s0 : Int) (s1 : Int) : mm_ev mX10_plainTells 8 19 [some (vR 47), some (vI a1), some (vI a2), some (vI a3)] [vI s0, vI s1] h = some ([vI (w32 (s1 - s0))], h) := (ev_isub 20 dX10_plainTells_19 rfl).trans (ev_iret dX10_plainTells_20 rfl)
theorem dX10_body_0 : decode mX10_body.1 0 = .ok (.iload_n 1, 1) := by decide +kernel
theorem dX10_body_1 : decode mX10_body.1 1 = .ok (.iconst 0, 1) := by decide +kernel
theorem dX10_body_2 : decode mX10_body.1 2 = .ok (.bipush 7, 2) := by decide +kernel
theorem dX10_body_4 : decode mX10_body.1 4 = .ok (.invokestatic 136, 3) := by decide +kernel
theorem dX10_body_7 : decode mX10_body.1 7 = .ok (.ifCond .ne 5, 3) := by decide +kernel
theorem dX10_body_10 : decode mX10_body.1 10 = .ok (.iconst (-1), 1) := by decide +kernel
theorem dX10_body_11 : decode mX10_body.1 11 = .ok (.ireturn, 1) := by decide +kernel
theorem dX10_body_12 : decode mX10_body.1 12 = .ok (.aload_n 0, 1) := by decide +kernel
theorem dX10_body_13 : decode mX10_body.1 13 = .ok (.getfield 398, 3) := by decide +kernel
theorem dX10_body_16 : decode mX10_body.1 16 = .ok (.bipush 50, 2) := by decide +kernel
theorem dX10_body_18 : decode mX10_body.1 18 = .ok (.if_icmp .ne 6, 3) := by decide +kernel
theorem dX10_body_21 : decode mX10_body.1 21 = .ok (.bipush (-3), 2) := by decide +kernel
theorem dX10_body_23 : decode mX10_body.1 23 = .ok (.ireturn, 1) := by decide +kernel
theorem dX10_body_24 : decode mX10_body.1 24 = .ok (.aload_n 0, 1) := by decide +kernel
theorem dX10_body_25 : decode mX10_body.1 25 = .ok (.getfield 111, 3) := by decide +kernel
theorem dX10_body_28 : decode mX10_body.1 28 = .ok (.aload_n 0, 1) := by decide +kernel
theorem dX10_body_29 : decode mX10_body.1 29 = .ok (.getfield 398, 3) := by decide +kernel
theorem dX10_body_32 : decode mX10_body.1 32 = .ok (.iload_n 1, 1) := by decide +kernel
theorem dX10_body_33 : decode mX10_body.1 33 = .ok (.iastore, 1) := by decide +kernel
theorem dX10_body_34 : decode mX10_body.1 34 = .ok (.aload_n 0, 1) := by decide +kernel
theorem dX10_body_35 : decode mX10_body.1 35 = .ok (.dup, 1) := by decide +kernel
theorem dX10_body_36 : decode mX10_body.1 36 = .ok (.getfield 398, 3) := by decide +kernel
theorem dX10_body_39 : decode mX10_body.1 39 = .ok (.iconst 1, 1) := by decide +kernel
theorem dX10_body_40 : decode mX10_body.1 40 = .ok (.iadd, 1) := by decide +kernel
theorem dX10_body_41 : decode mX10_body.1 41 = .ok (.putfield 398, 3) := by decide +kernel
theorem dX10_body_44 : decode mX10_body.1 44 = .ok (.aload_n 0, 1) := by decide +kernel
theorem dX10_body_45 : decode mX10_body.1 45 = .ok (.getfield 398, 3) := by decide +kernel
theorem dX10_body_48 : decode mX10_body.1 48 = .ok (.iconst 1, 1) := by decide +kernel
theorem dX10_body_49 : decode mX10_body.1 49 = .ok (.isub, 1) := by decide +kernel
theorem dX10_body_50 : decode mX10_body.1 50 = .ok (.ireturn, 1) := by decide +kernel
theorem X10_body_0 (h : mm_M) (a1 : Int) : mm_ev mX10_body 2 0 [some (vR 47), some (vI a1)] [] h = (mm_call mX10_in [vI a1, vI 0, vI 7] h).bind (fun w => mm_ev mX10_body 2 7 [some (vR 47), some (vI a1)] (w.1 ++ []) w.2) := (ev_iload_n 1 dX10_body_0 rfl rfl).trans ((ev_iconst 2 (v := 0) dX10_body_1 rfl rfl).trans ((ev_bipush 4 (v := 7) dX10_body_2 rfl rfl).trans ((ev_calls mX10_in [vI a1, vI 0, vI 7] [] 7 dX10_body_4 ml_10_136 k143 rfl rfl rfl (Nat.le_of_ble_eq_true rfl) (Nat.le_of_ble_eq_true rfl) rfl).trans (if_pos (show 1 < 2 from by decide)))))
theorem X10_body_c (h : mm_M) (a1 : Int) : mm_call mX10_body [vR 47, vI a1] h = (mm_call mX10_in [vI a1, vI 0, vI 7] h).bind (fun w => mm_ev mX10_body 2 7 [some (vR 47), some (vI a1)] (w.1 ++ []) w.2) := X10_body_0 h a1
theorem X10_body_7 (h : mm_M) (a1 : Int) (s0 : Int) : mm_ev mX10_body 2 7 [some (vR 47), some (vI a1)] [vI s0] h = if ¬ s0 = 0 then if ¬ (h 47 49) = 50 then if 0 ≤ (h 47 49) ∧ (h 47 49) < 50 then some ([vI (w32 (((mUp (mUp h 77 (h 47 49) a1) 47 49 (w32 (((mUp h 77 (h 47 49) a1) 47 49) + 1))) 47 49) - 1))], mUp (mUp h 77 (h 47 49) a1) 47 49 (w32 (((mUp h 77 (h 47 49) a1) 47 49) + 1))) else none else some ([vI (-3)], h) else some ([vI (-1)], h) := (ev_if_ne 12 10 dX10_body_7 rfl rfl).trans (mm_ite ((ev_aload_n 13 dX10_body_12 rfl rfl).trans ((ev_getI 16 49 dX10_body_13 fl_10_398 oc47 ak47 (by decide) rfl rfl).trans ((ev_bipush 18 (v := 50) dX10_body_16 rfl rfl).trans ((ev_ic_ne 24 21 dX10_body_18 rfl rfl).trans (mm_ite ((ev_aload_n 25 dX10_body_24 rfl rfl).trans ((ev_getF 28 77 dX10_body_25 fl_10_111 oc47 ak47 rfl rf_47_50 rfl).trans ((ev_aload_n 29 dX10_body_28 rfl rfl).trans ((ev_getI 32 49 dX10_body_29 fl_10_398 oc47 ak47 (by decide) rfl rfl).trans ((ev_iload_n 33 dX10_body_32 rfl rfl).trans ((ev_iast 34 50 dX10_body_33 ak77 an77 rfl).trans (mm_ite ((ev_aload_n 35 dX10_body_34 rfl rfl).trans ((ev_dup 36 dX10_body_35 rfl rfl).trans ((ev_getI 39 49 dX10_body_36 fl_10_398 oc47 ak47 (by decide) rfl rfl).trans ((ev_iconst 40 (v := 1) dX10_body_39 rfl rfl).trans ((ev_iadd 41 dX10_body_40 rfl).trans ((ev_putI 44 49 dX10_body_41 fl_10_398 oc47 ak47 rfl rfl rfl).trans ((ev_aload_n 45 dX10_body_44 rfl rfl).trans ((ev_getI 48 49 dX10_body_45 fl_10_398 oc47 ak47 (by decide) rfl rfl).trans ((ev_iconst 49 (v := 1) dX10_body_48 rfl rfl).trans ((ev_isub 50 dX10_body_49 rfl).trans (ev_iret dX10_body_50 rfl))))))))))) (rfl)))))))) ((ev_bipush 23 (v := (-3)) dX10_body_21 rfl rfl).trans (ev_iret dX10_body_23 rfl))))))) ((ev_iconst 11 (v := (-1)) dX10_body_10 rfl rfl).trans (ev_iret dX10_body_11 rfl)))
theorem dX10_redo_0 : decode mX10_redo.1 0 = .ok (.aload_n 0, 1) := by decide +kernel
theorem dX10_redo_1 : decode mX10_redo.1 1 = .ok (.getfield 160, 3) := by decide +kernel
theorem dX10_redo_4 : decode mX10_redo.1 4 = .ok (.ifCond .ne 6, 3) := by decide +kernel
theorem dX10_redo_7 : decode mX10_redo.1 7 = .ok (.bipush (-5), 2) := by decide +kernel
theorem dX10_redo_9 : decode mX10_redo.1 9 = .ok (.ireturn, 1) := by decide +kernel
theorem dX10_redo_10 : decode mX10_redo.1 10 = .ok (.aload_n 0, 1) := by decide +kernel
theorem dX10_redo_11 : decode mX10_redo.1 11 = .ok (.aload_n 0, 1) := by decide +kernel
theorem dX10_redo_12 : decode mX10_redo.1 12 = .ok (.getfield 43, 3) := by decide +kernel
theorem dX10_redo_15 : decode mX10_redo.1 15 = .ok (.aload_n 0, 1) := by decide +kernel
theorem dX10_redo_16 : decode mX10_redo.1 16 = .ok (.getfield 163, 3) := by decide +kernel
theorem dX10_redo_19 : decode mX10_redo.1 19 = .ok (.iaload, 1) := by decide +kernel
theorem dX10_redo_20 : decode mX10_redo.1 20 = .ok (.aload_n 0, 1) := by decide +kernel
theorem dX10_redo_21 : decode mX10_redo.1 21 = .ok (.getfield 46, 3) := by decide +kernel
theorem dX10_redo_24 : decode mX10_redo.1 24 = .ok (.aload_n 0, 1) := by decide +kernel
theorem dX10_redo_25 : decode mX10_redo.1 25 = .ok (.getfield 163, 3) := by decide +kernel
theorem dX10_redo_28 : decode mX10_redo.1 28 = .ok (.iaload, 1) := by decide +kernel
theorem dX10_redo_29 : decode mX10_redo.1 29 = .ok (.aload_n 0, 1) := by decide +kernel
theorem dX10_redo_30 : decode mX10_redo.1 30 = .ok (.getfield 52, 3) := by decide +kernel
theorem dX10_redo_33 : decode mX10_redo.1 33 = .ok (.aload_n 0, 1) := by decide +kernel
theorem dX10_redo_34 : decode mX10_redo.1 34 = .ok (.getfield 163, 3) := by decide +kernel
theorem dX10_redo_37 : decode mX10_redo.1 37 = .ok (.iaload, 1) := by decide +kernel
theorem dX10_redo_38 : decode mX10_redo.1 38 = .ok (.invokevirtual 166, 3) := by decide +kernel
theorem dX10_redo_41 : decode mX10_redo.1 41 = .ok (.aload_n 0, 1) := by decide +kernel
theorem dX10_redo_42 : decode mX10_redo.1 42 = .ok (.dup, 1) := by decide +kernel
theorem dX10_redo_43 : decode mX10_redo.1 43 = .ok (.getfield 163, 3) := by decide +kernel
theorem dX10_redo_46 : decode mX10_redo.1 46 = .ok (.iconst 1, 1) := by decide +kernel
theorem dX10_redo_47 : decode mX10_redo.1 47 = .ok (.iadd, 1) := by decide +kernel
theorem dX10_redo_48 : decode mX10_redo.1 48 = .ok (.putfield 163, 3) := by decide +kernel
theorem dX10_redo_51 : decode mX10_redo.1 51 = .ok (.aload_n 0, 1) := by decide +kernel
theorem dX10_redo_52 : decode mX10_redo.1 52 = .ok (.dup, 1) := by decide +kernel
theorem dX10_redo_53 : decode mX10_redo.1 53 = .ok (.getfield 160, 3) := by decide +kernel
theorem dX10_redo_56 : decode mX10_redo.1 56 = .ok (.iconst 1, 1) := by decide +kernel
theorem dX10_redo_57 : decode mX10_redo.1 57 = .ok (.isub, 1) := by decide +kernel
theorem dX10_redo_58 : decode mX10_redo.1 58 = .ok (.putfield 160, 3) := by decide +kernel
theorem dX10_redo_61 : decode mX10_redo.1 61 = .ok (.aload_n 0, 1) := by decide +kernel
theorem dX10_redo_62 : decode mX10_redo.1 62 = .ok (.getfield 160, 3) := by decide +kernel
theorem dX10_redo_65 : decode mX10_redo.1 65 = .ok (.ireturn, 1) := by decide +kernel
theorem X10_redo_0 (h : mm_M) : mm_ev mX10_redo 2 0 [some (vR 47)] [] h = if ¬ (h 47 15) = 0 then if 0 ≤ (h 47 14) ∧ (h 47 14) < 40 then if 0 ≤ (h 47 14) ∧ (h 47 14) < 40 then if 0 ≤ (h 47 14) ∧ (h 47 14) < 40 then (mm_call mX10_lays [vR 47, vI (h 56 (h 47 14)), vI (h 57 (h 47 14)), vI (h 59 (h 47 14))] h).bind (fun w => mm_ev mX10_redo 2 41 [some (vR 47)] (w.1 ++ []) w.2) else none else none else none else some ([vI (-5)], h) := (ev_aload_n 1 dX10_redo_0 rfl rfl).trans ((ev_getI 4 15 dX10_redo_1 fl_10_160 oc47 ak47 (by decide) rfl rfl).trans ((ev_if_ne 10 7 dX10_redo_4 rfl rfl).trans (mm_ite ((ev_aload_n 11 dX10_redo_10 rfl rfl).trans ((ev_aload_n 12 dX10_redo_11 rfl rfl).trans ((ev_getF 15 56 dX10_redo_12 fl_10_43 oc47 ak47 rfl rf_47_16 rfl).trans ((ev_aload_n 16 dX10_redo_15 rfl rfl).trans ((ev_getI 19 14 dX10_redo_16 fl_10_163 oc47 ak47 (by decide) rfl rfl).trans ((ev_iald 20 40 dX10_redo_19 ak56 an56 rfl).trans (mm_ite ((ev_aload_n 21 dX10_redo_20 rfl rfl).trans ((ev_getF 24 57 dX10_redo_21 fl_10_46 oc47 ak47 rfl rf_47_17 rfl).trans ((ev_aload_n 25 dX10_redo_24 rfl rfl).trans ((ev_getI 28 14 dX10_redo_25 fl_10_163 oc47 ak47 (by decide) rfl rfl).trans ((ev_iald 29 40 dX10_redo_28 ak57 an57 rfl).trans (mm_ite ((ev_aload_n 30 dX10_redo_29 rfl rfl).trans ((ev_getF 33 59 dX10_redo_30 fl_10_52 oc47 ak47 rfl rf_47_19 rfl).trans ((ev_aload_n 34 dX10_redo_33 rfl rfl).trans ((ev_getI 37 14 dX10_redo_34 fl_10_163 oc47 ak47 (by decide) rfl rfl).trans ((ev_iald 38 40 dX10_redo_37 ak59 an59 rfl).trans (mm_ite ((ev_callv mX10_lays [vR 47, vI (h 56 (h 47 14)), vI (h 57 (h 47 14)), vI (h 59 (h 47 14))] [] 41 dX10_redo_38 ml_10_166 k151 rfl oc47 ak47 rfl rfl (Nat.le_of_ble_eq_true rfl) (Nat.le_of_ble_eq_true rfl) rfl).trans (if_pos (show 1 < 2 from by decide))) (rfl))))))) (rfl))))))) (rfl)))))))) ((ev_bipush 9 (v := (-5)) dX10_redo_7 rfl rfl).trans (ev_iret dX10_redo_9 rfl)))))
theorem X10_redo_c (h : mm_M) : mm_call mX10_redo [vR 47] h = if ¬ (h 47 15) = 0 then if 0 ≤ (h 47 14) ∧ (h 47 14) < 40 then if 0 ≤ (h 47 14) ∧ (h 47 14) < 40 then if 0 ≤ (h 47 14) ∧ (h 47 14) < 40 then (mm_call mX10_lays [vR 47, vI (h 56 (h 47 14)), vI (h 57 (h 47 14)), vI (h 59 (h 47 14))] h).bind (fun w => mm_ev mX10_redo 2 41 [some (vR 47)] (w.1 ++ []) w.2) else none else none else none else some ([vI (-5)], h) := X10_redo_0 h 
theorem X10_redo_41 (h : mm_M) : mm_ev mX10_redo 2 41 [some (vR 47)] [] h = some ([vI ((mUp (mUp h 47 14 (w32 ((h 47 14) + 1))) 47 15 (w32 (((mUp h 47 14 (w32 ((h 47 14) + 1))) 47 15) - 1))) 47 15)], mUp (mUp h 47 14 (w32 ((h 47 14) + 1))) 47 15 (w32 (((mUp h 47 14 (w32 ((h 47 14) + 1))) 47 15) - 1))) := (ev_aload_n 42 dX10_redo_41 rfl rfl).trans ((ev_dup 43 dX10_redo_42 rfl rfl).trans ((ev_getI 46 14 dX10_redo_43 fl_10_163 oc47 ak47 (by decide) rfl rfl).trans ((ev_iconst 47 (v := 1) dX10_redo_46 rfl rfl).trans ((ev_iadd 48 dX10_redo_47 rfl).trans ((ev_putI 51 14 dX10_redo_48 fl_10_163 oc47 ak47 rfl rfl rfl).trans ((ev_aload_n 52 dX10_redo_51 rfl rfl).trans ((ev_dup 53 dX10_redo_52 rfl rfl).trans ((ev_getI 56 15 dX10_redo_53 fl_10_160 oc47 ak47 (by decide) rfl rfl).trans ((ev_iconst 57 (v := 1) dX10_redo_56 rfl rfl).trans ((ev_isub 58 dX10_redo_57 rfl).trans ((ev_putI 61 15 dX10_redo_58 fl_10_160 oc47 ak47 rfl rfl rfl).trans ((ev_aload_n 62 dX10_redo_61 rfl rfl).trans ((ev_getI 65 15 dX10_redo_62 fl_10_160 oc47 ak47 (by decide) rfl rfl).trans (ev_iret dX10_redo_65 rfl))))))))))))))
theorem dX10_lays_0 : decode mX10_lays.1 0 = .ok (.iload_n 1, 1) := by decide +kernel
theorem dX10_lays_1 : decode mX10_lays.1 1 = .ok (.tableswitch 163 0 10 #[59, 69, 79, 89, 99, 109, 119, 129, 139, 147, 155], 59) := by decide +kernel
theorem dX10_lays_60 : decode mX10_lays.1 60 = .ok (.aload_n 0, 1) := by decide +kernel
theorem dX10_lays_61 : decode mX10_lays.1 61 = .ok (.getfield 9, 3) := by decide +kernel
theorem dX10_lays_64 : decode mX10_lays.1 64 = .ok (.iload_n 2, 1) := by decide +kernel
theorem dX10_lays_65 : decode mX10_lays.1 65 = .ok (.iload_n 3, 1) := by decide +kernel
theorem dX10_lays_66 : decode mX10_lays.1 66 = .ok (.iastore, 1) := by decide +kernel
theorem dX10_lays_67 : decode mX10_lays.1 67 = .ok (.goto 102, 3) := by decide +kernel
theorem dX10_lays_70 : decode mX10_lays.1 70 = .ok (.aload_n 0, 1) := by decide +kernel
theorem dX10_lays_71 : decode mX10_lays.1 71 = .ok (.getfield 15, 3) := by decide +kernel
theorem dX10_lays_74 : decode mX10_lays.1 74 = .ok (.iload_n 2, 1) := by decide +kernel
theorem dX10_lays_75 : decode mX10_lays.1 75 = .ok (.iload_n 3, 1) := by decide +kernel
theorem dX10_lays_76 : decode mX10_lays.1 76 = .ok (.iastore, 1) := by decide +kernel
theorem dX10_lays_77 : decode mX10_lays.1 77 = .ok (.goto 92, 3) := by decide +kernel
theorem dX10_lays_80 : decode mX10_lays.1 80 = .ok (.aload_n 0, 1) := by decide +kernel
theorem dX10_lays_81 : decode mX10_lays.1 81 = .ok (.getfield 18, 3) := by decide +kernel
theorem dX10_lays_84 : decode mX10_lays.1 84 = .ok (.iload_n 2, 1) := by decide +kernel
theorem dX10_lays_85 : decode mX10_lays.1 85 = .ok (.iload_n 3, 1) := by decide +kernel
theorem dX10_lays_86 : decode mX10_lays.1 86 = .ok (.iastore, 1) := by decide +kernel
theorem dX10_lays_87 : decode mX10_lays.1 87 = .ok (.goto 82, 3) := by decide +kernel
theorem dX10_lays_90 : decode mX10_lays.1 90 = .ok (.aload_n 0, 1) := by decide +kernel
theorem dX10_lays_91 : decode mX10_lays.1 91 = .ok (.getfield 21, 3) := by decide +kernel
theorem dX10_lays_94 : decode mX10_lays.1 94 = .ok (.iload_n 2, 1) := by decide +kernel
theorem dX10_lays_95 : decode mX10_lays.1 95 = .ok (.iload_n 3, 1) := by decide +kernel
theorem dX10_lays_96 : decode mX10_lays.1 96 = .ok (.iastore, 1) := by decide +kernel
theorem dX10_lays_97 : decode mX10_lays.1 97 = .ok (.goto 72, 3) := by decide +kernel
theorem dX10_lays_100 : decode mX10_lays.1 100 = .ok (.aload_n 0, 1) := by decide +kernel
theorem dX10_lays_101 : decode mX10_lays.1 101 = .ok (.getfield 24, 3) := by decide +kernel
theorem dX10_lays_104 : decode mX10_lays.1 104 = .ok (.iload_n 2, 1) := by decide +kernel
theorem dX10_lays_105 : decode mX10_lays.1 105 = .ok (.iload_n 3, 1) := by decide +kernel
theorem dX10_lays_106 : decode mX10_lays.1 106 = .ok (.iastore, 1) := by decide +kernel
theorem dX10_lays_107 : decode mX10_lays.1 107 = .ok (.goto 62, 3) := by decide +kernel
theorem dX10_lays_110 : decode mX10_lays.1 110 = .ok (.aload_n 0, 1) := by decide +kernel
theorem dX10_lays_111 : decode mX10_lays.1 111 = .ok (.getfield 27, 3) := by decide +kernel
theorem dX10_lays_114 : decode mX10_lays.1 114 = .ok (.iload_n 2, 1) := by decide +kernel
theorem dX10_lays_115 : decode mX10_lays.1 115 = .ok (.iload_n 3, 1) := by decide +kernel
theorem dX10_lays_116 : decode mX10_lays.1 116 = .ok (.iastore, 1) := by decide +kernel
theorem dX10_lays_117 : decode mX10_lays.1 117 = .ok (.goto 52, 3) := by decide +kernel
theorem dX10_lays_120 : decode mX10_lays.1 120 = .ok (.aload_n 0, 1) := by decide +kernel
theorem dX10_lays_121 : decode mX10_lays.1 121 = .ok (.getfield 30, 3) := by decide +kernel
theorem dX10_lays_124 : decode mX10_lays.1 124 = .ok (.iload_n 2, 1) := by decide +kernel
theorem dX10_lays_125 : decode mX10_lays.1 125 = .ok (.iload_n 3, 1) := by decide +kernel
theorem dX10_lays_126 : decode mX10_lays.1 126 = .ok (.iastore, 1) := by decide +kernel
theorem dX10_lays_127 : decode mX10_lays.1 127 = .ok (.goto 42, 3) := by decide +kernel
theorem dX10_lays_130 : decode mX10_lays.1 130 = .ok (.aload_n 0, 1) := by decide +kernel
theorem dX10_lays_131 : decode mX10_lays.1 131 = .ok (.getfield 33, 3) := by decide +kernel
theorem dX10_lays_134 : decode mX10_lays.1 134 = .ok (.iload_n 2, 1) := by decide +kernel
theorem dX10_lays_135 : decode mX10_lays.1 135 = .ok (.iload_n 3, 1) := by decide +kernel
theorem dX10_lays_136 : decode mX10_lays.1 136 = .ok (.iastore, 1) := by decide +kernel
theorem dX10_lays_137 : decode mX10_lays.1 137 = .ok (.goto 32, 3) := by decide +kernel
theorem dX10_lays_140 : decode mX10_lays.1 140 = .ok (.aload_n 0, 1) := by decide +kernel
theorem dX10_lays_141 : decode mX10_lays.1 141 = .ok (.iload_n 3, 1) := by decide +kernel
theorem dX10_lays_142 : decode mX10_lays.1 142 = .ok (.putfield 140, 3) := by decide +kernel
theorem dX10_lays_145 : decode mX10_lays.1 145 = .ok (.goto 24, 3) := by decide +kernel
theorem dX10_lays_148 : decode mX10_lays.1 148 = .ok (.aload_n 0, 1) := by decide +kernel
theorem dX10_lays_149 : decode mX10_lays.1 149 = .ok (.iload_n 3, 1) := by decide +kernel
theorem dX10_lays_150 : decode mX10_lays.1 150 = .ok (.putfield 36, 3) := by decide +kernel
theorem dX10_lays_153 : decode mX10_lays.1 153 = .ok (.goto 16, 3) := by decide +kernel
theorem dX10_lays_156 : decode mX10_lays.1 156 = .ok (.aload_n 0, 1) := by decide +kernel
theorem dX10_lays_157 : decode mX10_lays.1 157 = .ok (.iload_n 3, 1) := by decide +kernel
theorem dX10_lays_158 : decode mX10_lays.1 158 = .ok (.putfield 153, 3) := by decide +kernel
theorem dX10_lays_161 : decode mX10_lays.1 161 = .ok (.goto 8, 3) := by decide +kernel
theorem dX10_lays_164 : decode mX10_lays.1 164 = .ok (.aload_n 0, 1) := by decide +kernel
theorem dX10_lays_165 : decode mX10_lays.1 165 = .ok (.iload_n 3, 1) := by decide +kernel
theorem dX10_lays_166 : decode mX10_lays.1 166 = .ok (.putfield 40, 3) := by decide +kernel
theorem dX10_lays_169 : decode mX10_lays.1 169 = .ok (.return_, 1) := by decide +kernel
theorem X10_lays_0 (h : mm_M) (a1 : Int) (a2 : Int) (a3 : Int) : mm_ev mX10_lays 1 0 [some (vR 47), some (vI a1), some (vI a2), some (vI a3)] [] h = if a1 = 0 then if 0 ≤ a2 ∧ a2 < 7 then some ([], mUp h 48 a2 a3) else none else if a1 = 1 then if 0 ≤ a2 ∧ a2 < 7 then some ([], mUp h 49 a2 a3) else none else if a1 = 2 then if 0 ≤ a2 ∧ a2 < 7 then some ([], mUp h 50 a2 a3) else none else if a1 = 3 then if 0 ≤ a2 ∧ a2 < 10 then some ([], mUp h 51 a2 a3) else none else if a1 = 4 then if 0 ≤ a2 ∧ a2 < 10 then some ([], mUp h 52 a2 a3) else none else if a1 = 5 then if 0 ≤ a2 ∧ a2 < 4 then some ([], mUp h 53 a2 a3) else none else if a1 = 6 then if 0 ≤ a2 ∧ a2 < 4 then some ([], mUp h 54 a2 a3) else none else if a1 = 7 then if 0 ≤ a2 ∧ a2 < 4 then some ([], mUp h 55 a2 a3) else none else if a1 = 8 then some ([], mUp h 47 10 a3) else if a1 = 9 then some ([], mUp h 47 11 a3) else if a1 = 10 then some ([], mUp h 47 12 a3) else some ([], mUp h 47 13 a3) := (ev_iload_n 1 dX10_lays_0 rfl rfl).trans (ev_tabC (k := 0) dX10_lays_1 (fun z0 => (ev_tabK 60 (k := 0) dX10_lays_1 z0 (by decide) rfl rfl).trans ((ev_aload_n 61 dX10_lays_60 rfl rfl).trans ((ev_getF 64 48 dX10_lays_61 fl_10_9 oc47 ak47 rfl rf_47_2 rfl).trans ((ev_iload_n 65 dX10_lays_64 rfl rfl).trans ((ev_iload_n 66 dX10_lays_65 rfl rfl).trans ((ev_iast 67 7 dX10_lays_66 ak48 an48 rfl).trans (mm_ite ((ev_goto 169 dX10_lays_67 rfl).trans (ev_vret dX10_lays_169 rfl)) (rfl)))))))) (fun n0 => ev_tabC (k := 1) dX10_lays_1 (fun z1 => (ev_tabK 70 (k := 1) dX10_lays_1 z1 (by decide) rfl rfl).trans ((ev_aload_n 71 dX10_lays_70 rfl rfl).trans ((ev_getF 74 49 dX10_lays_71 fl_10_15 oc47 ak47 rfl rf_47_3 rfl).trans ((ev_iload_n 75 dX10_lays_74 rfl rfl).trans ((ev_iload_n 76 dX10_lays_75 rfl rfl).trans ((ev_iast 77 7 dX10_lays_76 ak49 an49 rfl).trans (mm_ite ((ev_goto 169 dX10_lays_77 rfl).trans (ev_vret dX10_lays_169 rfl)) (rfl)))))))) (fun n1 => ev_tabC (k := 2) dX10_lays_1 (fun z2 => (ev_tabK 80 (k := 2) dX10_lays_1 z2 (by decide) rfl rfl).trans ((ev_aload_n 81 dX10_lays_80 rfl rfl).trans ((ev_getF 84 50 dX10_lays_81 fl_10_18 oc47 ak47 rfl rf_47_4 rfl).trans ((ev_iload_n 85 dX10_lays_84 rfl rfl).trans ((ev_iload_n 86 dX10_lays_85 rfl rfl).trans ((ev_iast 87 7 dX10_lays_86 ak50 an50 rfl).trans (mm_ite ((ev_goto 169 dX10_lays_87 rfl).trans (ev_vret dX10_lays_169 rfl)) (rfl)))))))) (fun n2 => ev_tabC (k := 3) dX10_lays_1 (fun z3 => (ev_tabK 90 (k := 3) dX10_lays_1 z3 (by decide) rfl rfl).trans ((ev_aload_n 91 dX10_lays_90 rfl rfl).trans ((ev_getF 94 51 dX10_lays_91 fl_10_21 oc47 ak47 rfl rf_47_5 rfl).trans ((ev_iload_n 95 dX10_lays_94 rfl rfl).trans ((ev_iload_n 96 dX10_lays_95 rfl rfl).trans ((ev_iast 97 10 dX10_lays_96 ak51 an51 rfl).trans (mm_ite ((ev_goto 169 dX10_lays_97 rfl).trans (ev_vret dX10_lays_169 rfl)) (rfl)))))))) (fun n3 => ev_tabC (k := 4) dX10_lays_1 (fun z4 => (ev_tabK 100 (k := 4) dX10_lays_1 z4 (by decide) rfl rfl).trans ((ev_aload_n 101 dX10_lays_100 rfl rfl).trans ((ev_getF 104 52 dX10_lays_101 fl_10_24 oc47 ak47 rfl rf_47_6 rfl).trans ((ev_iload_n 105 dX10_lays_104 rfl rfl).trans ((ev_iload_n 106 dX10_lays_105 rfl rfl).trans ((ev_iast 107 10 dX10_lays_106 ak52 an52 rfl).trans (mm_ite ((ev_goto 169 dX10_lays_107 rfl).trans (ev_vret dX10_lays_169 rfl)) (rfl)))))))) (fun n4 => ev_tabC (k := 5) dX10_lays_1 (fun z5 => (ev_tabK 110 (k := 5) dX10_lays_1 z5 (by decide) rfl rfl).trans ((ev_aload_n 111 dX10_lays_110 rfl rfl).trans ((ev_getF 114 53 dX10_lays_111 fl_10_27 oc47 ak47 rfl rf_47_7 rfl).trans ((ev_iload_n 115 dX10_lays_114 rfl rfl).trans ((ev_iload_n 116 dX10_lays_115 rfl rfl).trans ((ev_iast 117 4 dX10_lays_116 ak53 an53 rfl).trans (mm_ite ((ev_goto 169 dX10_lays_117 rfl).trans (ev_vret dX10_lays_169 rfl)) (rfl)))))))) (fun n5 => ev_tabC (k := 6) dX10_lays_1 (fun z6 => (ev_tabK 120 (k := 6) dX10_lays_1 z6 (by decide) rfl rfl).trans ((ev_aload_n 121 dX10_lays_120 rfl rfl).trans ((ev_getF 124 54 dX10_lays_121 fl_10_30 oc47 ak47 rfl rf_47_8 rfl).trans ((ev_iload_n 125 dX10_lays_124 rfl rfl).trans ((ev_iload_n 126 dX10_lays_125 rfl rfl).trans ((ev_iast 127 4 dX10_lays_126 ak54 an54 rfl).trans (mm_ite ((ev_goto 169 dX10_lays_127 rfl).trans (ev_vret dX10_lays_169 rfl)) (rfl)))))))) (fun n6 => ev_tabC (k := 7) dX10_lays_1 (fun z7 => (ev_tabK 130 (k := 7) dX10_lays_1 z7 (by decide) rfl rfl).trans ((ev_aload_n 131 dX10_lays_130 rfl rfl).trans ((ev_getF 134 55 dX10_lays_131 fl_10_33 oc47 ak47 rfl rf_47_9 rfl).trans ((ev_iload_n 135 dX10_lays_134 rfl rfl).trans ((ev_iload_n 136 dX10_lays_135 rfl rfl).trans ((ev_iast 137 4 dX10_lays_136 ak55 an55 rfl).trans (mm_ite ((ev_goto 169 dX10_lays_137 rfl).trans (ev_vret dX10_lays_169 rfl)) (rfl)))))))) (fun n7 => ev_tabC (k := 8) dX10_lays_1 (fun z8 => (ev_tabK 140 (k := 8) dX10_lays_1 z8 (by decide) rfl rfl).trans ((ev_aload_n 141 dX10_lays_140 rfl rfl).trans ((ev_iload_n 142 dX10_lays_141 rfl rfl).trans ((ev_putI 145 10 dX10_lays_142 fl_10_140 oc47 ak47 rfl rfl rfl).trans ((ev_goto 169 dX10_lays_145 rfl).trans (ev_vret dX10_lays_169 rfl)))))) (fun n8 => ev_tabC (k := 9) dX10_lays_1 (fun z9 => (ev_tabK 148 (k := 9) dX10_lays_1 z9 (by decide) rfl rfl).trans ((ev_aload_n 149 dX10_lays_148 rfl rfl).trans ((ev_iload_n 150 dX10_lays_149 rfl rfl).trans ((ev_putI 153 11 dX10_lays_150 fl_10_36 oc47 ak47 rfl rfl rfl).trans ((ev_goto 169 dX10_lays_153 rfl).trans (ev_vret dX10_lays_169 rfl)))))) (fun n9 => ev_tabC (k := 10) dX10_lays_1 (fun z10 => (ev_tabK 156 (k := 10) dX10_lays_1 z10 (by decide) rfl rfl).trans ((ev_aload_n 157 dX10_lays_156 rfl rfl).trans ((ev_iload_n 158 dX10_lays_157 rfl rfl).trans ((ev_putI 161 12 dX10_lays_158 fl_10_153 oc47 ak47 rfl rfl rfl).trans ((ev_goto 169 dX10_lays_161 rfl).trans (ev_vret dX10_lays_169 rfl)))))) (fun n10 => (ev_tabD 164 dX10_lays_1 (by omega) rfl).trans ((ev_aload_n 165 dX10_lays_164 rfl rfl).trans ((ev_iload_n 166 dX10_lays_165 rfl rfl).trans ((ev_putI 169 13 dX10_lays_166 fl_10_40 oc47 ak47 rfl rfl rfl).trans (ev_vret dX10_lays_169 rfl))))))))))))))))
theorem X10_lays_c (h : mm_M) (a1 : Int) (a2 : Int) (a3 : Int) : mm_call mX10_lays [vR 47, vI a1, vI a2, vI a3] h = if a1 = 0 then if 0 ≤ a2 ∧ a2 < 7 then some ([], mUp h 48 a2 a3) else none else if a1 = 1 then if 0 ≤ a2 ∧ a2 < 7 then some ([], mUp h 49 a2 a3) else none else if a1 = 2 then if 0 ≤ a2 ∧ a2 < 7 then some ([], mUp h 50 a2 a3) else none else if a1 = 3 then if 0 ≤ a2 ∧ a2 < 10 then some ([], mUp h 51 a2 a3) else none else if a1 = 4 then if 0 ≤ a2 ∧ a2 < 10 then some ([], mUp h 52 a2 a3) else none else if a1 = 5 then if 0 ≤ a2 ∧ a2 < 4 then some ([], mUp h 53 a2 a3) else none else if a1 = 6 then if 0 ≤ a2 ∧ a2 < 4 then some ([], mUp h 54 a2 a3) else none else if a1 = 7 then if 0 ≤ a2 ∧ a2 < 4 then some ([], mUp h 55 a2 a3) else none else if a1 = 8 then some ([], mUp h 47 10 a3) else if a1 = 9 then some ([], mUp h 47 11 a3) else if a1 = 10 then some ([], mUp h 47 12 a3) else some ([], mUp h 47 13 a3) := X10_lays_0 h a1 a2 a3
theorem dX10_undo_0 : decode mX10_undo.1 0 = .ok (.aload_n 0, 1) := by decide +kernel
theorem dX10_undo_1 : decode mX10_undo.1 1 = .ok (.getfield 163, 3) := by decide +kernel
theorem dX10_undo_4 : decode mX10_undo.1 4 = .ok (.ifCond .ne 6, 3) := by decide +kernel
theorem dX10_undo_7 : decode mX10_undo.1 7 = .ok (.bipush (-5), 2) := by decide +kernel
theorem dX10_undo_9 : decode mX10_undo.1 9 = .ok (.ireturn, 1) := by decide +kernel
theorem dX10_undo_10 : decode mX10_undo.1 10 = .ok (.aload_n 0, 1) := by decide +kernel
theorem dX10_undo_11 : decode mX10_undo.1 11 = .ok (.dup, 1) := by decide +kernel
theorem dX10_undo_12 : decode mX10_undo.1 12 = .ok (.getfield 163, 3) := by decide +kernel
theorem dX10_undo_15 : decode mX10_undo.1 15 = .ok (.iconst 1, 1) := by decide +kernel
theorem dX10_undo_16 : decode mX10_undo.1 16 = .ok (.isub, 1) := by decide +kernel
theorem dX10_undo_17 : decode mX10_undo.1 17 = .ok (.putfield 163, 3) := by decide +kernel
theorem dX10_undo_20 : decode mX10_undo.1 20 = .ok (.aload_n 0, 1) := by decide +kernel
theorem dX10_undo_21 : decode mX10_undo.1 21 = .ok (.dup, 1) := by decide +kernel
theorem dX10_undo_22 : decode mX10_undo.1 22 = .ok (.getfield 160, 3) := by decide +kernel
theorem dX10_undo_25 : decode mX10_undo.1 25 = .ok (.iconst 1, 1) := by decide +kernel
theorem dX10_undo_26 : decode mX10_undo.1 26 = .ok (.iadd, 1) := by decide +kernel
theorem dX10_undo_27 : decode mX10_undo.1 27 = .ok (.putfield 160, 3) := by decide +kernel
theorem dX10_undo_30 : decode mX10_undo.1 30 = .ok (.aload_n 0, 1) := by decide +kernel
theorem dX10_undo_31 : decode mX10_undo.1 31 = .ok (.aload_n 0, 1) := by decide +kernel
theorem dX10_undo_32 : decode mX10_undo.1 32 = .ok (.getfield 43, 3) := by decide +kernel
theorem dX10_undo_35 : decode mX10_undo.1 35 = .ok (.aload_n 0, 1) := by decide +kernel
theorem dX10_undo_36 : decode mX10_undo.1 36 = .ok (.getfield 163, 3) := by decide +kernel
theorem dX10_undo_39 : decode mX10_undo.1 39 = .ok (.iaload, 1) := by decide +kernel
theorem dX10_undo_40 : decode mX10_undo.1 40 = .ok (.aload_n 0, 1) := by decide +kernel
theorem dX10_undo_41 : decode mX10_undo.1 41 = .ok (.getfield 46, 3) := by decide +kernel
theorem dX10_undo_44 : decode mX10_undo.1 44 = .ok (.aload_n 0, 1) := by decide +kernel
theorem dX10_undo_45 : decode mX10_undo.1 45 = .ok (.getfield 163, 3) := by decide +kernel
theorem dX10_undo_48 : decode mX10_undo.1 48 = .ok (.iaload, 1) := by decide +kernel
theorem dX10_undo_49 : decode mX10_undo.1 49 = .ok (.aload_n 0, 1) := by decide +kernel
theorem dX10_undo_50 : decode mX10_undo.1 50 = .ok (.getfield 49, 3) := by decide +kernel
theorem dX10_undo_53 : decode mX10_undo.1 53 = .ok (.aload_n 0, 1) := by decide +kernel
theorem dX10_undo_54 : decode mX10_undo.1 54 = .ok (.getfield 163, 3) := by decide +kernel
theorem dX10_undo_57 : decode mX10_undo.1 57 = .ok (.iaload, 1) := by decide +kernel
theorem dX10_undo_58 : decode mX10_undo.1 58 = .ok (.invokevirtual 166, 3) := by decide +kernel
theorem dX10_undo_61 : decode mX10_undo.1 61 = .ok (.aload_n 0, 1) := by decide +kernel
theorem dX10_undo_62 : decode mX10_undo.1 62 = .ok (.getfield 163, 3) := by decide +kernel
theorem dX10_undo_65 : decode mX10_undo.1 65 = .ok (.ireturn, 1) := by decide +kernel
theorem X10_undo_0 (h : mm_M) : mm_ev mX10_undo 2 0 [some (vR 47)] [] h = if ¬ (h 47 14) = 0 then if 0 ≤ ((mUp (mUp h 47 14 (w32 ((h 47 14) - 1))) 47 15 (w32 (((mUp h 47 14 (w32 ((h 47 14) - 1))) 47 15) + 1))) 47 14) ∧ ((mUp (mUp h 47 14 (w32 ((h 47 14) - 1))) 47 15 (w32 (((mUp h 47 14 (w32 ((h 47 14) - 1))) 47 15) + 1))) 47 14) < 40 then if 0 ≤ ((mUp (mUp h 47 14 (w32 ((h 47 14) - 1))) 47 15 (w32 (((mUp h 47 14 (w32 ((h 47 14) - 1))) 47 15) + 1))) 47 14) ∧ ((mUp (mUp h 47 14 (w32 ((h 47 14) - 1))) 47 15 (w32 (((mUp h 47 14 (w32 ((h 47 14) - 1))) 47 15) + 1))) 47 14) < 40 then if 0 ≤ ((mUp (mUp h 47 14 (w32 ((h 47 14) - 1))) 47 15 (w32 (((mUp h 47 14 (w32 ((h 47 14) - 1))) 47 15) + 1))) 47 14) ∧ ((mUp (mUp h 47 14 (w32 ((h 47 14) - 1))) 47 15 (w32 (((mUp h 47 14 (w32 ((h 47 14) - 1))) 47 15) + 1))) 47 14) < 40 then (mm_call mX10_lays [vR 47, vI ((mUp (mUp h 47 14 (w32 ((h 47 14) - 1))) 47 15 (w32 (((mUp h 47 14 (w32 ((h 47 14) - 1))) 47 15) + 1))) 56 ((mUp (mUp h 47 14 (w32 ((h 47 14) - 1))) 47 15 (w32 (((mUp h 47 14 (w32 ((h 47 14) - 1))) 47 15) + 1))) 47 14)), vI ((mUp (mUp h 47 14 (w32 ((h 47 14) - 1))) 47 15 (w32 (((mUp h 47 14 (w32 ((h 47 14) - 1))) 47 15) + 1))) 57 ((mUp (mUp h 47 14 (w32 ((h 47 14) - 1))) 47 15 (w32 (((mUp h 47 14 (w32 ((h 47 14) - 1))) 47 15) + 1))) 47 14)), vI ((mUp (mUp h 47 14 (w32 ((h 47 14) - 1))) 47 15 (w32 (((mUp h 47 14 (w32 ((h 47 14) - 1))) 47 15) + 1))) 58 ((mUp (mUp h 47 14 (w32 ((h 47 14) - 1))) 47 15 (w32 (((mUp h 47 14 (w32 ((h 47 14) - 1))) 47 15) + 1))) 47 14))] (mUp (mUp h 47 14 (w32 ((h 47 14) - 1))) 47 15 (w32 (((mUp h 47 14 (w32 ((h 47 14) - 1))) 47 15) + 1)))).bind (fun w => mm_ev mX10_undo 2 61 [some (vR 47)] (w.1 ++ []) w.2) else none else none else none else some ([vI (-5)], h) := (ev_aload_n 1 dX10_undo_0 rfl rfl).trans ((ev_getI 4 14 dX10_undo_1 fl_10_163 oc47 ak47 (by decide) rfl rfl).trans ((ev_if_ne 10 7 dX10_undo_4 rfl rfl).trans (mm_ite ((ev_aload_n 11 dX10_undo_10 rfl rfl).trans ((ev_dup 12 dX10_undo_11 rfl rfl).trans ((ev_getI 15 14 dX10_undo_12 fl_10_163 oc47 ak47 (by decide) rfl rfl).trans ((ev_iconst 16 (v := 1) dX10_undo_15 rfl rfl).trans ((ev_isub 17 dX10_undo_16 rfl).trans ((ev_putI 20 14 dX10_undo_17 fl_10_163 oc47 ak47 rfl rfl rfl).trans ((ev_aload_n 21 dX10_undo_20 rfl rfl).trans ((ev_dup 22 dX10_undo_21 rfl rfl).trans ((ev_getI 25 15 dX10_undo_22 fl_10_160 oc47 ak47 (by decide) rfl rfl).trans ((ev_iconst 26 (v := 1) dX10_undo_25 rfl rfl).trans ((ev_iadd 27 dX10_undo_26 rfl).trans ((ev_putI 30 15 dX10_undo_27 fl_10_160 oc47 ak47 rfl rfl rfl).trans ((ev_aload_n 31 dX10_undo_30 rfl rfl).trans ((ev_aload_n 32 dX10_undo_31 rfl rfl).trans ((ev_getF 35 56 dX10_undo_32 fl_10_43 oc47 ak47 rfl rf_47_16 rfl).trans ((ev_aload_n 36 dX10_undo_35 rfl rfl).trans ((ev_getI 39 14 dX10_undo_36 fl_10_163 oc47 ak47 (by decide) rfl rfl).trans ((ev_iald 40 40 dX10_undo_39 ak56 an56 rfl).trans (mm_ite ((ev_aload_n 41 dX10_undo_40 rfl rfl).trans ((ev_getF 44 57 dX10_undo_41 fl_10_46 oc47 ak47 rfl rf_47_17 rfl).trans ((ev_aload_n 45 dX10_undo_44 rfl rfl).trans ((ev_getI 48 14 dX10_undo_45 fl_10_163 oc47 ak47 (by decide) rfl rfl).trans ((ev_iald 49 40 dX10_undo_48 ak57 an57 rfl).trans (mm_ite ((ev_aload_n 50 dX10_undo_49 rfl rfl).trans ((ev_getF 53 58 dX10_undo_50 fl_10_49 oc47 ak47 rfl rf_47_18 rfl).trans ((ev_aload_n 54 dX10_undo_53 rfl rfl).trans ((ev_getI 57 14 dX10_undo_54 fl_10_163 oc47 ak47 (by decide) rfl rfl).trans ((ev_iald 58 40 dX10_undo_57 ak58 an58 rfl).trans (mm_ite ((ev_callv mX10_lays [vR 47, vI ((mUp (mUp h 47 14 (w32 ((h 47 14) - 1))) 47 15 (w32 (((mUp h 47 14 (w32 ((h 47 14) - 1))) 47 15) + 1))) 56 ((mUp (mUp h 47 14 (w32 ((h 47 14) - 1))) 47 15 (w32 (((mUp h 47 14 (w32 ((h 47 14) - 1))) 47 15) + 1))) 47 14)), vI ((mUp (mUp h 47 14 (w32 ((h 47 14) - 1))) 47 15 (w32 (((mUp h 47 14 (w32 ((h 47 14) - 1))) 47 15) + 1))) 57 ((mUp (mUp h 47 14 (w32 ((h 47 14) - 1))) 47 15 (w32 (((mUp h 47 14 (w32 ((h 47 14) - 1))) 47 15) + 1))) 47 14)), vI ((mUp (mUp h 47 14 (w32 ((h 47 14) - 1))) 47 15 (w32 (((mUp h 47 14 (w32 ((h 47 14) - 1))) 47 15) + 1))) 58 ((mUp (mUp h 47 14 (w32 ((h 47 14) - 1))) 47 15 (w32 (((mUp h 47 14 (w32 ((h 47 14) - 1))) 47 15) + 1))) 47 14))] [] 61 dX10_undo_58 ml_10_166 k151 rfl oc47 ak47 rfl rfl (Nat.le_of_ble_eq_true rfl) (Nat.le_of_ble_eq_true rfl) rfl).trans (if_pos (show 1 < 2 from by decide))) (rfl))))))) (rfl))))))) (rfl)))))))))))))))))))) ((ev_bipush 9 (v := (-5)) dX10_undo_7 rfl rfl).trans (ev_iret dX10_undo_9 rfl)))))
theorem X10_undo_c (h : mm_M) : mm_call mX10_undo [vR 47] h = if ¬ (h 47 14) = 0 then if 0 ≤ ((mUp (mUp h 47 14 (w32 ((h 47 14) - 1))) 47 15 (w32 (((mUp h 47 14 (w32 ((h 47 14) - 1))) 47 15) + 1))) 47 14) ∧ ((mUp (mUp h 47 14 (w32 ((h 47 14) - 1))) 47 15 (w32 (((mUp h 47 14 (w32 ((h 47 14) - 1))) 47 15) + 1))) 47 14) < 40 then if 0 ≤ ((mUp (mUp h 47 14 (w32 ((h 47 14) - 1))) 47 15 (w32 (((mUp h 47 14 (w32 ((h 47 14) - 1))) 47 15) + 1))) 47 14) ∧ ((mUp (mUp h 47 14 (w32 ((h 47 14) - 1))) 47 15 (w32 (((mUp h 47 14 (w32 ((h 47 14) - 1))) 47 15) + 1))) 47 14) < 40 then if 0 ≤ ((mUp (mUp h 47 14 (w32 ((h 47 14) - 1))) 47 15 (w32 (((mUp h 47 14 (w32 ((h 47 14) - 1))) 47 15) + 1))) 47 14) ∧ ((mUp (mUp h 47 14 (w32 ((h 47 14) - 1))) 47 15 (w32 (((mUp h 47 14 (w32 ((h 47 14) - 1))) 47 15) + 1))) 47 14) < 40 then (mm_call mX10_lays [vR 47, vI ((mUp (mUp h 47 14 (w32 ((h 47 14) - 1))) 47 15 (w32 (((mUp h 47 14 (w32 ((h 47 14) - 1))) 47 15) + 1))) 56 ((mUp (mUp h 47 14 (w32 ((h 47 14) - 1))) 47 15 (w32 (((mUp h 47 14 (w32 ((h 47 14) - 1))) 47 15) + 1))) 47 14)), vI ((mUp (mUp h 47 14 (w32 ((h 47 14) - 1))) 47 15 (w32 (((mUp h 47 14 (w32 ((h 47 14) - 1))) 47 15) + 1))) 57 ((mUp (mUp h 47 14 (w32 ((h 47 14) - 1))) 47 15 (w32 (((mUp h 47 14 (w32 ((h 47 14) - 1))) 47 15) + 1))) 47 14)), vI ((mUp (mUp h 47 14 (w32 ((h 47 14) - 1))) 47 15 (w32 (((mUp h 47 14 (w32 ((h 47 14) - 1))) 47 15) + 1))) 58 ((mUp (mUp h 47 14 (w32 ((h 47 14) - 1))) 47 15 (w32 (((mUp h 47 14 (w32 ((h 47 14) - 1))) 47 15) + 1))) 47 14))] (mUp (mUp h 47 14 (w32 ((h 47 14) - 1))) 47 15 (w32 (((mUp h 47 14 (w32 ((h 47 14) - 1))) 47 15) + 1)))).bind (fun w => mm_ev mX10_undo 2 61 [some (vR 47)] (w.1 ++ []) w.2) else none else none else none else some ([vI (-5)], h) := X10_undo_0 h 
theorem X10_undo_61 (h : mm_M) : mm_ev mX10_undo 2 61 [some (vR 47)] [] h = some ([vI (h 47 14)], h) := (ev_aload_n 62 dX10_undo_61 rfl rfl).trans ((ev_getI 65 14 dX10_undo_62 fl_10_163 oc47 ak47 (by decide) rfl rfl).trans (ev_iret dX10_undo_65 rfl))
theorem dX10_back_0 : decode mX10_back.1 0 = .ok (.aload_n 0, 1) := by decide +kernel
theorem dX10_back_1 : decode mX10_back.1 1 = .ok (.getfield 102, 3) := by decide +kernel
theorem dX10_back_4 : decode mX10_back.1 4 = .ok (.ifCond .ge 6, 3) := by decide +kernel
theorem dX10_back_7 : decode mX10_back.1 7 = .ok (.bipush (-5), 2) := by decide +kernel
theorem dX10_back_9 : decode mX10_back.1 9 = .ok (.ireturn, 1) := by decide +kernel
theorem dX10_back_10 : decode mX10_back.1 10 = .ok (.aload_n 0, 1) := by decide +kernel
theorem dX10_back_11 : decode mX10_back.1 11 = .ok (.aload_n 0, 1) := by decide +kernel
theorem dX10_back_12 : decode mX10_back.1 12 = .ok (.getfield 395, 3) := by decide +kernel
theorem dX10_back_15 : decode mX10_back.1 15 = .ok (.putfield 186, 3) := by decide +kernel
theorem dX10_back_18 : decode mX10_back.1 18 = .ok (.iconst 0, 1) := by decide +kernel
theorem dX10_back_19 : decode mX10_back.1 19 = .ok (.istore_n 1, 1) := by decide +kernel
theorem dX10_back_20 : decode mX10_back.1 20 = .ok (.iload_n 1, 1) := by decide +kernel
theorem dX10_back_21 : decode mX10_back.1 21 = .ok (.aload_n 0, 1) := by decide +kernel
theorem dX10_back_22 : decode mX10_back.1 22 = .ok (.getfield 133, 3) := by decide +kernel
theorem dX10_back_25 : decode mX10_back.1 25 = .ok (.if_icmp .ge 96, 3) := by decide +kernel
theorem dX10_back_28 : decode mX10_back.1 28 = .ok (.iload_n 1, 1) := by decide +kernel
theorem dX10_back_29 : decode mX10_back.1 29 = .ok (.aload_n 0, 1) := by decide +kernel
theorem dX10_back_30 : decode mX10_back.1 30 = .ok (.getfield 102, 3) := by decide +kernel
theorem dX10_back_33 : decode mX10_back.1 33 = .ok (.if_icmp .ge 7, 3) := by decide +kernel
theorem dX10_back_36 : decode mX10_back.1 36 = .ok (.iconst 1, 1) := by decide +kernel
theorem dX10_back_37 : decode mX10_back.1 37 = .ok (.goto 4, 3) := by decide +kernel
theorem dX10_back_40 : decode mX10_back.1 40 = .ok (.iconst 0, 1) := by decide +kernel
theorem dX10_back_41 : decode mX10_back.1 41 = .ok (.istore_n 2, 1) := by decide +kernel
theorem dX10_back_42 : decode mX10_back.1 42 = .ok (.aload_n 0, 1) := by decide +kernel
theorem dX10_back_43 : decode mX10_back.1 43 = .ok (.getfield 90, 3) := by decide +kernel
theorem dX10_back_46 : decode mX10_back.1 46 = .ok (.iload_n 1, 1) := by decide +kernel
theorem dX10_back_47 : decode mX10_back.1 47 = .ok (.iload_n 2, 1) := by decide +kernel
theorem dX10_back_48 : decode mX10_back.1 48 = .ok (.ifCond .eq 14, 3) := by decide +kernel
theorem dX10_back_51 : decode mX10_back.1 51 = .ok (.aload_n 0, 1) := by decide +kernel
theorem dX10_back_52 : decode mX10_back.1 52 = .ok (.getfield 105, 3) := by decide +kernel
theorem dX10_back_55 : decode mX10_back.1 55 = .ok (.iconst 3, 1) := by decide +kernel
theorem dX10_back_56 : decode mX10_back.1 56 = .ok (.iload_n 1, 1) := by decide +kernel
theorem dX10_back_57 : decode mX10_back.1 57 = .ok (.imul, 1) := by decide +kernel
theorem dX10_back_58 : decode mX10_back.1 58 = .ok (.iaload, 1) := by decide +kernel
theorem dX10_back_59 : decode mX10_back.1 59 = .ok (.goto 7, 3) := by decide +kernel
theorem dX10_back_62 : decode mX10_back.1 62 = .ok (.aload_n 0, 1) := by decide +kernel
theorem dX10_back_63 : decode mX10_back.1 63 = .ok (.getfield 140, 3) := by decide +kernel
theorem dX10_back_66 : decode mX10_back.1 66 = .ok (.iastore, 1) := by decide +kernel
theorem dX10_back_67 : decode mX10_back.1 67 = .ok (.aload_n 0, 1) := by decide +kernel
theorem dX10_back_68 : decode mX10_back.1 68 = .ok (.getfield 93, 3) := by decide +kernel
theorem dX10_back_71 : decode mX10_back.1 71 = .ok (.iload_n 1, 1) := by decide +kernel
theorem dX10_back_72 : decode mX10_back.1 72 = .ok (.iload_n 2, 1) := by decide +kernel
theorem dX10_back_73 : decode mX10_back.1 73 = .ok (.ifCond .eq 16, 3) := by decide +kernel
theorem dX10_back_76 : decode mX10_back.1 76 = .ok (.aload_n 0, 1) := by decide +kernel
theorem dX10_back_77 : decode mX10_back.1 77 = .ok (.getfield 105, 3) := by decide +kernel
theorem dX10_back_80 : decode mX10_back.1 80 = .ok (.iconst 3, 1) := by decide +kernel
theorem dX10_back_81 : decode mX10_back.1 81 = .ok (.iload_n 1, 1) := by decide +kernel
theorem dX10_back_82 : decode mX10_back.1 82 = .ok (.imul, 1) := by decide +kernel
theorem dX10_back_83 : decode mX10_back.1 83 = .ok (.iconst 1, 1) := by decide +kernel
theorem dX10_back_84 : decode mX10_back.1 84 = .ok (.iadd, 1) := by decide +kernel
theorem dX10_back_85 : decode mX10_back.1 85 = .ok (.iaload, 1) := by decide +kernel
theorem dX10_back_86 : decode mX10_back.1 86 = .ok (.goto 4, 3) := by decide +kernel
theorem dX10_back_89 : decode mX10_back.1 89 = .ok (.iconst (-1), 1) := by decide +kernel
theorem dX10_back_90 : decode mX10_back.1 90 = .ok (.iastore, 1) := by decide +kernel
theorem dX10_back_91 : decode mX10_back.1 91 = .ok (.aload_n 0, 1) := by decide +kernel
theorem dX10_back_92 : decode mX10_back.1 92 = .ok (.getfield 96, 3) := by decide +kernel
theorem dX10_back_95 : decode mX10_back.1 95 = .ok (.iload_n 1, 1) := by decide +kernel
theorem dX10_back_96 : decode mX10_back.1 96 = .ok (.iload_n 2, 1) := by decide +kernel
theorem dX10_back_97 : decode mX10_back.1 97 = .ok (.ifCond .eq 16, 3) := by decide +kernel
theorem dX10_back_100 : decode mX10_back.1 100 = .ok (.aload_n 0, 1) := by decide +kernel
theorem dX10_back_101 : decode mX10_back.1 101 = .ok (.getfield 105, 3) := by decide +kernel
theorem dX10_back_104 : decode mX10_back.1 104 = .ok (.iconst 3, 1) := by decide +kernel
theorem dX10_back_105 : decode mX10_back.1 105 = .ok (.iload_n 1, 1) := by decide +kernel
theorem dX10_back_106 : decode mX10_back.1 106 = .ok (.imul, 1) := by decide +kernel
theorem dX10_back_107 : decode mX10_back.1 107 = .ok (.iconst 2, 1) := by decide +kernel
theorem dX10_back_108 : decode mX10_back.1 108 = .ok (.iadd, 1) := by decide +kernel
theorem dX10_back_109 : decode mX10_back.1 109 = .ok (.iaload, 1) := by decide +kernel
theorem dX10_back_110 : decode mX10_back.1 110 = .ok (.goto 4, 3) := by decide +kernel
theorem dX10_back_113 : decode mX10_back.1 113 = .ok (.iconst 0, 1) := by decide +kernel
theorem dX10_back_114 : decode mX10_back.1 114 = .ok (.iastore, 1) := by decide +kernel
theorem dX10_back_115 : decode mX10_back.1 115 = .ok (.iinc 1 1, 3) := by decide +kernel
theorem dX10_back_118 : decode mX10_back.1 118 = .ok (.goto (-98), 3) := by decide +kernel
theorem dX10_back_121 : decode mX10_back.1 121 = .ok (.iconst 0, 1) := by decide +kernel
theorem dX10_back_122 : decode mX10_back.1 122 = .ok (.istore_n 1, 1) := by decide +kernel
theorem dX10_back_123 : decode mX10_back.1 123 = .ok (.iload_n 1, 1) := by decide +kernel
theorem dX10_back_124 : decode mX10_back.1 124 = .ok (.iconst 4, 1) := by decide +kernel
theorem dX10_back_125 : decode mX10_back.1 125 = .ok (.if_icmp .ge 21, 3) := by decide +kernel
theorem dX10_back_128 : decode mX10_back.1 128 = .ok (.aload_n 0, 1) := by decide +kernel
theorem dX10_back_129 : decode mX10_back.1 129 = .ok (.getfield 99, 3) := by decide +kernel
theorem dX10_back_132 : decode mX10_back.1 132 = .ok (.iload_n 1, 1) := by decide +kernel
theorem dX10_back_133 : decode mX10_back.1 133 = .ok (.aload_n 0, 1) := by decide +kernel
theorem dX10_back_134 : decode mX10_back.1 134 = .ok (.getfield 108, 3) := by decide +kernel
theorem dX10_back_137 : decode mX10_back.1 137 = .ok (.iload_n 1, 1) := by decide +kernel
theorem dX10_back_138 : decode mX10_back.1 138 = .ok (.iaload, 1) := by decide +kernel
theorem dX10_back_139 : decode mX10_back.1 139 = .ok (.iastore, 1) := by decide +kernel
theorem dX10_back_140 : decode mX10_back.1 140 = .ok (.iinc 1 1, 3) := by decide +kernel
theorem dX10_back_143 : decode mX10_back.1 143 = .ok (.goto (-20), 3) := by decide +kernel
theorem dX10_back_146 : decode mX10_back.1 146 = .ok (.aload_n 0, 1) := by decide +kernel
theorem dX10_back_147 : decode mX10_back.1 147 = .ok (.getfield 186, 3) := by decide +kernel
theorem dX10_back_150 : decode mX10_back.1 150 = .ok (.ireturn, 1) := by decide +kernel
theorem X10_back_0 (h : mm_M) : mm_ev mX10_back 1 0 [some (vR 47), none, none] [] h = if 0 ≤ (h 47 45) then mm_ev mX10_back 1 20 [some (vR 47), some (vI 0), none] [] (mUp h 47 43 (h 47 46)) else some ([vI (-5)], h) := (ev_aload_n 1 dX10_back_0 rfl rfl).trans ((ev_getI 4 45 dX10_back_1 fl_10_102 oc47 ak47 (by decide) rfl rfl).trans ((ev_if_ge 10 7 dX10_back_4 rfl rfl).trans (mm_ite ((ev_aload_n 11 dX10_back_10 rfl rfl).trans ((ev_aload_n 12 dX10_back_11 rfl rfl).trans ((ev_getI 15 46 dX10_back_12 fl_10_395 oc47 ak47 (by decide) rfl rfl).trans ((ev_putI 18 43 dX10_back_15 fl_10_186 oc47 ak47 rfl rfl rfl).trans ((ev_iconst 19 (v := 0) dX10_back_18 rfl rfl).trans (ev_istore_n 20 [some (vR 47), some (vI 0), none] dX10_back_19 rfl rfl)))))) ((ev_bipush 9 (v := (-5)) dX10_back_7 rfl rfl).trans (ev_iret dX10_back_9 rfl)))))
theorem X10_back_c (h : mm_M) : mm_call mX10_back [vR 47] h = if 0 ≤ (h 47 45) then mm_ev mX10_back 1 20 [some (vR 47), some (vI 0), none] [] (mUp h 47 43 (h 47 46)) else some ([vI (-5)], h) := X10_back_0 h 
theorem X10_back_20 (h : mm_M) (a1 : Int) (o2 : Option mm_V) : mm_ev mX10_back 1 20 [some (vR 47), some (vI a1), o2] [] h = if (h 47 1) ≤ a1 then mm_ev mX10_back 1 123 [some (vR 47), some (vI 0), o2] [] h else if (h 47 45) ≤ a1 then mm_ev mX10_back 1 41 [some (vR 47), some (vI a1), o2] [vI 0] h else mm_ev mX10_back 1 41 [some (vR 47), some (vI a1), o2] [vI 1] h := (ev_iload_n 21 dX10_back_20 rfl rfl).trans ((ev_aload_n 22 dX10_back_21 rfl rfl).trans ((ev_getI 25 1 dX10_back_22 fl_10_133 oc47 ak47 (by decide) rfl rfl).trans ((ev_ic_ge 121 28 dX10_back_25 rfl rfl).trans (mm_ite ((ev_iconst 122 (v := 0) dX10_back_121 rfl rfl).trans (ev_istore_n 123 [some (vR 47), some (vI 0), o2] dX10_back_122 rfl rfl)) ((ev_iload_n 29 dX10_back_28 rfl rfl).trans ((ev_aload_n 30 dX10_back_29 rfl rfl).trans ((ev_getI 33 45 dX10_back_30 fl_10_102 oc47 ak47 (by decide) rfl rfl).trans ((ev_ic_ge 40 36 dX10_back_33 rfl rfl).trans (mm_ite (ev_iconst 41 (v := 0) dX10_back_40 rfl rfl) ((ev_iconst 37 (v := 1) dX10_back_36 rfl rfl).trans (ev_goto 41 dX10_back_37 rfl)))))))))))
theorem X10_back_41 (h : mm_M) (a1 : Int) (o2 : Option mm_V) (s0 : Int) : mm_ev mX10_back 1 41 [some (vR 47), some (vI a1), o2] [vI s0] h = if s0 = 0 then mm_ev mX10_back 1 66 [some (vR 47), some (vI a1), some (vI s0)] [vI (h 47 10), vI a1, vR 71] h else if 0 ≤ (w32 (3 * a1)) ∧ (w32 (3 * a1)) < 21 then mm_ev mX10_back 1 66 [some (vR 47), some (vI a1), some (vI s0)] [vI (h 75 (w32 (3 * a1))), vI a1, vR 71] h else none := (ev_istore_n 42 [some (vR 47), some (vI a1), some (vI s0)] dX10_back_41 rfl rfl).trans ((ev_aload_n 43 dX10_back_42 rfl rfl).trans ((ev_getF 46 71 dX10_back_43 fl_10_90 oc47 ak47 rfl rf_47_40 rfl).trans ((ev_iload_n 47 dX10_back_46 rfl rfl).trans ((ev_iload_n 48 dX10_back_47 rfl rfl).trans ((ev_if_eq 62 51 dX10_back_48 rfl rfl).trans (mm_ite ((ev_aload_n 63 dX10_back_62 rfl rfl).trans (ev_getI 66 10 dX10_back_63 fl_10_140 oc47 ak47 (by decide) rfl rfl)) ((ev_aload_n 52 dX10_back_51 rfl rfl).trans ((ev_getF 55 75 dX10_back_52 fl_10_105 oc47 ak47 rfl rf_47_47 rfl).trans ((ev_iconst 56 (v := 3) dX10_back_55 rfl rfl).trans ((ev_iload_n 57 dX10_back_56 rfl rfl).trans ((ev_imul 58 dX10_back_57 rfl).trans ((ev_iald 59 21 dX10_back_58 ak75 an75 rfl).trans (mm_ite (ev_goto 66 dX10_back_59 rfl) (rfl))))))))))))))
theorem X10_back_66 (h : mm_M) (a1 : Int) (a2 : Int) (s0 : Int) (s1 : Int) : mm_ev mX10_back 1 66 [some (vR 47), some (vI a1), some (vI a2)] [vI s0, vI s1, vR 71] h = if 0 ≤ s1 ∧ s1 < 7 then if a2 = 0 then mm_ev mX10_back 1 90 [some (vR 47), some (vI a1), some (vI a2)] [vI (-1), vI a1, vR 72] (mUp h 71 s1 s0) else if 0 ≤ (w32 ((w32 (3 * a1)) + 1)) ∧ (w32 ((w32 (3 * a1)) + 1)) < 21 then mm_ev mX10_back 1 90 [some (vR 47), some (vI a1), some (vI a2)] [vI ((mUp h 71 s1 s0) 75 (w32 ((w32 (3 * a1)) + 1))), vI a1, vR 72] (mUp h 71 s1 s0) else none else none := (ev_iast 67 7 dX10_back_66 ak71 an71 rfl).trans (mm_ite ((ev_aload_n 68 dX10_back_67 rfl rfl).trans ((ev_getF 71 72 dX10_back_68 fl_10_93 oc47 ak47 rfl rf_47_41 rfl).trans ((ev_iload_n 72 dX10_back_71 rfl rfl).trans ((ev_iload_n 73 dX10_back_72 rfl rfl).trans ((ev_if_eq 89 76 dX10_back_73 rfl rfl).trans (mm_ite (ev_iconst 90 (v := (-1)) dX10_back_89 rfl rfl) ((ev_aload_n 77 dX10_back_76 rfl rfl).trans ((ev_getF 80 75 dX10_back_77 fl_10_105 oc47 ak47 rfl rf_47_47 rfl).trans ((ev_iconst 81 (v := 3) dX10_back_80 rfl rfl).trans ((ev_iload_n 82 dX10_back_81 rfl rfl).trans ((ev_imul 83 dX10_back_82 rfl).trans ((ev_iconst 84 (v := 1) dX10_back_83 rfl rfl).trans ((ev_iadd 85 dX10_back_84 rfl).trans ((ev_iald 86 21 dX10_back_85 ak75 an75 rfl).trans (mm_ite (ev_goto 90 dX10_back_86 rfl) (rfl)))))))))))))))) (rfl))
theorem X10_back_90 (h : mm_M) (a1 : Int) (a2 : Int) (s0 : Int) (s1 : Int) : mm_ev mX10_back 1 90 [some (vR 47), some (vI a1), some (vI a2)] [vI s0, vI s1, vR 72] h = if 0 ≤ s1 ∧ s1 < 7 then if a2 = 0 then if 0 ≤ a1 ∧ a1 < 7 then mm_ev mX10_back 1 20 [some (vR 47), some (vI (w32 (a1 + 1))), some (vI a2)] [] (mUp (mUp h 72 s1 s0) 73 a1 0) else none else if 0 ≤ (w32 ((w32 (3 * a1)) + 2)) ∧ (w32 ((w32 (3 * a1)) + 2)) < 21 then if 0 ≤ a1 ∧ a1 < 7 then mm_ev mX10_back 1 20 [some (vR 47), some (vI (w32 (a1 + 1))), some (vI a2)] [] (mUp (mUp h 72 s1 s0) 73 a1 ((mUp h 72 s1 s0) 75 (w32 ((w32 (3 * a1)) + 2)))) else none else none else none := (ev_iast 91 7 dX10_back_90 ak72 an72 rfl).trans (mm_ite ((ev_aload_n 92 dX10_back_91 rfl rfl).trans ((ev_getF 95 73 dX10_back_92 fl_10_96 oc47 ak47 rfl rf_47_42 rfl).trans ((ev_iload_n 96 dX10_back_95 rfl rfl).trans ((ev_iload_n 97 dX10_back_96 rfl rfl).trans ((ev_if_eq 113 100 dX10_back_97 rfl rfl).trans (mm_ite ((ev_iconst 114 (v := 0) dX10_back_113 rfl rfl).trans ((ev_iast 115 7 dX10_back_114 ak73 an73 rfl).trans (mm_ite ((ev_iinc 118 [some (vR 47), some (vI (w32 (a1 + 1))), some (vI a2)] dX10_back_115 rfl rfl rfl).trans (ev_goto 20 dX10_back_118 rfl)) (rfl)))) ((ev_aload_n 101 dX10_back_100 rfl rfl).trans ((ev_getF 104 75 dX10_back_101 fl_10_105 oc47 ak47 rfl rf_47_47 rfl).trans ((ev_iconst 105 (v := 3) dX10_back_104 rfl rfl).trans ((ev_iload_n 106 dX10_back_105 rfl rfl).trans ((ev_imul 107 dX10_back_106 rfl).trans ((ev_iconst 108 (v := 2) dX10_back_107 rfl rfl).trans ((ev_iadd 109 dX10_back_108 rfl).trans ((ev_iald 110 21 dX10_back_109 ak75 an75 rfl).trans (mm_ite ((ev_goto 114 dX10_back_110 rfl).trans ((ev_iast 115 7 dX10_back_114 ak73 an73 rfl).trans (mm_ite ((ev_iinc 118 [some (vR 47), some (vI (w32 (a1 + 1))), some (vI a2)] dX10_back_115 rfl rfl rfl).trans (ev_goto 20 dX10_back_118 rfl)) (rfl)))) (rfl)))))))))))))))) (rfl))
theorem X10_back_123 (h : mm_M) (a1 : Int) (o2 : Option mm_V) : mm_ev mX10_back 1 123 [some (vR 47), some (vI a1), o2] [] h = if 4 ≤ a1 then some ([vI (h 47 43)], h) else if 0 ≤ a1 ∧ a1 < 4 then if 0 ≤ a1 ∧ a1 < 4 then mm_ev mX10_back 1 123 [some (vR 47), some (vI (w32 (a1 + 1))), o2] [] (mUp h 74 a1 (h 76 a1)) else none else none := (ev_iload_n 124 dX10_back_123 rfl rfl).trans ((ev_iconst 125 (v := 4) dX10_back_124 rfl rfl).trans ((ev_ic_ge 146 128 dX10_back_125 rfl rfl).trans (mm_ite ((ev_aload_n 147 dX10_back_146 rfl rfl).trans ((ev_getI 150 43 dX10_back_147 fl_10_186 oc47 ak47 (by decide) rfl rfl).trans (ev_iret dX10_back_150 rfl))) ((ev_aload_n 129 dX10_back_128 rfl rfl).trans ((ev_getF 132 74 dX10_back_129 fl_10_99 oc47 ak47 rfl rf_47_44 rfl).trans ((ev_iload_n 133 dX10_back_132 rfl rfl).trans ((ev_aload_n 134 dX10_back_133 rfl rfl).trans ((ev_getF 137 76 dX10_back_134 fl_10_108 oc47 ak47 rfl rf_47_48 rfl).trans ((ev_iload_n 138 dX10_back_137 rfl rfl).trans ((ev_iald 139 4 dX10_back_138 ak76 an76 rfl).trans (mm_ite ((ev_iast 140 4 dX10_back_139 ak74 an74 rfl).trans (mm_ite ((ev_iinc 143 [some (vR 47), some (vI (w32 (a1 + 1))), o2] dX10_back_140 rfl rfl rfl).trans (ev_goto 123 dX10_back_143 rfl)) (rfl))) (rfl))))))))))))
theorem dX10_image_0 : decode mX10_image.1 0 = .ok (.aload_n 0, 1) := by decide +kernel
theorem dX10_image_1 : decode mX10_image.1 1 = .ok (.aload_n 0, 1) := by decide +kernel
theorem dX10_image_2 : decode mX10_image.1 2 = .ok (.getfield 133, 3) := by decide +kernel
theorem dX10_image_5 : decode mX10_image.1 5 = .ok (.putfield 102, 3) := by decide +kernel
theorem dX10_image_8 : decode mX10_image.1 8 = .ok (.aload_n 0, 1) := by decide +kernel
theorem dX10_image_9 : decode mX10_image.1 9 = .ok (.aload_n 0, 1) := by decide +kernel
theorem dX10_image_10 : decode mX10_image.1 10 = .ok (.getfield 186, 3) := by decide +kernel
theorem dX10_image_13 : decode mX10_image.1 13 = .ok (.putfield 395, 3) := by decide +kernel
theorem dX10_image_16 : decode mX10_image.1 16 = .ok (.iconst 0, 1) := by decide +kernel
theorem dX10_image_17 : decode mX10_image.1 17 = .ok (.istore_n 1, 1) := by decide +kernel
theorem dX10_image_18 : decode mX10_image.1 18 = .ok (.iload_n 1, 1) := by decide +kernel
theorem dX10_image_19 : decode mX10_image.1 19 = .ok (.aload_n 0, 1) := by decide +kernel
theorem dX10_image_20 : decode mX10_image.1 20 = .ok (.getfield 133, 3) := by decide +kernel
theorem dX10_image_23 : decode mX10_image.1 23 = .ok (.if_icmp .ge 55, 3) := by decide +kernel
theorem dX10_image_26 : decode mX10_image.1 26 = .ok (.aload_n 0, 1) := by decide +kernel
theorem dX10_image_27 : decode mX10_image.1 27 = .ok (.getfield 105, 3) := by decide +kernel
theorem dX10_image_30 : decode mX10_image.1 30 = .ok (.iconst 3, 1) := by decide +kernel
theorem dX10_image_31 : decode mX10_image.1 31 = .ok (.iload_n 1, 1) := by decide +kernel
theorem dX10_image_32 : decode mX10_image.1 32 = .ok (.imul, 1) := by decide +kernel
theorem dX10_image_33 : decode mX10_image.1 33 = .ok (.aload_n 0, 1) := by decide +kernel
theorem dX10_image_34 : decode mX10_image.1 34 = .ok (.getfield 90, 3) := by decide +kernel
theorem dX10_image_37 : decode mX10_image.1 37 = .ok (.iload_n 1, 1) := by decide +kernel
theorem dX10_image_38 : decode mX10_image.1 38 = .ok (.iaload, 1) := by decide +kernel
theorem dX10_image_39 : decode mX10_image.1 39 = .ok (.iastore, 1) := by decide +kernel
theorem dX10_image_40 : decode mX10_image.1 40 = .ok (.aload_n 0, 1) := by decide +kernel
theorem dX10_image_41 : decode mX10_image.1 41 = .ok (.getfield 105, 3) := by decide +kernel
theorem dX10_image_44 : decode mX10_image.1 44 = .ok (.iconst 3, 1) := by decide +kernel
theorem dX10_image_45 : decode mX10_image.1 45 = .ok (.iload_n 1, 1) := by decide +kernel
theorem dX10_image_46 : decode mX10_image.1 46 = .ok (.imul, 1) := by decide +kernel
theorem dX10_image_47 : decode mX10_image.1 47 = .ok (.iconst 1, 1) := by decide +kernel
theorem dX10_image_48 : decode mX10_image.1 48 = .ok (.iadd, 1) := by decide +kernel
theorem dX10_image_49 : decode mX10_image.1 49 = .ok (.aload_n 0, 1) := by decide +kernel
theorem dX10_image_50 : decode mX10_image.1 50 = .ok (.getfield 93, 3) := by decide +kernel
theorem dX10_image_53 : decode mX10_image.1 53 = .ok (.iload_n 1, 1) := by decide +kernel
theorem dX10_image_54 : decode mX10_image.1 54 = .ok (.iaload, 1) := by decide +kernel
theorem dX10_image_55 : decode mX10_image.1 55 = .ok (.iastore, 1) := by decide +kernel
theorem dX10_image_56 : decode mX10_image.1 56 = .ok (.aload_n 0, 1) := by decide +kernel
theorem dX10_image_57 : decode mX10_image.1 57 = .ok (.getfield 105, 3) := by decide +kernel
theorem dX10_image_60 : decode mX10_image.1 60 = .ok (.iconst 3, 1) := by decide +kernel
theorem dX10_image_61 : decode mX10_image.1 61 = .ok (.iload_n 1, 1) := by decide +kernel
theorem dX10_image_62 : decode mX10_image.1 62 = .ok (.imul, 1) := by decide +kernel
theorem dX10_image_63 : decode mX10_image.1 63 = .ok (.iconst 2, 1) := by decide +kernel
theorem dX10_image_64 : decode mX10_image.1 64 = .ok (.iadd, 1) := by decide +kernel
theorem dX10_image_65 : decode mX10_image.1 65 = .ok (.aload_n 0, 1) := by decide +kernel
theorem dX10_image_66 : decode mX10_image.1 66 = .ok (.getfield 96, 3) := by decide +kernel
theorem dX10_image_69 : decode mX10_image.1 69 = .ok (.iload_n 1, 1) := by decide +kernel
theorem dX10_image_70 : decode mX10_image.1 70 = .ok (.iaload, 1) := by decide +kernel
theorem dX10_image_71 : decode mX10_image.1 71 = .ok (.iastore, 1) := by decide +kernel
theorem dX10_image_72 : decode mX10_image.1 72 = .ok (.iinc 1 1, 3) := by decide +kernel
theorem dX10_image_75 : decode mX10_image.1 75 = .ok (.goto (-57), 3) := by decide +kernel
theorem dX10_image_78 : decode mX10_image.1 78 = .ok (.iconst 0, 1) := by decide +kernel
theorem dX10_image_79 : decode mX10_image.1 79 = .ok (.istore_n 1, 1) := by decide +kernel
theorem dX10_image_80 : decode mX10_image.1 80 = .ok (.iload_n 1, 1) := by decide +kernel
theorem dX10_image_81 : decode mX10_image.1 81 = .ok (.iconst 4, 1) := by decide +kernel
theorem dX10_image_82 : decode mX10_image.1 82 = .ok (.if_icmp .ge 21, 3) := by decide +kernel
theorem dX10_image_85 : decode mX10_image.1 85 = .ok (.aload_n 0, 1) := by decide +kernel
theorem dX10_image_86 : decode mX10_image.1 86 = .ok (.getfield 108, 3) := by decide +kernel
theorem dX10_image_89 : decode mX10_image.1 89 = .ok (.iload_n 1, 1) := by decide +kernel
theorem dX10_image_90 : decode mX10_image.1 90 = .ok (.aload_n 0, 1) := by decide +kernel
theorem dX10_image_91 : decode mX10_image.1 91 = .ok (.getfield 99, 3) := by decide +kernel
theorem dX10_image_94 : decode mX10_image.1 94 = .ok (.iload_n 1, 1) := by decide +kernel
theorem dX10_image_95 : decode mX10_image.1 95 = .ok (.iaload, 1) := by decide +kernel
theorem dX10_image_96 : decode mX10_image.1 96 = .ok (.iastore, 1) := by decide +kernel
theorem dX10_image_97 : decode mX10_image.1 97 = .ok (.iinc 1 1, 3) := by decide +kernel
theorem dX10_image_100 : decode mX10_image.1 100 = .ok (.goto (-20), 3) := by decide +kernel
theorem dX10_image_103 : decode mX10_image.1 103 = .ok (.aload_n 0, 1) := by decide +kernel
theorem dX10_image_104 : decode mX10_image.1 104 = .ok (.getfield 186, 3) := by decide +kernel
theorem dX10_image_107 : decode mX10_image.1 107 = .ok (.ireturn, 1) := by decide +kernel
theorem X10_image_0 (h : mm_M) : mm_ev mX10_image 1 0 [some (vR 47), none] [] h = mm_ev mX10_image 1 18 [some (vR 47), some (vI 0)] [] (mUp (mUp h 47 45 (h 47 1)) 47 46 ((mUp h 47 45 (h 47 1)) 47 43)) := (ev_aload_n 1 dX10_image_0 rfl rfl).trans ((ev_aload_n 2 dX10_image_1 rfl rfl).trans ((ev_getI 5 1 dX10_image_2 fl_10_133 oc47 ak47 (by decide) rfl rfl).trans ((ev_putI 8 45 dX10_image_5 fl_10_102 oc47 ak47 rfl rfl rfl).trans ((ev_aload_n 9 dX10_image_8 rfl rfl).trans ((ev_aload_n 10 dX10_image_9 rfl rfl).trans ((ev_getI 13 43 dX10_image_10 fl_10_186 oc47 ak47 (by decide) rfl rfl).trans ((ev_putI 16 46 dX10_image_13 fl_10_395 oc47 ak47 rfl rfl rfl).trans ((ev_iconst 17 (v := 0) dX10_image_16 rfl rfl).trans (ev_istore_n 18 [some (vR 47), some (vI 0)] dX10_image_17 rfl rfl)))))))))
theorem X10_image_c (h : mm_M) : mm_call mX10_image [vR 47] h = mm_ev mX10_image 1 18 [some (vR 47), some (vI 0)] [] (mUp (mUp h 47 45 (h 47 1)) 47 46 ((mUp h 47 45 (h 47 1)) 47 43)) := X10_image_0 h 
theorem X10_image_18 (h : mm_M) (a1 : Int) : mm_ev mX10_image 1 18 [some (vR 47), some (vI a1)] [] h = if (h 47 1) ≤ a1 then mm_ev mX10_image 1 80 [some (vR 47), some (vI 0)] [] h else if 0 ≤ a1 ∧ a1 < 7 then if 0 ≤ (w32 (3 * a1)) ∧ (w32 (3 * a1)) < 21 then if 0 ≤ a1 ∧ a1 < 7 then if 0 ≤ (w32 ((w32 (3 * a1)) + 1)) ∧ (w32 ((w32 (3 * a1)) + 1)) < 21 then if 0 ≤ a1 ∧ a1 < 7 then if 0 ≤ (w32 ((w32 (3 * a1)) + 2)) ∧ (w32 ((w32 (3 * a1)) + 2)) < 21 then mm_ev mX10_image 1 18 [some (vR 47), some (vI (w32 (a1 + 1)))] [] (mUp (mUp (mUp h 75 (w32 (3 * a1)) (h 71 a1)) 75 (w32 ((w32 (3 * a1)) + 1)) ((mUp h 75 (w32 (3 * a1)) (h 71 a1)) 72 a1)) 75 (w32 ((w32 (3 * a1)) + 2)) ((mUp (mUp h 75 (w32 (3 * a1)) (h 71 a1)) 75 (w32 ((w32 (3 * a1)) + 1)) ((mUp h 75 (w32 (3 * a1)) (h 71 a1)) 72 a1)) 73 a1)) else none else none else none else none else none else none := (ev_iload_n 19 dX10_image_18 rfl rfl).trans ((ev_aload_n 20 dX10_image_19 rfl rfl).trans ((ev_getI 23 1 dX10_image_20 fl_10_133 oc47 ak47 (by decide) rfl rfl).trans ((ev_ic_ge 78 26 dX10_image_23 rfl rfl).trans (mm_ite ((ev_iconst 79 (v := 0) dX10_image_78 rfl rfl).trans (ev_istore_n 80 [some (vR 47), some (vI 0)] dX10_image_79 rfl rfl)) ((ev_aload_n 27 dX10_image_26 rfl rfl).trans ((ev_getF 30 75 dX10_image_27 fl_10_105 oc47 ak47 rfl rf_47_47 rfl).trans ((ev_iconst 31 (v := 3) dX10_image_30 rfl rfl).trans ((ev_iload_n 32 dX10_image_31 rfl rfl).trans ((ev_imul 33 dX10_image_32 rfl).trans ((ev_aload_n 34 dX10_image_33 rfl rfl).trans ((ev_getF 37 71 dX10_image_34 fl_10_90 oc47 ak47 rfl rf_47_40 rfl).trans ((ev_iload_n 38 dX10_image_37 rfl rfl).trans ((ev_iald 39 7 dX10_image_38 ak71 an71 rfl).trans (mm_ite ((ev_iast 40 21 dX10_image_39 ak75 an75 rfl).trans (mm_ite ((ev_aload_n 41 dX10_image_40 rfl rfl).trans ((ev_getF 44 75 dX10_image_41 fl_10_105 oc47 ak47 rfl rf_47_47 rfl).trans ((ev_iconst 45 (v := 3) dX10_image_44 rfl rfl).trans ((ev_iload_n 46 dX10_image_45 rfl rfl).trans ((ev_imul 47 dX10_image_46 rfl).trans ((ev_iconst 48 (v := 1) dX10_image_47 rfl rfl).trans ((ev_iadd 49 dX10_image_48 rfl).trans ((ev_aload_n 50 dX10_image_49 rfl rfl).trans ((ev_getF 53 72 dX10_image_50 fl_10_93 oc47 ak47 rfl rf_47_41 rfl).trans ((ev_iload_n 54 dX10_image_53 rfl rfl).trans ((ev_iald 55 7 dX10_image_54 ak72 an72 rfl).trans (mm_ite ((ev_iast 56 21 dX10_image_55 ak75 an75 rfl).trans (mm_ite ((ev_aload_n 57 dX10_image_56 rfl rfl).trans ((ev_getF 60 75 dX10_image_57 fl_10_105 oc47 ak47 rfl rf_47_47 rfl).trans ((ev_iconst 61 (v := 3) dX10_image_60 rfl rfl).trans ((ev_iload_n 62 dX10_image_61 rfl rfl).trans ((ev_imul 63 dX10_image_62 rfl).trans ((ev_iconst 64 (v := 2) dX10_image_63 rfl rfl).trans ((ev_iadd 65 dX10_image_64 rfl).trans ((ev_aload_n 66 dX10_image_65 rfl rfl).trans ((ev_getF 69 73 dX10_image_66 fl_10_96 oc47 ak47 rfl rf_47_42 rfl).trans ((ev_iload_n 70 dX10_image_69 rfl rfl).trans ((ev_iald 71 7 dX10_image_70 ak73 an73 rfl).trans (mm_ite ((ev_iast 72 21 dX10_image_71 ak75 an75 rfl).trans (mm_ite ((ev_iinc 75 [some (vR 47), some (vI (w32 (a1 + 1)))] dX10_image_72 rfl rfl rfl).trans (ev_goto 18 dX10_image_75 rfl)) (rfl))) (rfl))))))))))))) (rfl))) (rfl))))))))))))) (rfl))) (rfl)))))))))))))))
theorem X10_image_80 (h : mm_M) (a1 : Int) : mm_ev mX10_image 1 80 [some (vR 47), some (vI a1)] [] h = if 4 ≤ a1 then some ([vI (h 47 43)], h) else if 0 ≤ a1 ∧ a1 < 4 then if 0 ≤ a1 ∧ a1 < 4 then mm_ev mX10_image 1 80 [some (vR 47), some (vI (w32 (a1 + 1)))] [] (mUp h 76 a1 (h 74 a1)) else none else none := (ev_iload_n 81 dX10_image_80 rfl rfl).trans ((ev_iconst 82 (v := 4) dX10_image_81 rfl rfl).trans ((ev_ic_ge 103 85 dX10_image_82 rfl rfl).trans (mm_ite ((ev_aload_n 104 dX10_image_103 rfl rfl).trans ((ev_getI 107 43 dX10_image_104 fl_10_186 oc47 ak47 (by decide) rfl rfl).trans (ev_iret dX10_image_107 rfl))) ((ev_aload_n 86 dX10_image_85 rfl rfl).trans ((ev_getF 89 76 dX10_image_86 fl_10_108 oc47 ak47 rfl rf_47_48 rfl).trans ((ev_iload_n 90 dX10_image_89 rfl rfl).trans ((ev_aload_n 91 dX10_image_90 rfl rfl).trans ((ev_getF 94 74 dX10_image_91 fl_10_99 oc47 ak47 rfl rf_47_44 rfl).trans ((ev_iload_n 95 dX10_image_94 rfl rfl).trans ((ev_iald 96 4 dX10_image_95 ak74 an74 rfl).trans (mm_ite ((ev_iast 97 4 dX10_image_96 ak76 an76 rfl).trans (mm_ite ((ev_iinc 100 [some (vR 47), some (vI (w32 (a1 + 1)))] dX10_image_97 rfl rfl rfl).trans (ev_goto 80 dX10_image_100 rfl)) (rfl))) (rfl))))))))))))
theorem dX10_led_0 : decode mX10_led.1 0 = .ok (.iload_n 1, 1) := by decide +kernel
theorem dX10_led_1 : decode mX10_led.1 1 = .ok (.iconst 4, 1) := by decide +kernel
theorem dX10_led_2 : decode mX10_led.1 2 = .ok (.if_icmp .ne 8, 3) := by decide +kernel
theorem dX10_led_5 : decode mX10_led.1 5 = .ok (.aload_n 0, 1) := by decide +kernel
theorem dX10_led_6 : decode mX10_led.1 6 = .ok (.getfield 186, 3) := by decide +kernel
theorem dX10_led_9 : decode mX10_led.1 9 = .ok (.ireturn, 1) := by decide +kernel
theorem dX10_led_10 : decode mX10_led.1 10 = .ok (.iload_n 1, 1) := by decide +kernel
theorem dX10_led_11 : decode mX10_led.1 11 = .ok (.iconst 0, 1) := by decide +kernel
theorem dX10_led_12 : decode mX10_led.1 12 = .ok (.iconst 3, 1) := by decide +kernel
theorem dX10_led_13 : decode mX10_led.1 13 = .ok (.invokestatic 136, 3) := by decide +kernel
theorem dX10_led_16 : decode mX10_led.1 16 = .ok (.ifCond .eq 12, 3) := by decide +kernel
theorem dX10_led_19 : decode mX10_led.1 19 = .ok (.aload_n 0, 1) := by decide +kernel
theorem dX10_led_20 : decode mX10_led.1 20 = .ok (.getfield 99, 3) := by decide +kernel
theorem dX10_led_23 : decode mX10_led.1 23 = .ok (.iload_n 1, 1) := by decide +kernel
theorem dX10_led_24 : decode mX10_led.1 24 = .ok (.iaload, 1) := by decide +kernel
theorem dX10_led_25 : decode mX10_led.1 25 = .ok (.goto 4, 3) := by decide +kernel
theorem dX10_led_28 : decode mX10_led.1 28 = .ok (.iconst (-1), 1) := by decide +kernel
theorem dX10_led_29 : decode mX10_led.1 29 = .ok (.ireturn, 1) := by decide +kernel
theorem X10_led_0 (h : mm_M) (a1 : Int) : mm_ev mX10_led 2 0 [some (vR 47), some (vI a1)] [] h = if ¬ a1 = 4 then (mm_call mX10_in [vI a1, vI 0, vI 3] h).bind (fun w => mm_ev mX10_led 2 16 [some (vR 47), some (vI a1)] (w.1 ++ []) w.2) else some ([vI (h 47 43)], h) := (ev_iload_n 1 dX10_led_0 rfl rfl).trans ((ev_iconst 2 (v := 4) dX10_led_1 rfl rfl).trans ((ev_ic_ne 10 5 dX10_led_2 rfl rfl).trans (mm_ite ((ev_iload_n 11 dX10_led_10 rfl rfl).trans ((ev_iconst 12 (v := 0) dX10_led_11 rfl rfl).trans ((ev_iconst 13 (v := 3) dX10_led_12 rfl rfl).trans ((ev_calls mX10_in [vI a1, vI 0, vI 3] [] 16 dX10_led_13 ml_10_136 k143 rfl rfl rfl (Nat.le_of_ble_eq_true rfl) (Nat.le_of_ble_eq_true rfl) rfl).trans (if_pos (show 1 < 2 from by decide)))))) ((ev_aload_n 6 dX10_led_5 rfl rfl).trans ((ev_getI 9 43 dX10_led_6 fl_10_186 oc47 ak47 (by decide) rfl rfl).trans (ev_iret dX10_led_9 rfl))))))
theorem X10_led_c (h : mm_M) (a1 : Int) : mm_call mX10_led [vR 47, vI a1] h = if ¬ a1 = 4 then (mm_call mX10_in [vI a1, vI 0, vI 3] h).bind (fun w => mm_ev mX10_led 2 16 [some (vR 47), some (vI a1)] (w.1 ++ []) w.2) else some ([vI (h 47 43)], h) := X10_led_0 h a1
theorem X10_led_16 (h : mm_M) (a1 : Int) (s0 : Int) : mm_ev mX10_led 2 16 [some (vR 47), some (vI a1)] [vI s0] h = if s0 = 0 then some ([vI (-1)], h) else if 0 ≤ a1 ∧ a1 < 4 then some ([vI (h 74 a1)], h) else none := (ev_if_eq 28 19 dX10_led_16 rfl rfl).trans (mm_ite ((ev_iconst 29 (v := (-1)) dX10_led_28 rfl rfl).trans (ev_iret dX10_led_29 rfl)) ((ev_aload_n 20 dX10_led_19 rfl rfl).trans ((ev_getF 23 74 dX10_led_20 fl_10_99 oc47 ak47 rfl rf_47_44 rfl).trans ((ev_iload_n 24 dX10_led_23 rfl rfl).trans ((ev_iald 25 4 dX10_led_24 ak74 an74 rfl).trans (mm_ite ((ev_goto 29 dX10_led_25 rfl).trans (ev_iret dX10_led_29 rfl)) (rfl)))))))
theorem dX10_ask_0 : decode mX10_ask.1 0 = .ok (.aload_n 0, 1) := by decide +kernel
theorem dX10_ask_1 : decode mX10_ask.1 1 = .ok (.iload_n 1, 1) := by decide +kernel
theorem dX10_ask_2 : decode mX10_ask.1 2 = .ok (.invokevirtual 170, 3) := by decide +kernel
theorem dX10_ask_5 : decode mX10_ask.1 5 = .ok (.ifCond .eq 10, 3) := by decide +kernel
theorem dX10_ask_8 : decode mX10_ask.1 8 = .ok (.iload_n 2, 1) := by decide +kernel
theorem dX10_ask_9 : decode mX10_ask.1 9 = .ok (.invokestatic 173, 3) := by decide +kernel
theorem dX10_ask_12 : decode mX10_ask.1 12 = .ok (.ifCond .ne 5, 3) := by decide +kernel
theorem dX10_ask_15 : decode mX10_ask.1 15 = .ok (.iconst (-1), 1) := by decide +kernel
theorem dX10_ask_16 : decode mX10_ask.1 16 = .ok (.ireturn, 1) := by decide +kernel
theorem dX10_ask_17 : decode mX10_ask.1 17 = .ok (.aload_n 0, 1) := by decide +kernel
theorem dX10_ask_18 : decode mX10_ask.1 18 = .ok (.getfield 99, 3) := by decide +kernel
theorem dX10_ask_21 : decode mX10_ask.1 21 = .ok (.iconst 2, 1) := by decide +kernel
theorem dX10_ask_22 : decode mX10_ask.1 22 = .ok (.dup2, 1) := by decide +kernel
theorem dX10_ask_23 : decode mX10_ask.1 23 = .ok (.iaload, 1) := by decide +kernel
theorem dX10_ask_24 : decode mX10_ask.1 24 = .ok (.iconst 1, 1) := by decide +kernel
theorem dX10_ask_25 : decode mX10_ask.1 25 = .ok (.iadd, 1) := by decide +kernel
theorem dX10_ask_26 : decode mX10_ask.1 26 = .ok (.iastore, 1) := by decide +kernel
theorem dX10_ask_27 : decode mX10_ask.1 27 = .ok (.iload_n 2, 1) := by decide +kernel
theorem dX10_ask_28 : decode mX10_ask.1 28 = .ok (.aload_n 0, 1) := by decide +kernel
theorem dX10_ask_29 : decode mX10_ask.1 29 = .ok (.getfield 90, 3) := by decide +kernel
theorem dX10_ask_32 : decode mX10_ask.1 32 = .ok (.iload_n 1, 1) := by decide +kernel
theorem dX10_ask_33 : decode mX10_ask.1 33 = .ok (.iaload, 1) := by decide +kernel
theorem dX10_ask_34 : decode mX10_ask.1 34 = .ok (.if_icmp .eq 31, 3) := by decide +kernel
theorem dX10_ask_37 : decode mX10_ask.1 37 = .ok (.iload_n 2, 1) := by decide +kernel
theorem dX10_ask_38 : decode mX10_ask.1 38 = .ok (.aload_n 0, 1) := by decide +kernel
theorem dX10_ask_39 : decode mX10_ask.1 39 = .ok (.getfield 93, 3) := by decide +kernel
theorem dX10_ask_42 : decode mX10_ask.1 42 = .ok (.iload_n 1, 1) := by decide +kernel
theorem dX10_ask_43 : decode mX10_ask.1 43 = .ok (.iaload, 1) := by decide +kernel
theorem dX10_ask_44 : decode mX10_ask.1 44 = .ok (.if_icmp .ne 25, 3) := by decide +kernel
theorem dX10_ask_47 : decode mX10_ask.1 47 = .ok (.aload_n 0, 1) := by decide +kernel
theorem dX10_ask_48 : decode mX10_ask.1 48 = .ok (.getfield 186, 3) := by decide +kernel
theorem dX10_ask_51 : decode mX10_ask.1 51 = .ok (.aload_n 0, 1) := by decide +kernel
theorem dX10_ask_52 : decode mX10_ask.1 52 = .ok (.getfield 96, 3) := by decide +kernel
theorem dX10_ask_55 : decode mX10_ask.1 55 = .ok (.iload_n 1, 1) := by decide +kernel
theorem dX10_ask_56 : decode mX10_ask.1 56 = .ok (.iaload, 1) := by decide +kernel
theorem dX10_ask_57 : decode mX10_ask.1 57 = .ok (.aload_n 0, 1) := by decide +kernel
theorem dX10_ask_58 : decode mX10_ask.1 58 = .ok (.getfield 40, 3) := by decide +kernel
theorem dX10_ask_61 : decode mX10_ask.1 61 = .ok (.iadd, 1) := by decide +kernel
theorem dX10_ask_62 : decode mX10_ask.1 62 = .ok (.if_icmp .ge 7, 3) := by decide +kernel
theorem dX10_ask_65 : decode mX10_ask.1 65 = .ok (.iconst 1, 1) := by decide +kernel
theorem dX10_ask_66 : decode mX10_ask.1 66 = .ok (.goto 4, 3) := by decide +kernel
theorem dX10_ask_69 : decode mX10_ask.1 69 = .ok (.iconst 0, 1) := by decide +kernel
theorem dX10_ask_70 : decode mX10_ask.1 70 = .ok (.istore_n 3, 1) := by decide +kernel
theorem dX10_ask_71 : decode mX10_ask.1 71 = .ok (.iload_n 3, 1) := by decide +kernel
theorem dX10_ask_72 : decode mX10_ask.1 72 = .ok (.ifCond .eq 13, 3) := by decide +kernel
theorem dX10_ask_75 : decode mX10_ask.1 75 = .ok (.aload_n 0, 1) := by decide +kernel
theorem dX10_ask_76 : decode mX10_ask.1 76 = .ok (.getfield 99, 3) := by decide +kernel
theorem dX10_ask_79 : decode mX10_ask.1 79 = .ok (.iconst 3, 1) := by decide +kernel
theorem dX10_ask_80 : decode mX10_ask.1 80 = .ok (.dup2, 1) := by decide +kernel
theorem dX10_ask_81 : decode mX10_ask.1 81 = .ok (.iaload, 1) := by decide +kernel
theorem dX10_ask_82 : decode mX10_ask.1 82 = .ok (.iconst 1, 1) := by decide +kernel
theorem dX10_ask_83 : decode mX10_ask.1 83 = .ok (.iadd, 1) := by decide +kernel
theorem dX10_ask_84 : decode mX10_ask.1 84 = .ok (.iastore, 1) := by decide +kernel
theorem dX10_ask_85 : decode mX10_ask.1 85 = .ok (.iload_n 3, 1) := by decide +kernel
theorem dX10_ask_86 : decode mX10_ask.1 86 = .ok (.ifCond .eq 7, 3) := by decide +kernel
theorem dX10_ask_89 : decode mX10_ask.1 89 = .ok (.iconst 1, 1) := by decide +kernel
theorem dX10_ask_90 : decode mX10_ask.1 90 = .ok (.goto 4, 3) := by decide +kernel
theorem dX10_ask_93 : decode mX10_ask.1 93 = .ok (.iconst 0, 1) := by decide +kernel
theorem dX10_ask_94 : decode mX10_ask.1 94 = .ok (.ireturn, 1) := by decide +kernel
theorem X10_ask_0 (h : mm_M) (a1 : Int) (a2 : Int) : mm_ev mX10_ask 3 0 [some (vR 47), some (vI a1), some (vI a2), none] [] h = (mm_call mX10_isPost [vR 47, vI a1] h).bind (fun w => mm_ev mX10_ask 3 5 [some (vR 47), some (vI a1), some (vI a2), none] (w.1 ++ []) w.2) := (ev_aload_n 1 dX10_ask_0 rfl rfl).trans ((ev_iload_n 2 dX10_ask_1 rfl rfl).trans ((ev_callv mX10_isPost [vR 47, vI a1] [] 5 dX10_ask_2 ml_10_170 k145 rfl oc47 ak47 rfl rfl (Nat.le_of_ble_eq_true rfl) (Nat.le_of_ble_eq_true rfl) rfl).trans (if_pos (show 2 < 3 from by decide))))
theorem X10_ask_c (h : mm_M) (a1 : Int) (a2 : Int) : mm_call mX10_ask [vR 47, vI a1, vI a2] h = (mm_call mX10_isPost [vR 47, vI a1] h).bind (fun w => mm_ev mX10_ask 3 5 [some (vR 47), some (vI a1), some (vI a2), none] (w.1 ++ []) w.2) := X10_ask_0 h a1 a2
theorem X10_ask_5 (h : mm_M) (a1 : Int) (a2 : Int) (s0 : Int) : mm_ev mX10_ask 3 5 [some (vR 47), some (vI a1), some (vI a2), none] [vI s0] h = if s0 = 0 then some ([vI (-1)], h) else (mm_call mX10_isWord [vI a2] h).bind (fun w => mm_ev mX10_ask 3 12 [some (vR 47), some (vI a1), some (vI a2), none] (w.1 ++ []) w.2) := (ev_if_eq 15 8 dX10_ask_5 rfl rfl).trans (mm_ite ((ev_iconst 16 (v := (-1)) dX10_ask_15 rfl rfl).trans (ev_iret dX10_ask_16 rfl)) ((ev_iload_n 9 dX10_ask_8 rfl rfl).trans ((ev_calls mX10_isWord [vI a2] [] 12 dX10_ask_9 ml_10_173 k146 rfl rfl rfl (Nat.le_of_ble_eq_true rfl) (Nat.le_of_ble_eq_true rfl) rfl).trans (if_pos (show 2 < 3 from by decide)))))
theorem X10_ask_12 (h : mm_M) (a1 : Int) (a2 : Int) (s0 : Int) : mm_ev mX10_ask 3 12 [some (vR 47), some (vI a1), some (vI a2), none] [vI s0] h = if ¬ s0 = 0 then if 0 ≤ 2 ∧ 2 < 4 then if 0 ≤ 2 ∧ 2 < 4 then if 0 ≤ a1 ∧ a1 < 7 then if a2 = ((mUp h 74 2 (w32 ((h 74 2) + 1))) 71 a1) then mm_ev mX10_ask 3 70 [some (vR 47), some (vI a1), some (vI a2), none] [vI 1] (mUp h 74 2 (w32 ((h 74 2) + 1))) else if 0 ≤ a1 ∧ a1 < 7 then if ¬ a2 = ((mUp h 74 2 (w32 ((h 74 2) + 1))) 72 a1) then mm_ev mX10_ask 3 70 [some (vR 47), some (vI a1), some (vI a2), none] [vI 0] (mUp h 74 2 (w32 ((h 74 2) + 1))) else if 0 ≤ a1 ∧ a1 < 7 then if (w32 (((mUp h 74 2 (w32 ((h 74 2) + 1))) 73 a1) + ((mUp h 74 2 (w32 ((h 74 2) + 1))) 47 13))) ≤ ((mUp h 74 2 (w32 ((h 74 2) + 1))) 47 43) then mm_ev mX10_ask 3 70 [some (vR 47), some (vI a1), some (vI a2), none] [vI 0] (mUp h 74 2 (w32 ((h 74 2) + 1))) else mm_ev mX10_ask 3 70 [some (vR 47), some (vI a1), some (vI a2), none] [vI 1] (mUp h 74 2 (w32 ((h 74 2) + 1))) else none else none else none else none else none else some ([vI (-1)], h) := (ev_if_ne 17 15 dX10_ask_12 rfl rfl).trans (mm_ite ((ev_aload_n 18 dX10_ask_17 rfl rfl).trans ((ev_getF 21 74 dX10_ask_18 fl_10_99 oc47 ak47 rfl rf_47_44 rfl).trans ((ev_iconst 22 (v := 2) dX10_ask_21 rfl rfl).trans ((ev_dup2 23 dX10_ask_22 rfl rfl).trans ((ev_iald 24 4 dX10_ask_23 ak74 an74 rfl).trans (mm_ite ((ev_iconst 25 (v := 1) dX10_ask_24 rfl rfl).trans ((ev_iadd 26 dX10_ask_25 rfl).trans ((ev_iast 27 4 dX10_ask_26 ak74 an74 rfl).trans (mm_ite ((ev_iload_n 28 dX10_ask_27 rfl rfl).trans ((ev_aload_n 29 dX10_ask_28 rfl rfl).trans ((ev_getF 32 71 dX10_ask_29 fl_10_90 oc47 ak47 rfl rf_47_40 rfl).trans ((ev_iload_n 33 dX10_ask_32 rfl rfl).trans ((ev_iald 34 7 dX10_ask_33 ak71 an71 rfl).trans (mm_ite ((ev_ic_eq 65 37 dX10_ask_34 rfl rfl).trans (mm_ite ((ev_iconst 66 (v := 1) dX10_ask_65 rfl rfl).trans (ev_goto 70 dX10_ask_66 rfl)) ((ev_iload_n 38 dX10_ask_37 rfl rfl).trans ((ev_aload_n 39 dX10_ask_38 rfl rfl).trans ((ev_getF 42 72 dX10_ask_39 fl_10_93 oc47 ak47 rfl rf_47_41 rfl).trans ((ev_iload_n 43 dX10_ask_42 rfl rfl).trans ((ev_iald 44 7 dX10_ask_43 ak72 an72 rfl).trans (mm_ite ((ev_ic_ne 69 47 dX10_ask_44 rfl rfl).trans (mm_ite (ev_iconst 70 (v := 0) dX10_ask_69 rfl rfl) ((ev_aload_n 48 dX10_ask_47 rfl rfl).trans ((ev_getI 51 43 dX10_ask_48 fl_10_186 oc47 ak47 (by decide) rfl rfl).trans ((ev_aload_n 52 dX10_ask_51 rfl rfl).trans ((ev_getF 55 73 dX10_ask_52 fl_10_96 oc47 ak47 rfl rf_47_42 rfl).trans ((ev_iload_n 56 dX10_ask_55 rfl rfl).trans ((ev_iald 57 7 dX10_ask_56 ak73 an73 rfl).trans (mm_ite ((ev_aload_n 58 dX10_ask_57 rfl rfl).trans ((ev_getI 61 13 dX10_ask_58 fl_10_40 oc47 ak47 (by decide) rfl rfl).trans ((ev_iadd 62 dX10_ask_61 rfl).trans ((ev_ic_ge 69 65 dX10_ask_62 rfl rfl).trans (mm_ite (ev_iconst 70 (v := 0) dX10_ask_69 rfl rfl) ((ev_iconst 66 (v := 1) dX10_ask_65 rfl rfl).trans (ev_goto 70 dX10_ask_66 rfl))))))) (rfl)))))))))) (rfl))))))))) (rfl))))))) (rfl))))) (rfl))))))) ((ev_iconst 16 (v := (-1)) dX10_ask_15 rfl rfl).trans (ev_iret dX10_ask_16 rfl)))
theorem X10_ask_70 (h : mm_M) (a1 : Int) (a2 : Int) (s0 : Int) : mm_ev mX10_ask 3 70 [some (vR 47), some (vI a1), some (vI a2), none] [vI s0] h = if s0 = 0 then mm_ev mX10_ask 3 85 [some (vR 47), some (vI a1), some (vI a2), some (vI s0)] [] h else if 0 ≤ 3 ∧ 3 < 4 then if 0 ≤ 3 ∧ 3 < 4 then mm_ev mX10_ask 3 85 [some (vR 47), some (vI a1), some (vI a2), some (vI s0)] [] (mUp h 74 3 (w32 ((h 74 3) + 1))) else none else none := (ev_istore_n 71 [some (vR 47), some (vI a1), some (vI a2), some (vI s0)] dX10_ask_70 rfl rfl).trans ((ev_iload_n 72 dX10_ask_71 rfl rfl).trans ((ev_if_eq 85 75 dX10_ask_72 rfl rfl).trans (mm_ite (rfl) ((ev_aload_n 76 dX10_ask_75 rfl rfl).trans ((ev_getF 79 74 dX10_ask_76 fl_10_99 oc47 ak47 rfl rf_47_44 rfl).trans ((ev_iconst 80 (v := 3) dX10_ask_79 rfl rfl).trans ((ev_dup2 81 dX10_ask_80 rfl rfl).trans ((ev_iald 82 4 dX10_ask_81 ak74 an74 rfl).trans (mm_ite ((ev_iconst 83 (v := 1) dX10_ask_82 rfl rfl).trans ((ev_iadd 84 dX10_ask_83 rfl).trans (ev_iast 85 4 dX10_ask_84 ak74 an74 rfl))) (rfl))))))))))
theorem X10_ask_85 (h : mm_M) (a1 : Int) (a2 : Int) (a3 : Int) : mm_ev mX10_ask 3 85 [some (vR 47), some (vI a1), some (vI a2), some (vI a3)] [] h = if a3 = 0 then some ([vI 0], h) else some ([vI 1], h) := (ev_iload_n 86 dX10_ask_85 rfl rfl).trans ((ev_if_eq 93 89 dX10_ask_86 rfl rfl).trans (mm_ite ((ev_iconst 94 (v := 0) dX10_ask_93 rfl rfl).trans (ev_iret dX10_ask_94 rfl)) ((ev_iconst 90 (v := 1) dX10_ask_89 rfl rfl).trans ((ev_goto 94 dX10_ask_90 rfl).trans (ev_iret dX10_ask_94 rfl)))))
theorem dX10_isPost_0 : decode mX10_isPost.1 0 = .ok (.iload_n 1, 1) := by decide +kernel
theorem dX10_isPost_1 : decode mX10_isPost.1 1 = .ok (.iconst 0, 1) := by decide +kernel
theorem dX10_isPost_2 : decode mX10_isPost.1 2 = .ok (.aload_n 0, 1) := by decide +kernel
theorem dX10_isPost_3 : decode mX10_isPost.1 3 = .ok (.getfield 133, 3) := by decide +kernel
theorem dX10_isPost_6 : decode mX10_isPost.1 6 = .ok (.iconst 1, 1) := by decide +kernel
theorem dX10_isPost_7 : decode mX10_isPost.1 7 = .ok (.isub, 1) := by decide +kernel
theorem dX10_isPost_8 : decode mX10_isPost.1 8 = .ok (.invokestatic 136, 3) := by decide +kernel
theorem dX10_isPost_11 : decode mX10_isPost.1 11 = .ok (.ireturn, 1) := by decide +kernel
theorem X10_isPost_0 (h : mm_M) (a1 : Int) : mm_ev mX10_isPost 2 0 [some (vR 47), some (vI a1)] [] h = (mm_call mX10_in [vI a1, vI 0, vI (w32 ((h 47 1) - 1))] h).bind (fun w => mm_ev mX10_isPost 2 11 [some (vR 47), some (vI a1)] (w.1 ++ []) w.2) := (ev_iload_n 1 dX10_isPost_0 rfl rfl).trans ((ev_iconst 2 (v := 0) dX10_isPost_1 rfl rfl).trans ((ev_aload_n 3 dX10_isPost_2 rfl rfl).trans ((ev_getI 6 1 dX10_isPost_3 fl_10_133 oc47 ak47 (by decide) rfl rfl).trans ((ev_iconst 7 (v := 1) dX10_isPost_6 rfl rfl).trans ((ev_isub 8 dX10_isPost_7 rfl).trans ((ev_calls mX10_in [vI a1, vI 0, vI (w32 ((h 47 1) - 1))] [] 11 dX10_isPost_8 ml_10_136 k143 rfl rfl rfl (Nat.le_of_ble_eq_true rfl) (Nat.le_of_ble_eq_true rfl) rfl).trans (if_pos (show 1 < 2 from by decide))))))))
theorem X10_isPost_c (h : mm_M) (a1 : Int) : mm_call mX10_isPost [vR 47, vI a1] h = (mm_call mX10_in [vI a1, vI 0, vI (w32 ((h 47 1) - 1))] h).bind (fun w => mm_ev mX10_isPost 2 11 [some (vR 47), some (vI a1)] (w.1 ++ []) w.2) := X10_isPost_0 h a1
theorem X10_isPost_11 (h : mm_M) (a1 : Int) (s0 : Int) : mm_ev mX10_isPost 2 11 [some (vR 47), some (vI a1)] [vI s0] h = if s0 = 0 ∨ s0 = 1 then some ([vI s0], h) else none := ev_zret dX10_isPost_11 rfl
theorem dX10_isWord_0 : decode mX10_isWord.1 0 = .ok (.iload_n 0, 1) := by decide +kernel
theorem dX10_isWord_1 : decode mX10_isWord.1 1 = .ok (.iconst 0, 1) := by decide +kernel
theorem dX10_isWord_2 : decode mX10_isWord.1 2 = .ok (.bipush 9, 2) := by decide +kernel
theorem dX10_isWord_4 : decode mX10_isWord.1 4 = .ok (.invokestatic 136, 3) := by decide +kernel
theorem dX10_isWord_7 : decode mX10_isWord.1 7 = .ok (.ireturn, 1) := by decide +kernel
theorem X10_isWord_0 (h : mm_M) (a0 : Int) : mm_ev mX10_isWord 2 0 [some (vI a0)] [] h = (mm_call mX10_in [vI a0, vI 0, vI 9] h).bind (fun w => mm_ev mX10_isWord 2 7 [some (vI a0)] (w.1 ++ []) w.2) := (ev_iload_n 1 dX10_isWord_0 rfl rfl).trans ((ev_iconst 2 (v := 0) dX10_isWord_1 rfl rfl).trans ((ev_bipush 4 (v := 9) dX10_isWord_2 rfl rfl).trans ((ev_calls mX10_in [vI a0, vI 0, vI 9] [] 7 dX10_isWord_4 ml_10_136 k143 rfl rfl rfl (Nat.le_of_ble_eq_true rfl) (Nat.le_of_ble_eq_true rfl) rfl).trans (if_pos (show 1 < 2 from by decide)))))
theorem X10_isWord_c (h : mm_M) (a0 : Int) : mm_call mX10_isWord [vI a0] h = (mm_call mX10_in [vI a0, vI 0, vI 9] h).bind (fun w => mm_ev mX10_isWord 2 7 [some (vI a0)] (w.1 ++ []) w.2) := X10_isWord_0 h a0
theorem X10_isWord_7 (h : mm_M) (a0 : Int) (s0 : Int) : mm_ev mX10_isWord 2 7 [some (vI a0)] [vI s0] h = if s0 = 0 ∨ s0 = 1 then some ([vI s0], h) else none := ev_zret dX10_isWord_7 rfl
theorem dX10_stay_0 : decode mX10_stay.1 0 = .ok (.iload_n 1, 1) := by decide +kernel
theorem dX10_stay_1 : decode mX10_stay.1 1 = .ok (.iconst 1, 1) := by decide +kernel
theorem dX10_stay_2 : decode mX10_stay.1 2 = .ok (.sipush 999, 3) := by decide +kernel
theorem dX10_stay_5 : decode mX10_stay.1 5 = .ok (.invokestatic 136, 3) := by decide +kernel
theorem dX10_stay_8 : decode mX10_stay.1 8 = .ok (.ifCond .ne 5, 3) := by decide +kernel
theorem dX10_stay_11 : decode mX10_stay.1 11 = .ok (.iconst (-1), 1) := by decide +kernel
theorem dX10_stay_12 : decode mX10_stay.1 12 = .ok (.ireturn, 1) := by decide +kernel
theorem dX10_stay_13 : decode mX10_stay.1 13 = .ok (.aload_n 0, 1) := by decide +kernel
theorem dX10_stay_14 : decode mX10_stay.1 14 = .ok (.getfield 186, 3) := by decide +kernel
theorem dX10_stay_17 : decode mX10_stay.1 17 = .ok (.iload_n 1, 1) := by decide +kernel
theorem dX10_stay_18 : decode mX10_stay.1 18 = .ok (.iadd, 1) := by decide +kernel
theorem dX10_stay_19 : decode mX10_stay.1 19 = .ok (.sipush 9999, 3) := by decide +kernel
theorem dX10_stay_22 : decode mX10_stay.1 22 = .ok (.if_icmp .le 6, 3) := by decide +kernel
theorem dX10_stay_25 : decode mX10_stay.1 25 = .ok (.bipush (-5), 2) := by decide +kernel
theorem dX10_stay_27 : decode mX10_stay.1 27 = .ok (.ireturn, 1) := by decide +kernel
theorem dX10_stay_28 : decode mX10_stay.1 28 = .ok (.aload_n 0, 1) := by decide +kernel
theorem dX10_stay_29 : decode mX10_stay.1 29 = .ok (.dup, 1) := by decide +kernel
theorem dX10_stay_30 : decode mX10_stay.1 30 = .ok (.getfield 186, 3) := by decide +kernel
theorem dX10_stay_33 : decode mX10_stay.1 33 = .ok (.iload_n 1, 1) := by decide +kernel
theorem dX10_stay_34 : decode mX10_stay.1 34 = .ok (.iadd, 1) := by decide +kernel
theorem dX10_stay_35 : decode mX10_stay.1 35 = .ok (.putfield 186, 3) := by decide +kernel
theorem dX10_stay_38 : decode mX10_stay.1 38 = .ok (.aload_n 0, 1) := by decide +kernel
theorem dX10_stay_39 : decode mX10_stay.1 39 = .ok (.getfield 186, 3) := by decide +kernel
theorem dX10_stay_42 : decode mX10_stay.1 42 = .ok (.ireturn, 1) := by decide +kernel
theorem X10_stay_0 (h : mm_M) (a1 : Int) : mm_ev mX10_stay 2 0 [some (vR 47), some (vI a1)] [] h = (mm_call mX10_in [vI a1, vI 1, vI 999] h).bind (fun w => mm_ev mX10_stay 2 8 [some (vR 47), some (vI a1)] (w.1 ++ []) w.2) := (ev_iload_n 1 dX10_stay_0 rfl rfl).trans ((ev_iconst 2 (v := 1) dX10_stay_1 rfl rfl).trans ((ev_sipush 5 (v := 999) dX10_stay_2 rfl rfl).trans ((ev_calls mX10_in [vI a1, vI 1, vI 999] [] 8 dX10_stay_5 ml_10_136 k143 rfl rfl rfl (Nat.le_of_ble_eq_true rfl) (Nat.le_of_ble_eq_true rfl) rfl).trans (if_pos (show 1 < 2 from by decide)))))
theorem X10_stay_c (h : mm_M) (a1 : Int) : mm_call mX10_stay [vR 47, vI a1] h = (mm_call mX10_in [vI a1, vI 1, vI 999] h).bind (fun w => mm_ev mX10_stay 2 8 [some (vR 47), some (vI a1)] (w.1 ++ []) w.2) := X10_stay_0 h a1
theorem X10_stay_8 (h : mm_M) (a1 : Int) (s0 : Int) : mm_ev mX10_stay 2 8 [some (vR 47), some (vI a1)] [vI s0] h = if ¬ s0 = 0 then if (w32 ((h 47 43) + a1)) ≤ 9999 then some ([vI ((mUp h 47 43 (w32 ((h 47 43) + a1))) 47 43)], mUp h 47 43 (w32 ((h 47 43) + a1))) else some ([vI (-5)], h) else some ([vI (-1)], h) := (ev_if_ne 13 11 dX10_stay_8 rfl rfl).trans (mm_ite ((ev_aload_n 14 dX10_stay_13 rfl rfl).trans ((ev_getI 17 43 dX10_stay_14 fl_10_186 oc47 ak47 (by decide) rfl rfl).trans ((ev_iload_n 18 dX10_stay_17 rfl rfl).trans ((ev_iadd 19 dX10_stay_18 rfl).trans ((ev_sipush 22 (v := 9999) dX10_stay_19 rfl rfl).trans ((ev_ic_le 28 25 dX10_stay_22 rfl rfl).trans (mm_ite ((ev_aload_n 29 dX10_stay_28 rfl rfl).trans ((ev_dup 30 dX10_stay_29 rfl rfl).trans ((ev_getI 33 43 dX10_stay_30 fl_10_186 oc47 ak47 (by decide) rfl rfl).trans ((ev_iload_n 34 dX10_stay_33 rfl rfl).trans ((ev_iadd 35 dX10_stay_34 rfl).trans ((ev_putI 38 43 dX10_stay_35 fl_10_186 oc47 ak47 rfl rfl rfl).trans ((ev_aload_n 39 dX10_stay_38 rfl rfl).trans ((ev_getI 42 43 dX10_stay_39 fl_10_186 oc47 ak47 (by decide) rfl rfl).trans (ev_iret dX10_stay_42 rfl))))))))) ((ev_bipush 27 (v := (-5)) dX10_stay_25 rfl rfl).trans (ev_iret dX10_stay_27 rfl))))))))) ((ev_iconst 12 (v := (-1)) dX10_stay_11 rfl rfl).trans (ev_iret dX10_stay_12 rfl)))
theorem dX10_tell_0 : decode mX10_tell.1 0 = .ok (.aload_n 0, 1) := by decide +kernel
theorem dX10_tell_1 : decode mX10_tell.1 1 = .ok (.iload_n 1, 1) := by decide +kernel
theorem dX10_tell_2 : decode mX10_tell.1 2 = .ok (.invokevirtual 170, 3) := by decide +kernel
theorem dX10_tell_5 : decode mX10_tell.1 5 = .ok (.ifCond .eq 7, 3) := by decide +kernel
theorem dX10_tell_8 : decode mX10_tell.1 8 = .ok (.iload_n 1, 1) := by decide +kernel
theorem dX10_tell_9 : decode mX10_tell.1 9 = .ok (.ifCond .ne 5, 3) := by decide +kernel
theorem dX10_tell_12 : decode mX10_tell.1 12 = .ok (.iconst (-1), 1) := by decide +kernel
theorem dX10_tell_13 : decode mX10_tell.1 13 = .ok (.ireturn, 1) := by decide +kernel
theorem dX10_tell_14 : decode mX10_tell.1 14 = .ok (.aload_n 0, 1) := by decide +kernel
theorem dX10_tell_15 : decode mX10_tell.1 15 = .ok (.getfield 99, 3) := by decide +kernel
theorem dX10_tell_18 : decode mX10_tell.1 18 = .ok (.iconst 1, 1) := by decide +kernel
theorem dX10_tell_19 : decode mX10_tell.1 19 = .ok (.dup2, 1) := by decide +kernel
theorem dX10_tell_20 : decode mX10_tell.1 20 = .ok (.iaload, 1) := by decide +kernel
theorem dX10_tell_21 : decode mX10_tell.1 21 = .ok (.iconst 1, 1) := by decide +kernel
theorem dX10_tell_22 : decode mX10_tell.1 22 = .ok (.iadd, 1) := by decide +kernel
theorem dX10_tell_23 : decode mX10_tell.1 23 = .ok (.iastore, 1) := by decide +kernel
theorem dX10_tell_24 : decode mX10_tell.1 24 = .ok (.aload_n 0, 1) := by decide +kernel
theorem dX10_tell_25 : decode mX10_tell.1 25 = .ok (.iload_n 1, 1) := by decide +kernel
theorem dX10_tell_26 : decode mX10_tell.1 26 = .ok (.aload_n 0, 1) := by decide +kernel
theorem dX10_tell_27 : decode mX10_tell.1 27 = .ok (.getfield 90, 3) := by decide +kernel
theorem dX10_tell_30 : decode mX10_tell.1 30 = .ok (.iconst 0, 1) := by decide +kernel
theorem dX10_tell_31 : decode mX10_tell.1 31 = .ok (.iaload, 1) := by decide +kernel
theorem dX10_tell_32 : decode mX10_tell.1 32 = .ok (.invokevirtual 392, 3) := by decide +kernel
theorem dX10_tell_35 : decode mX10_tell.1 35 = .ok (.ireturn, 1) := by decide +kernel
theorem X10_tell_0 (h : mm_M) (a1 : Int) : mm_ev mX10_tell 3 0 [some (vR 47), some (vI a1)] [] h = (mm_call mX10_isPost [vR 47, vI a1] h).bind (fun w => mm_ev mX10_tell 3 5 [some (vR 47), some (vI a1)] (w.1 ++ []) w.2) := (ev_aload_n 1 dX10_tell_0 rfl rfl).trans ((ev_iload_n 2 dX10_tell_1 rfl rfl).trans ((ev_callv mX10_isPost [vR 47, vI a1] [] 5 dX10_tell_2 ml_10_170 k145 rfl oc47 ak47 rfl rfl (Nat.le_of_ble_eq_true rfl) (Nat.le_of_ble_eq_true rfl) rfl).trans (if_pos (show 2 < 3 from by decide))))
theorem X10_tell_c (h : mm_M) (a1 : Int) : mm_call mX10_tell [vR 47, vI a1] h = (mm_call mX10_isPost [vR 47, vI a1] h).bind (fun w => mm_ev mX10_tell 3 5 [some (vR 47), some (vI a1)] (w.1 ++ []) w.2) := X10_tell_0 h a1
theorem X10_tell_5 (h : mm_M) (a1 : Int) (s0 : Int) : mm_ev mX10_tell 3 5 [some (vR 47), some (vI a1)] [vI s0] h = if s0 = 0 then some ([vI (-1)], h) else if ¬ a1 = 0 then if 0 ≤ 1 ∧ 1 < 4 then if 0 ≤ 1 ∧ 1 < 4 then if 0 ≤ 0 ∧ 0 < 7 then (mm_call mX10_getsWord [vR 47, vI a1, vI ((mUp h 74 1 (w32 ((h 74 1) + 1))) 71 0)] (mUp h 74 1 (w32 ((h 74 1) + 1)))).bind (fun w => mm_ev mX10_tell 3 35 [some (vR 47), some (vI a1)] (w.1 ++ []) w.2) else none else none else none else some ([vI (-1)], h) := (ev_if_eq 12 8 dX10_tell_5 rfl rfl).trans (mm_ite ((ev_iconst 13 (v := (-1)) dX10_tell_12 rfl rfl).trans (ev_iret dX10_tell_13 rfl)) ((ev_iload_n 9 dX10_tell_8 rfl rfl).trans ((ev_if_ne 14 12 dX10_tell_9 rfl rfl).trans (mm_ite ((ev_aload_n 15 dX10_tell_14 rfl rfl).trans ((ev_getF 18 74 dX10_tell_15 fl_10_99 oc47 ak47 rfl rf_47_44 rfl).trans ((ev_iconst 19 (v := 1) dX10_tell_18 rfl rfl).trans ((ev_dup2 20 dX10_tell_19 rfl rfl).trans ((ev_iald 21 4 dX10_tell_20 ak74 an74 rfl).trans (mm_ite ((ev_iconst 22 (v := 1) dX10_tell_21 rfl rfl).trans ((ev_iadd 23 dX10_tell_22 rfl).trans ((ev_iast 24 4 dX10_tell_23 ak74 an74 rfl).trans (mm_ite ((ev_aload_n 25 dX10_tell_24 rfl rfl).trans ((ev_iload_n 26 dX10_tell_25 rfl rfl).trans ((ev_aload_n 27 dX10_tell_26 rfl rfl).trans ((ev_getF 30 71 dX10_tell_27 fl_10_90 oc47 ak47 rfl rf_47_40 rfl).trans ((ev_iconst 31 (v := 0) dX10_tell_30 rfl rfl).trans ((ev_iald 32 7 dX10_tell_31 ak71 an71 rfl).trans (mm_ite ((ev_callv mX10_getsWord [vR 47, vI a1, vI ((mUp h 74 1 (w32 ((h 74 1) + 1))) 71 0)] [] 35 dX10_tell_32 ml_10_392 k232 rfl oc47 ak47 rfl rfl (Nat.le_of_ble_eq_true rfl) (Nat.le_of_ble_eq_true rfl) rfl).trans (if_pos (show 1 < 3 from by decide))) (rfl)))))))) (rfl))))) (rfl))))))) ((ev_iconst 13 (v := (-1)) dX10_tell_12 rfl rfl).trans (ev_iret dX10_tell_13 rfl))))))
theorem X10_tell_35 (h : mm_M) (a1 : Int) (s0 : Int) : mm_ev mX10_tell 3 35 [some (vR 47), some (vI a1)] [vI s0] h = some ([vI s0], h) := ev_iret dX10_tell_35 rfl
theorem dX10_getsWord_0 : decode mX10_getsWord.1 0 = .ok (.aload_n 0, 1) := by decide +kernel
theorem dX10_getsWord_1 : decode mX10_getsWord.1 1 = .ok (.getfield 90, 3) := by decide +kernel
theorem dX10_getsWord_4 : decode mX10_getsWord.1 4 = .ok (.iload_n 1, 1) := by decide +kernel
theorem dX10_getsWord_5 : decode mX10_getsWord.1 5 = .ok (.iaload, 1) := by decide +kernel
theorem dX10_getsWord_6 : decode mX10_getsWord.1 6 = .ok (.istore_n 3, 1) := by decide +kernel
theorem dX10_getsWord_7 : decode mX10_getsWord.1 7 = .ok (.aload_n 0, 1) := by decide +kernel
theorem dX10_getsWord_8 : decode mX10_getsWord.1 8 = .ok (.getfield 93, 3) := by decide +kernel
theorem dX10_getsWord_11 : decode mX10_getsWord.1 11 = .ok (.iload_n 1, 1) := by decide +kernel
theorem dX10_getsWord_12 : decode mX10_getsWord.1 12 = .ok (.iload_n 3, 1) := by decide +kernel
theorem dX10_getsWord_13 : decode mX10_getsWord.1 13 = .ok (.iastore, 1) := by decide +kernel
theorem dX10_getsWord_14 : decode mX10_getsWord.1 14 = .ok (.aload_n 0, 1) := by decide +kernel
theorem dX10_getsWord_15 : decode mX10_getsWord.1 15 = .ok (.getfield 90, 3) := by decide +kernel
theorem dX10_getsWord_18 : decode mX10_getsWord.1 18 = .ok (.iload_n 1, 1) := by decide +kernel
theorem dX10_getsWord_19 : decode mX10_getsWord.1 19 = .ok (.iload_n 2, 1) := by decide +kernel
theorem dX10_getsWord_20 : decode mX10_getsWord.1 20 = .ok (.iastore, 1) := by decide +kernel
theorem dX10_getsWord_21 : decode mX10_getsWord.1 21 = .ok (.aload_n 0, 1) := by decide +kernel
theorem dX10_getsWord_22 : decode mX10_getsWord.1 22 = .ok (.getfield 96, 3) := by decide +kernel
theorem dX10_getsWord_25 : decode mX10_getsWord.1 25 = .ok (.iload_n 1, 1) := by decide +kernel
theorem dX10_getsWord_26 : decode mX10_getsWord.1 26 = .ok (.aload_n 0, 1) := by decide +kernel
theorem dX10_getsWord_27 : decode mX10_getsWord.1 27 = .ok (.getfield 186, 3) := by decide +kernel
theorem dX10_getsWord_30 : decode mX10_getsWord.1 30 = .ok (.iastore, 1) := by decide +kernel
theorem dX10_getsWord_31 : decode mX10_getsWord.1 31 = .ok (.iload_n 3, 1) := by decide +kernel
theorem dX10_getsWord_32 : decode mX10_getsWord.1 32 = .ok (.ireturn, 1) := by decide +kernel
theorem X10_getsWord_0 (h : mm_M) (a1 : Int) (a2 : Int) : mm_ev mX10_getsWord 1 0 [some (vR 47), some (vI a1), some (vI a2), none] [] h = if 0 ≤ a1 ∧ a1 < 7 then if 0 ≤ a1 ∧ a1 < 7 then if 0 ≤ a1 ∧ a1 < 7 then if 0 ≤ a1 ∧ a1 < 7 then some ([vI (h 71 a1)], mUp (mUp (mUp h 72 a1 (h 71 a1)) 71 a1 a2) 73 a1 ((mUp (mUp h 72 a1 (h 71 a1)) 71 a1 a2) 47 43)) else none else none else none else none := (ev_aload_n 1 dX10_getsWord_0 rfl rfl).trans ((ev_getF 4 71 dX10_getsWord_1 fl_10_90 oc47 ak47 rfl rf_47_40 rfl).trans ((ev_iload_n 5 dX10_getsWord_4 rfl rfl).trans ((ev_iald 6 7 dX10_getsWord_5 ak71 an71 rfl).trans (mm_ite ((ev_istore_n 7 [some (vR 47), some (vI a1), some (vI a2), some (vI (h 71 a1))] dX10_getsWord_6 rfl rfl).trans ((ev_aload_n 8 dX10_getsWord_7 rfl rfl).trans ((ev_getF 11 72 dX10_getsWord_8 fl_10_93 oc47 ak47 rfl rf_47_41 rfl).trans ((ev_iload_n 12 dX10_getsWord_11 rfl rfl).trans ((ev_iload_n 13 dX10_getsWord_12 rfl rfl).trans ((ev_iast 14 7 dX10_getsWord_13 ak72 an72 rfl).trans (mm_ite ((ev_aload_n 15 dX10_getsWord_14 rfl rfl).trans ((ev_getF 18 71 dX10_getsWord_15 fl_10_90 oc47 ak47 rfl rf_47_40 rfl).trans ((ev_iload_n 19 dX10_getsWord_18 rfl rfl).trans ((ev_iload_n 20 dX10_getsWord_19 rfl rfl).trans ((ev_iast 21 7 dX10_getsWord_20 ak71 an71 rfl).trans (mm_ite ((ev_aload_n 22 dX10_getsWord_21 rfl rfl).trans ((ev_getF 25 73 dX10_getsWord_22 fl_10_96 oc47 ak47 rfl rf_47_42 rfl).trans ((ev_iload_n 26 dX10_getsWord_25 rfl rfl).trans ((ev_aload_n 27 dX10_getsWord_26 rfl rfl).trans ((ev_getI 30 43 dX10_getsWord_27 fl_10_186 oc47 ak47 (by decide) rfl rfl).trans ((ev_iast 31 7 dX10_getsWord_30 ak73 an73 rfl).trans (mm_ite ((ev_iload_n 32 dX10_getsWord_31 rfl rfl).trans (ev_iret dX10_getsWord_32 rfl)) (rfl)))))))) (rfl))))))) (rfl)))))))) (rfl)))))
theorem X10_getsWord_c (h : mm_M) (a1 : Int) (a2 : Int) : mm_call mX10_getsWord [vR 47, vI a1, vI a2] h = if 0 ≤ a1 ∧ a1 < 7 then if 0 ≤ a1 ∧ a1 < 7 then if 0 ≤ a1 ∧ a1 < 7 then if 0 ≤ a1 ∧ a1 < 7 then some ([vI (h 71 a1)], mUp (mUp (mUp h 72 a1 (h 71 a1)) 71 a1 a2) 73 a1 ((mUp (mUp h 72 a1 (h 71 a1)) 71 a1 a2) 47 43)) else none else none else none else none := X10_getsWord_0 h a1 a2
theorem dX10_change_0 : decode mX10_change.1 0 = .ok (.iload_n 1, 1) := by decide +kernel
theorem dX10_change_1 : decode mX10_change.1 1 = .ok (.invokestatic 173, 3) := by decide +kernel
theorem dX10_change_4 : decode mX10_change.1 4 = .ok (.ifCond .ne 5, 3) := by decide +kernel
theorem dX10_change_7 : decode mX10_change.1 7 = .ok (.iconst (-1), 1) := by decide +kernel
theorem dX10_change_8 : decode mX10_change.1 8 = .ok (.ireturn, 1) := by decide +kernel
theorem dX10_change_9 : decode mX10_change.1 9 = .ok (.aload_n 0, 1) := by decide +kernel
theorem dX10_change_10 : decode mX10_change.1 10 = .ok (.getfield 133, 3) := by decide +kernel
theorem dX10_change_13 : decode mX10_change.1 13 = .ok (.ifCond .ne 6, 3) := by decide +kernel
theorem dX10_change_16 : decode mX10_change.1 16 = .ok (.bipush (-5), 2) := by decide +kernel
theorem dX10_change_18 : decode mX10_change.1 18 = .ok (.ireturn, 1) := by decide +kernel
theorem dX10_change_19 : decode mX10_change.1 19 = .ok (.aload_n 0, 1) := by decide +kernel
theorem dX10_change_20 : decode mX10_change.1 20 = .ok (.getfield 99, 3) := by decide +kernel
theorem dX10_change_23 : decode mX10_change.1 23 = .ok (.iconst 0, 1) := by decide +kernel
theorem dX10_change_24 : decode mX10_change.1 24 = .ok (.dup2, 1) := by decide +kernel
theorem dX10_change_25 : decode mX10_change.1 25 = .ok (.iaload, 1) := by decide +kernel
theorem dX10_change_26 : decode mX10_change.1 26 = .ok (.iconst 1, 1) := by decide +kernel
theorem dX10_change_27 : decode mX10_change.1 27 = .ok (.iadd, 1) := by decide +kernel
theorem dX10_change_28 : decode mX10_change.1 28 = .ok (.iastore, 1) := by decide +kernel
theorem dX10_change_29 : decode mX10_change.1 29 = .ok (.aload_n 0, 1) := by decide +kernel
theorem dX10_change_30 : decode mX10_change.1 30 = .ok (.iconst 0, 1) := by decide +kernel
theorem dX10_change_31 : decode mX10_change.1 31 = .ok (.iload_n 1, 1) := by decide +kernel
theorem dX10_change_32 : decode mX10_change.1 32 = .ok (.invokevirtual 392, 3) := by decide +kernel
theorem dX10_change_35 : decode mX10_change.1 35 = .ok (.ireturn, 1) := by decide +kernel
theorem X10_change_0 (h : mm_M) (a1 : Int) : mm_ev mX10_change 3 0 [some (vR 47), some (vI a1)] [] h = (mm_call mX10_isWord [vI a1] h).bind (fun w => mm_ev mX10_change 3 4 [some (vR 47), some (vI a1)] (w.1 ++ []) w.2) := (ev_iload_n 1 dX10_change_0 rfl rfl).trans ((ev_calls mX10_isWord [vI a1] [] 4 dX10_change_1 ml_10_173 k146 rfl rfl rfl (Nat.le_of_ble_eq_true rfl) (Nat.le_of_ble_eq_true rfl) rfl).trans (if_pos (show 2 < 3 from by decide)))
theorem X10_change_c (h : mm_M) (a1 : Int) : mm_call mX10_change [vR 47, vI a1] h = (mm_call mX10_isWord [vI a1] h).bind (fun w => mm_ev mX10_change 3 4 [some (vR 47), some (vI a1)] (w.1 ++ []) w.2) := X10_change_0 h a1
theorem X10_change_4 (h : mm_M) (a1 : Int) (s0 : Int) : mm_ev mX10_change 3 4 [some (vR 47), some (vI a1)] [vI s0] h = if ¬ s0 = 0 then if ¬ (h 47 1) = 0 then if 0 ≤ 0 ∧ 0 < 4 then if 0 ≤ 0 ∧ 0 < 4 then (mm_call mX10_getsWord [vR 47, vI 0, vI a1] (mUp h 74 0 (w32 ((h 74 0) + 1)))).bind (fun w => mm_ev mX10_change 3 35 [some (vR 47), some (vI a1)] (w.1 ++ []) w.2) else none else none else some ([vI (-5)], h) else some ([vI (-1)], h) := (ev_if_ne 9 7 dX10_change_4 rfl rfl).trans (mm_ite ((ev_aload_n 10 dX10_change_9 rfl rfl).trans ((ev_getI 13 1 dX10_change_10 fl_10_133 oc47 ak47 (by decide) rfl rfl).trans ((ev_if_ne 19 16 dX10_change_13 rfl rfl).trans (mm_ite ((ev_aload_n 20 dX10_change_19 rfl rfl).trans ((ev_getF 23 74 dX10_change_20 fl_10_99 oc47 ak47 rfl rf_47_44 rfl).trans ((ev_iconst 24 (v := 0) dX10_change_23 rfl rfl).trans ((ev_dup2 25 dX10_change_24 rfl rfl).trans ((ev_iald 26 4 dX10_change_25 ak74 an74 rfl).trans (mm_ite ((ev_iconst 27 (v := 1) dX10_change_26 rfl rfl).trans ((ev_iadd 28 dX10_change_27 rfl).trans ((ev_iast 29 4 dX10_change_28 ak74 an74 rfl).trans (mm_ite ((ev_aload_n 30 dX10_change_29 rfl rfl).trans ((ev_iconst 31 (v := 0) dX10_change_30 rfl rfl).trans ((ev_iload_n 32 dX10_change_31 rfl rfl).trans ((ev_callv mX10_getsWord [vR 47, vI 0, vI a1] [] 35 dX10_change_32 ml_10_392 k232 rfl oc47 ak47 rfl rfl (Nat.le_of_ble_eq_true rfl) (Nat.le_of_ble_eq_true rfl) rfl).trans (if_pos (show 1 < 3 from by decide)))))) (rfl))))) (rfl))))))) ((ev_bipush 18 (v := (-5)) dX10_change_16 rfl rfl).trans (ev_iret dX10_change_18 rfl)))))) ((ev_iconst 8 (v := (-1)) dX10_change_7 rfl rfl).trans (ev_iret dX10_change_8 rfl)))
theorem X10_change_35 (h : mm_M) (a1 : Int) (s0 : Int) : mm_ev mX10_change 3 35 [some (vR 47), some (vI a1)] [vI s0] h = some ([vI s0], h) := ev_iret dX10_change_35 rfl
theorem dX10_drawn_0 : decode mX10_drawn.1 0 = .ok (.iload_n 1, 1) := by decide +kernel
theorem dX10_drawn_1 : decode mX10_drawn.1 1 = .ok (.invokestatic 147, 3) := by decide +kernel
theorem dX10_drawn_4 : decode mX10_drawn.1 4 = .ok (.ifCond .eq 23, 3) := by decide +kernel
theorem dX10_drawn_7 : decode mX10_drawn.1 7 = .ok (.iload_n 3, 1) := by decide +kernel
theorem dX10_drawn_8 : decode mX10_drawn.1 8 = .ok (.iconst 1, 1) := by decide +kernel
theorem dX10_drawn_9 : decode mX10_drawn.1 9 = .ok (.bipush 30, 2) := by decide +kernel
theorem dX10_drawn_11 : decode mX10_drawn.1 11 = .ok (.invokestatic 136, 3) := by decide +kernel
theorem dX10_drawn_14 : decode mX10_drawn.1 14 = .ok (.ifCond .eq 13, 3) := by decide +kernel
theorem dX10_drawn_17 : decode mX10_drawn.1 17 = .ok (.iload 4, 2) := by decide +kernel
theorem dX10_drawn_19 : decode mX10_drawn.1 19 = .ok (.iconst 0, 1) := by decide +kernel
theorem dX10_drawn_20 : decode mX10_drawn.1 20 = .ok (.iconst 1, 1) := by decide +kernel
theorem dX10_drawn_21 : decode mX10_drawn.1 21 = .ok (.invokestatic 136, 3) := by decide +kernel
theorem dX10_drawn_24 : decode mX10_drawn.1 24 = .ok (.ifCond .ne 5, 3) := by decide +kernel
theorem dX10_drawn_27 : decode mX10_drawn.1 27 = .ok (.iconst (-1), 1) := by decide +kernel
theorem dX10_drawn_28 : decode mX10_drawn.1 28 = .ok (.ireturn, 1) := by decide +kernel
theorem dX10_drawn_29 : decode mX10_drawn.1 29 = .ok (.aload_n 0, 1) := by decide +kernel
theorem dX10_drawn_30 : decode mX10_drawn.1 30 = .ok (.iload_n 1, 1) := by decide +kernel
theorem dX10_drawn_31 : decode mX10_drawn.1 31 = .ok (.invokevirtual 327, 3) := by decide +kernel
theorem dX10_drawn_34 : decode mX10_drawn.1 34 = .ok (.istore 5, 2) := by decide +kernel
theorem dX10_drawn_36 : decode mX10_drawn.1 36 = .ok (.iload 5, 2) := by decide +kernel
theorem dX10_drawn_38 : decode mX10_drawn.1 38 = .ok (.ifCond .ge 6, 3) := by decide +kernel
theorem dX10_drawn_41 : decode mX10_drawn.1 41 = .ok (.iload 5, 2) := by decide +kernel
theorem dX10_drawn_43 : decode mX10_drawn.1 43 = .ok (.ireturn, 1) := by decide +kernel
theorem dX10_drawn_44 : decode mX10_drawn.1 44 = .ok (.iload_n 2, 1) := by decide +kernel
theorem dX10_drawn_45 : decode mX10_drawn.1 45 = .ok (.istore 6, 2) := by decide +kernel
theorem dX10_drawn_47 : decode mX10_drawn.1 47 = .ok (.iconst 0, 1) := by decide +kernel
theorem dX10_drawn_48 : decode mX10_drawn.1 48 = .ok (.istore 7, 2) := by decide +kernel
theorem dX10_drawn_50 : decode mX10_drawn.1 50 = .ok (.iconst 0, 1) := by decide +kernel
theorem dX10_drawn_51 : decode mX10_drawn.1 51 = .ok (.istore 8, 2) := by decide +kernel
theorem dX10_drawn_53 : decode mX10_drawn.1 53 = .ok (.iconst 0, 1) := by decide +kernel
theorem dX10_drawn_54 : decode mX10_drawn.1 54 = .ok (.istore 9, 2) := by decide +kernel
theorem dX10_drawn_56 : decode mX10_drawn.1 56 = .ok (.iload 9, 2) := by decide +kernel
theorem dX10_drawn_58 : decode mX10_drawn.1 58 = .ok (.iload_n 3, 1) := by decide +kernel
theorem dX10_drawn_59 : decode mX10_drawn.1 59 = .ok (.if_icmp .ge 145, 3) := by decide +kernel
theorem dX10_drawn_62 : decode mX10_drawn.1 62 = .ok (.iconst 0, 1) := by decide +kernel
theorem dX10_drawn_63 : decode mX10_drawn.1 63 = .ok (.istore 10, 2) := by decide +kernel
theorem dX10_drawn_65 : decode mX10_drawn.1 65 = .ok (.iconst 0, 1) := by decide +kernel
theorem dX10_drawn_66 : decode mX10_drawn.1 66 = .ok (.istore 11, 2) := by decide +kernel
theorem dX10_drawn_68 : decode mX10_drawn.1 68 = .ok (.iload 11, 2) := by decide +kernel
theorem dX10_drawn_70 : decode mX10_drawn.1 70 = .ok (.aload_n 0, 1) := by decide +kernel
theorem dX10_drawn_71 : decode mX10_drawn.1 71 = .ok (.getfield 269, 3) := by decide +kernel
theorem dX10_drawn_74 : decode mX10_drawn.1 74 = .ok (.if_icmp .ge 65, 3) := by decide +kernel
theorem dX10_drawn_77 : decode mX10_drawn.1 77 = .ok (.iload 6, 2) := by decide +kernel
theorem dX10_drawn_79 : decode mX10_drawn.1 79 = .ok (.ldc_w 391, 3) := by decide +kernel
theorem dX10_drawn_82 : decode mX10_drawn.1 82 = .ok (.imul, 1) := by decide +kernel
theorem dX10_drawn_83 : decode mX10_drawn.1 83 = .ok (.sipush 12345, 3) := by decide +kernel
theorem dX10_drawn_86 : decode mX10_drawn.1 86 = .ok (.iadd, 1) := by decide +kernel
theorem dX10_drawn_87 : decode mX10_drawn.1 87 = .ok (.istore 6, 2) := by decide +kernel
theorem dX10_drawn_89 : decode mX10_drawn.1 89 = .ok (.iload 6, 2) := by decide +kernel
theorem dX10_drawn_91 : decode mX10_drawn.1 91 = .ok (.bipush 8, 2) := by decide +kernel
theorem dX10_drawn_93 : decode mX10_drawn.1 93 = .ok (.iushr, 1) := by decide +kernel
theorem dX10_drawn_94 : decode mX10_drawn.1 94 = .ok (.bipush 12, 2) := by decide +kernel
theorem dX10_drawn_96 : decode mX10_drawn.1 96 = .ok (.irem, 1) := by decide +kernel
theorem dX10_drawn_97 : decode mX10_drawn.1 97 = .ok (.aload_n 0, 1) := by decide +kernel
theorem dX10_drawn_98 : decode mX10_drawn.1 98 = .ok (.aload_n 0, 1) := by decide +kernel
theorem dX10_drawn_99 : decode mX10_drawn.1 99 = .ok (.getfield 81, 3) := by decide +kernel
theorem dX10_drawn_102 : decode mX10_drawn.1 102 = .ok (.iload 11, 2) := by decide +kernel
theorem dX10_drawn_104 : decode mX10_drawn.1 104 = .ok (.iaload, 1) := by decide +kernel
theorem dX10_drawn_105 : decode mX10_drawn.1 105 = .ok (.iload 11, 2) := by decide +kernel
theorem dX10_drawn_107 : decode mX10_drawn.1 107 = .ok (.invokevirtual 266, 3) := by decide +kernel
theorem dX10_drawn_110 : decode mX10_drawn.1 110 = .ok (.if_icmp .ge 20, 3) := by decide +kernel
theorem dX10_drawn_113 : decode mX10_drawn.1 113 = .ok (.iload 10, 2) := by decide +kernel
theorem dX10_drawn_115 : decode mX10_drawn.1 115 = .ok (.iconst 1, 1) := by decide +kernel
theorem dX10_drawn_116 : decode mX10_drawn.1 116 = .ok (.aload_n 0, 1) := by decide +kernel
theorem dX10_drawn_117 : decode mX10_drawn.1 117 = .ok (.getfield 81, 3) := by decide +kernel
theorem dX10_drawn_120 : decode mX10_drawn.1 120 = .ok (.iload 11, 2) := by decide +kernel
theorem dX10_drawn_122 : decode mX10_drawn.1 122 = .ok (.iaload, 1) := by decide +kernel
theorem dX10_drawn_123 : decode mX10_drawn.1 123 = .ok (.ishl, 1) := by decide +kernel
theorem dX10_drawn_124 : decode mX10_drawn.1 124 = .ok (.ior, 1) := by decide +kernel
theorem dX10_drawn_125 : decode mX10_drawn.1 125 = .ok (.istore 10, 2) := by decide +kernel
theorem dX10_drawn_127 : decode mX10_drawn.1 127 = .ok (.goto 6, 3) := by decide +kernel
theorem dX10_drawn_130 : decode mX10_drawn.1 130 = .ok (.iinc 7 1, 3) := by decide +kernel
theorem dX10_drawn_133 : decode mX10_drawn.1 133 = .ok (.iinc 11 1, 3) := by decide +kernel
theorem dX10_drawn_136 : decode mX10_drawn.1 136 = .ok (.goto (-68), 3) := by decide +kernel
theorem dX10_drawn_139 : decode mX10_drawn.1 139 = .ok (.iconst 0, 1) := by decide +kernel
theorem dX10_drawn_140 : decode mX10_drawn.1 140 = .ok (.istore 11, 2) := by decide +kernel
theorem dX10_drawn_142 : decode mX10_drawn.1 142 = .ok (.iload 11, 2) := by decide +kernel
theorem dX10_drawn_144 : decode mX10_drawn.1 144 = .ok (.iconst 4, 1) := by decide +kernel
theorem dX10_drawn_145 : decode mX10_drawn.1 145 = .ok (.if_icmp .ge 53, 3) := by decide +kernel
theorem dX10_drawn_148 : decode mX10_drawn.1 148 = .ok (.aload_n 0, 1) := by decide +kernel
theorem dX10_drawn_149 : decode mX10_drawn.1 149 = .ok (.iload 11, 2) := by decide +kernel
theorem dX10_drawn_151 : decode mX10_drawn.1 151 = .ok (.iload 10, 2) := by decide +kernel
theorem dX10_drawn_153 : decode mX10_drawn.1 153 = .ok (.aload_n 0, 1) := by decide +kernel
theorem dX10_drawn_154 : decode mX10_drawn.1 154 = .ok (.getfield 33, 3) := by decide +kernel
theorem dX10_drawn_157 : decode mX10_drawn.1 157 = .ok (.iload 11, 2) := by decide +kernel
theorem dX10_drawn_159 : decode mX10_drawn.1 159 = .ok (.iaload, 1) := by decide +kernel
theorem dX10_drawn_160 : decode mX10_drawn.1 160 = .ok (.ishr, 1) := by decide +kernel
theorem dX10_drawn_161 : decode mX10_drawn.1 161 = .ok (.iconst 1, 1) := by decide +kernel
theorem dX10_drawn_162 : decode mX10_drawn.1 162 = .ok (.iand, 1) := by decide +kernel
theorem dX10_drawn_163 : decode mX10_drawn.1 163 = .ok (.iconst 1, 1) := by decide +kernel
theorem dX10_drawn_164 : decode mX10_drawn.1 164 = .ok (.if_icmp .ne 15, 3) := by decide +kernel
theorem dX10_drawn_167 : decode mX10_drawn.1 167 = .ok (.aload_n 0, 1) := by decide +kernel
theorem dX10_drawn_168 : decode mX10_drawn.1 168 = .ok (.getfield 24, 3) := by decide +kernel
theorem dX10_drawn_171 : decode mX10_drawn.1 171 = .ok (.aload_n 0, 1) := by decide +kernel
theorem dX10_drawn_172 : decode mX10_drawn.1 172 = .ok (.getfield 36, 3) := by decide +kernel
theorem dX10_drawn_175 : decode mX10_drawn.1 175 = .ok (.iaload, 1) := by decide +kernel
theorem dX10_drawn_176 : decode mX10_drawn.1 176 = .ok (.goto 7, 3) := by decide +kernel
theorem dX10_drawn_179 : decode mX10_drawn.1 179 = .ok (.aload_n 0, 1) := by decide +kernel
theorem dX10_drawn_180 : decode mX10_drawn.1 180 = .ok (.getfield 36, 3) := by decide +kernel
theorem dX10_drawn_183 : decode mX10_drawn.1 183 = .ok (.invokevirtual 377, 3) := by decide +kernel
theorem dX10_drawn_186 : decode mX10_drawn.1 186 = .ok (.ifCond .eq 6, 3) := by decide +kernel
theorem dX10_drawn_189 : decode mX10_drawn.1 189 = .ok (.iinc 8 1, 3) := by decide +kernel
theorem dX10_drawn_192 : decode mX10_drawn.1 192 = .ok (.iinc 11 1, 3) := by decide +kernel
theorem dX10_drawn_195 : decode mX10_drawn.1 195 = .ok (.goto (-53), 3) := by decide +kernel
theorem dX10_drawn_198 : decode mX10_drawn.1 198 = .ok (.iinc 9 1, 3) := by decide +kernel
theorem dX10_drawn_201 : decode mX10_drawn.1 201 = .ok (.goto (-145), 3) := by decide +kernel
theorem dX10_drawn_204 : decode mX10_drawn.1 204 = .ok (.iload 4, 2) := by decide +kernel
theorem dX10_drawn_206 : decode mX10_drawn.1 206 = .ok (.ifCond .ne 8, 3) := by decide +kernel
theorem dX10_drawn_209 : decode mX10_drawn.1 209 = .ok (.iload 7, 2) := by decide +kernel
theorem dX10_drawn_211 : decode mX10_drawn.1 211 = .ok (.goto 5, 3) := by decide +kernel
theorem dX10_drawn_214 : decode mX10_drawn.1 214 = .ok (.iload 8, 2) := by decide +kernel
theorem dX10_drawn_216 : decode mX10_drawn.1 216 = .ok (.ireturn, 1) := by decide +kernel
theorem X10_drawn_0 (h : mm_M) (a1 : Int) (a2 : Int) (a3 : Int) (a4 : Int) : mm_ev mX10_drawn 6 0 [some (vR 47), some (vI a1), some (vI a2), some (vI a3), some (vI a4), none, none, none, none, none, none, none] [] h = (mm_call mX10_isShelf [vI a1] h).bind (fun w => mm_ev mX10_drawn 6 4 [some (vR 47), some (vI a1), some (vI a2), some (vI a3), some (vI a4), none, none, none, none, none, none, none] (w.1 ++ []) w.2) := (ev_iload_n 1 dX10_drawn_0 rfl rfl).trans ((ev_calls mX10_isShelf [vI a1] [] 4 dX10_drawn_1 ml_10_147 k258 rfl rfl rfl (Nat.le_of_ble_eq_true rfl) (Nat.le_of_ble_eq_true rfl) rfl).trans (if_pos (show 2 < 6 from by decide)))
theorem X10_drawn_c (h : mm_M) (a1 : Int) (a2 : Int) (a3 : Int) (a4 : Int) : mm_call mX10_drawn [vR 47, vI a1, vI a2, vI a3, vI a4] h = (mm_call mX10_isShelf [vI a1] h).bind (fun w => mm_ev mX10_drawn 6 4 [some (vR 47), some (vI a1), some (vI a2), some (vI a3), some (vI a4), none, none, none, none, none, none, none] (w.1 ++ []) w.2) := X10_drawn_0 h a1 a2 a3 a4
theorem X10_drawn_4 (h : mm_M) (a1 : Int) (a2 : Int) (a3 : Int) (a4 : Int) (s0 : Int) : mm_ev mX10_drawn 6 4 [some (vR 47), some (vI a1), some (vI a2), some (vI a3), some (vI a4), none, none, none, none, none, none, none] [vI s0] h = if s0 = 0 then some ([vI (-1)], h) else (mm_call mX10_in [vI a3, vI 1, vI 30] h).bind (fun w => mm_ev mX10_drawn 6 14 [some (vR 47), some (vI a1), some (vI a2), some (vI a3), some (vI a4), none, none, none, none, none, none, none] (w.1 ++ []) w.2) := (ev_if_eq 27 7 dX10_drawn_4 rfl rfl).trans (mm_ite ((ev_iconst 28 (v := (-1)) dX10_drawn_27 rfl rfl).trans (ev_iret dX10_drawn_28 rfl)) ((ev_iload_n 8 dX10_drawn_7 rfl rfl).trans ((ev_iconst 9 (v := 1) dX10_drawn_8 rfl rfl).trans ((ev_bipush 11 (v := 30) dX10_drawn_9 rfl rfl).trans ((ev_calls mX10_in [vI a3, vI 1, vI 30] [] 14 dX10_drawn_11 ml_10_136 k143 rfl rfl rfl (Nat.le_of_ble_eq_true rfl) (Nat.le_of_ble_eq_true rfl) rfl).trans (if_pos (show 1 < 6 from by decide)))))))
theorem X10_drawn_14 (h : mm_M) (a1 : Int) (a2 : Int) (a3 : Int) (a4 : Int) (s0 : Int) : mm_ev mX10_drawn 6 14 [some (vR 47), some (vI a1), some (vI a2), some (vI a3), some (vI a4), none, none, none, none, none, none, none] [vI s0] h = if s0 = 0 then some ([vI (-1)], h) else (mm_call mX10_in [vI a4, vI 0, vI 1] h).bind (fun w => mm_ev mX10_drawn 6 24 [some (vR 47), some (vI a1), some (vI a2), some (vI a3), some (vI a4), none, none, none, none, none, none, none] (w.1 ++ []) w.2) := (ev_if_eq 27 17 dX10_drawn_14 rfl rfl).trans (mm_ite ((ev_iconst 28 (v := (-1)) dX10_drawn_27 rfl rfl).trans (ev_iret dX10_drawn_28 rfl)) ((ev_iload 19 dX10_drawn_17 rfl rfl).trans ((ev_iconst 20 (v := 0) dX10_drawn_19 rfl rfl).trans ((ev_iconst 21 (v := 1) dX10_drawn_20 rfl rfl).trans ((ev_calls mX10_in [vI a4, vI 0, vI 1] [] 24 dX10_drawn_21 ml_10_136 k143 rfl rfl rfl (Nat.le_of_ble_eq_true rfl) (Nat.le_of_ble_eq_true rfl) rfl).trans (if_pos (show 1 < 6 from by decide)))))))
theorem X10_drawn_24 (h : mm_M) (a1 : Int) (a2 : Int) (a3 : Int) (a4 : Int) (s0 : Int) : mm_ev mX10_drawn 6 24 [some (vR 47), some (vI a1), some (vI a2), some (vI a3), some (vI a4), none, none, none, none, none, none, none] [vI s0] h = if ¬ s0 = 0 then (mm_call mX10_layOr [vR 47, vI a1] h).bind (fun w => mm_ev mX10_drawn 6 34 [some (vR 47), some (vI a1), some (vI a2), some (vI a3), some (vI a4), none, none, none, none, none, none, none] (w.1 ++ []) w.2) else some ([vI (-1)], h) := (ev_if_ne 29 27 dX10_drawn_24 rfl rfl).trans (mm_ite ((ev_aload_n 30 dX10_drawn_29 rfl rfl).trans ((ev_iload_n 31 dX10_drawn_30 rfl rfl).trans ((ev_callv mX10_layOr [vR 47, vI a1] [] 34 dX10_drawn_31 ml_10_327 k186 rfl oc47 ak47 rfl rfl (Nat.le_of_ble_eq_true rfl) (Nat.le_of_ble_eq_true rfl) rfl).trans (if_pos (show 5 < 6 from by decide))))) ((ev_iconst 28 (v := (-1)) dX10_drawn_27 rfl rfl).trans (ev_iret dX10_drawn_28 rfl)))
theorem X10_drawn_34 (h : mm_M) (a1 : Int) (a2 : Int) (a3 : Int) (a4 : Int) (s0 : Int) : mm_ev mX10_drawn 6 34 [some (vR 47), some (vI a1), some (vI a2), some (vI a3), some (vI a4), none, none, none, none, none, none, none] [vI s0] h = if 0 ≤ s0 then mm_ev mX10_drawn 6 56 [some (vR 47), some (vI a1), some (vI a2), some (vI a3), some (vI a4), some (vI s0), some (vI a2), some (vI 0), some (vI 0), some (vI 0), none, none] [] h else some ([vI s0], h) := (ev_istore 36 [some (vR 47), some (vI a1), some (vI a2), some (vI a3), some (vI a4), some (vI s0), none, none, none, none, none, none] dX10_drawn_34 rfl rfl).trans ((ev_iload 38 dX10_drawn_36 rfl rfl).trans ((ev_if_ge 44 41 dX10_drawn_38 rfl rfl).trans (mm_ite ((ev_iload_n 45 dX10_drawn_44 rfl rfl).trans ((ev_istore 47 [some (vR 47), some (vI a1), some (vI a2), some (vI a3), some (vI a4), some (vI s0), some (vI a2), none, none, none, none, none] dX10_drawn_45 rfl rfl).trans ((ev_iconst 48 (v := 0) dX10_drawn_47 rfl rfl).trans ((ev_istore 50 [some (vR 47), some (vI a1), some (vI a2), some (vI a3), some (vI a4), some (vI s0), some (vI a2), some (vI 0), none, none, none, none] dX10_drawn_48 rfl rfl).trans ((ev_iconst 51 (v := 0) dX10_drawn_50 rfl rfl).trans ((ev_istore 53 [some (vR 47), some (vI a1), some (vI a2), some (vI a3), some (vI a4), some (vI s0), some (vI a2), some (vI 0), some (vI 0), none, none, none] dX10_drawn_51 rfl rfl).trans ((ev_iconst 54 (v := 0) dX10_drawn_53 rfl rfl).trans (ev_istore 56 [some (vR 47), some (vI a1), some (vI a2), some (vI a3), some (vI a4), some (vI s0), some (vI a2), some (vI 0), some (vI 0), some (vI 0), none, none] dX10_drawn_54 rfl rfl)))))))) ((ev_iload 43 dX10_drawn_41 rfl rfl).trans (ev_iret dX10_drawn_43 rfl)))))
theorem X10_drawn_56 (h : mm_M) (a1 : Int) (a2 : Int) (a3 : Int) (a4 : Int) (a5 : Int) (a6 : Int) (a7 : Int) (a8 : Int) (a9 : Int) (o10 : Option mm_V) (o11 : Option mm_V) : mm_ev mX10_drawn 6 56 [some (vR 47), some (vI a1), some (vI a2), some (vI a3), some (vI a4), some (vI a5), some (vI a6), some (vI a7), some (vI a8), some (vI a9), o10, o11] [] h = if a3 ≤ a9 then if ¬ a4 = 0 then some ([vI a8], h) else some ([vI a7], h) else mm_ev mX10_drawn 6 68 [some (vR 47), some (vI a1), some (vI a2), some (vI a3), some (vI a4), some (vI a5), some (vI a6), some (vI a7), some (vI a8), some (vI a9), some (vI 0), some (vI 0)] [] h := (ev_iload 58 dX10_drawn_56 rfl rfl).trans ((ev_iload_n 59 dX10_drawn_58 rfl rfl).trans ((ev_ic_ge 204 62 dX10_drawn_59 rfl rfl).trans (mm_ite ((ev_iload 206 dX10_drawn_204 rfl rfl).trans ((ev_if_ne 214 209 dX10_drawn_206 rfl rfl).trans (mm_ite ((ev_iload 216 dX10_drawn_214 rfl rfl).trans (ev_iret dX10_drawn_216 rfl)) ((ev_iload 211 dX10_drawn_209 rfl rfl).trans ((ev_goto 216 dX10_drawn_211 rfl).trans (ev_iret dX10_drawn_216 rfl)))))) ((ev_iconst 63 (v := 0) dX10_drawn_62 rfl rfl).trans ((ev_istore 65 [some (vR 47), some (vI a1), some (vI a2), some (vI a3), some (vI a4), some (vI a5), some (vI a6), some (vI a7), some (vI a8), some (vI a9), some (vI 0), o11] dX10_drawn_63 rfl rfl).trans ((ev_iconst 66 (v := 0) dX10_drawn_65 rfl rfl).trans (ev_istore 68 [some (vR 47), some (vI a1), some (vI a2), some (vI a3), some (vI a4), some (vI a5), some (vI a6), some (vI a7), some (vI a8), some (vI a9), some (vI 0), some (vI 0)] dX10_drawn_66 rfl rfl)))))))
theorem X10_drawn_68 (h : mm_M) (a1 : Int) (a2 : Int) (a3 : Int) (a4 : Int) (a5 : Int) (a6 : Int) (a7 : Int) (a8 : Int) (a9 : Int) (a10 : Int) (a11 : Int) : mm_ev mX10_drawn 6 68 [some (vR 47), some (vI a1), some (vI a2), some (vI a3), some (vI a4), some (vI a5), some (vI a6), some (vI a7), some (vI a8), some (vI a9), some (vI a10), some (vI a11)] [] h = if (h 47 35) ≤ a11 then mm_ev mX10_drawn 6 142 [some (vR 47), some (vI a1), some (vI a2), some (vI a3), some (vI a4), some (vI a5), some (vI a6), some (vI a7), some (vI a8), some (vI a9), some (vI a10), some (vI 0)] [] h else if 0 ≤ a11 ∧ a11 < 7 then (mm_call mX10_mishear [vR 47, vI (h 68 a11), vI a11] h).bind (fun w => mm_ev mX10_drawn 6 110 [some (vR 47), some (vI a1), some (vI a2), some (vI a3), some (vI a4), some (vI a5), some (vI (w32 ((w32 (a6 * 1103515245)) + 12345))), some (vI a7), some (vI a8), some (vI a9), some (vI a10), some (vI a11)] (w.1 ++ [vI ((iUshr (w32 ((w32 (a6 * 1103515245)) + 12345)) 8).tmod 12)]) w.2) else none := (ev_iload 70 dX10_drawn_68 rfl rfl).trans ((ev_aload_n 71 dX10_drawn_70 rfl rfl).trans ((ev_getI 74 35 dX10_drawn_71 fl_10_269 oc47 ak47 (by decide) rfl rfl).trans ((ev_ic_ge 139 77 dX10_drawn_74 rfl rfl).trans (mm_ite ((ev_iconst 140 (v := 0) dX10_drawn_139 rfl rfl).trans (ev_istore 142 [some (vR 47), some (vI a1), some (vI a2), some (vI a3), some (vI a4), some (vI a5), some (vI a6), some (vI a7), some (vI a8), some (vI a9), some (vI a10), some (vI 0)] dX10_drawn_140 rfl rfl)) ((ev_iload 79 dX10_drawn_77 rfl rfl).trans ((ev_ldc_w 82 dX10_drawn_79 cI_10_391 rfl).trans ((ev_imul 83 dX10_drawn_82 rfl).trans ((ev_sipush 86 (v := 12345) dX10_drawn_83 rfl rfl).trans ((ev_iadd 87 dX10_drawn_86 rfl).trans ((ev_istore 89 [some (vR 47), some (vI a1), some (vI a2), some (vI a3), some (vI a4), some (vI a5), some (vI (w32 ((w32 (a6 * 1103515245)) + 12345))), some (vI a7), some (vI a8), some (vI a9), some (vI a10), some (vI a11)] dX10_drawn_87 rfl rfl).trans ((ev_iload 91 dX10_drawn_89 rfl rfl).trans ((ev_bipush 93 (v := 8) dX10_drawn_91 rfl rfl).trans ((ev_iushr 94 dX10_drawn_93 rfl).trans ((ev_bipush 96 (v := 12) dX10_drawn_94 rfl rfl).trans (((ev_irem 97 dX10_drawn_96 rfl).trans (if_neg (by decide))).trans ((ev_aload_n 98 dX10_drawn_97 rfl rfl).trans ((ev_aload_n 99 dX10_drawn_98 rfl rfl).trans ((ev_getF 102 68 dX10_drawn_99 fl_10_81 oc47 ak47 rfl rf_47_34 rfl).trans ((ev_iload 104 dX10_drawn_102 rfl rfl).trans ((ev_iald 105 7 dX10_drawn_104 ak68 an68 rfl).trans (mm_ite ((ev_iload 107 dX10_drawn_105 rfl rfl).trans ((ev_callv mX10_mishear [vR 47, vI (h 68 a11), vI a11] [vI ((iUshr (w32 ((w32 (a6 * 1103515245)) + 12345)) 8).tmod 12)] 110 dX10_drawn_107 ml_10_266 k178 rfl oc47 ak47 rfl rfl (Nat.le_of_ble_eq_true rfl) (Nat.le_of_ble_eq_true rfl) rfl).trans (if_pos (show 4 < 6 from by decide)))) (rfl))))))))))))))))))))))
theorem X10_drawn_110 (h : mm_M) (a1 : Int) (a2 : Int) (a3 : Int) (a4 : Int) (a5 : Int) (a6 : Int) (a7 : Int) (a8 : Int) (a9 : Int) (a10 : Int) (a11 : Int) (s0 : Int) (s1 : Int) : mm_ev mX10_drawn 6 110 [some (vR 47), some (vI a1), some (vI a2), some (vI a3), some (vI a4), some (vI a5), some (vI a6), some (vI a7), some (vI a8), some (vI a9), some (vI a10), some (vI a11)] [vI s0, vI s1] h = if s0 ≤ s1 then mm_ev mX10_drawn 6 68 [some (vR 47), some (vI a1), some (vI a2), some (vI a3), some (vI a4), some (vI a5), some (vI a6), some (vI (w32 (a7 + 1))), some (vI a8), some (vI a9), some (vI a10), some (vI (w32 (a11 + 1)))] [] h else if 0 ≤ a11 ∧ a11 < 7 then mm_ev mX10_drawn 6 68 [some (vR 47), some (vI a1), some (vI a2), some (vI a3), some (vI a4), some (vI a5), some (vI a6), some (vI a7), some (vI a8), some (vI a9), some (vI (iOr a10 (iShl 1 (h 68 a11)))), some (vI (w32 (a11 + 1)))] [] h else none := (ev_ic_ge 130 113 dX10_drawn_110 rfl rfl).trans (mm_ite ((ev_iinc 133 [some (vR 47), some (vI a1), some (vI a2), some (vI a3), some (vI a4), some (vI a5), some (vI a6), some (vI (w32 (a7 + 1))), some (vI a8), some (vI a9), some (vI a10), some (vI a11)] dX10_drawn_130 rfl rfl rfl).trans ((ev_iinc 136 [some (vR 47), some (vI a1), some (vI a2), some (vI a3), some (vI a4), some (vI a5), some (vI a6), some (vI (w32 (a7 + 1))), some (vI a8), some (vI a9), some (vI a10), some (vI (w32 (a11 + 1)))] dX10_drawn_133 rfl rfl rfl).trans (ev_goto 68 dX10_drawn_136 rfl))) ((ev_iload 115 dX10_drawn_113 rfl rfl).trans ((ev_iconst 116 (v := 1) dX10_drawn_115 rfl rfl).trans ((ev_aload_n 117 dX10_drawn_116 rfl rfl).trans ((ev_getF 120 68 dX10_drawn_117 fl_10_81 oc47 ak47 rfl rf_47_34 rfl).trans ((ev_iload 122 dX10_drawn_120 rfl rfl).trans ((ev_iald 123 7 dX10_drawn_122 ak68 an68 rfl).trans (mm_ite ((ev_ishl 124 dX10_drawn_123 rfl).trans ((ev_ior 125 dX10_drawn_124 rfl).trans ((ev_istore 127 [some (vR 47), some (vI a1), some (vI a2), some (vI a3), some (vI a4), some (vI a5), some (vI a6), some (vI a7), some (vI a8), some (vI a9), some (vI (iOr a10 (iShl 1 (h 68 a11)))), some (vI a11)] dX10_drawn_125 rfl rfl).trans ((ev_goto 133 dX10_drawn_127 rfl).trans ((ev_iinc 136 [some (vR 47), some (vI a1), some (vI a2), some (vI a3), some (vI a4), some (vI a5), some (vI a6), some (vI a7), some (vI a8), some (vI a9), some (vI (iOr a10 (iShl 1 (h 68 a11)))), some (vI (w32 (a11 + 1)))] dX10_drawn_133 rfl rfl rfl).trans (ev_goto 68 dX10_drawn_136 rfl)))))) (rfl)))))))))
theorem X10_drawn_142 (h : mm_M) (a1 : Int) (a2 : Int) (a3 : Int) (a4 : Int) (a5 : Int) (a6 : Int) (a7 : Int) (a8 : Int) (a9 : Int) (a10 : Int) (a11 : Int) : mm_ev mX10_drawn 6 142 [some (vR 47), some (vI a1), some (vI a2), some (vI a3), some (vI a4), some (vI a5), some (vI a6), some (vI a7), some (vI a8), some (vI a9), some (vI a10), some (vI a11)] [] h = if 4 ≤ a11 then mm_ev mX10_drawn 6 56 [some (vR 47), some (vI a1), some (vI a2), some (vI a3), some (vI a4), some (vI a5), some (vI a6), some (vI a7), some (vI a8), some (vI (w32 (a9 + 1))), some (vI a10), some (vI a11)] [] h else if 0 ≤ a11 ∧ a11 < 4 then if ¬ (iAnd (iShr a10 (h 55 a11)) 1) = 1 then (mm_call mX10_isHomeBy [vR 47, vI a11, vI (h 47 11)] h).bind (fun w => mm_ev mX10_drawn 6 186 [some (vR 47), some (vI a1), some (vI a2), some (vI a3), some (vI a4), some (vI a5), some (vI a6), some (vI a7), some (vI a8), some (vI a9), some (vI a10), some (vI a11)] (w.1 ++ []) w.2) else if 0 ≤ (h 47 11) ∧ (h 47 11) < 10 then (mm_call mX10_isHomeBy [vR 47, vI a11, vI (h 52 (h 47 11))] h).bind (fun w => mm_ev mX10_drawn 6 186 [some (vR 47), some (vI a1), some (vI a2), some (vI a3), some (vI a4), some (vI a5), some (vI a6), some (vI a7), some (vI a8), some (vI a9), some (vI a10), some (vI a11)] (w.1 ++ []) w.2) else none else none := (ev_iload 144 dX10_drawn_142 rfl rfl).trans ((ev_iconst 145 (v := 4) dX10_drawn_144 rfl rfl).trans ((ev_ic_ge 198 148 dX10_drawn_145 rfl rfl).trans (mm_ite ((ev_iinc 201 [some (vR 47), some (vI a1), some (vI a2), some (vI a3), some (vI a4), some (vI a5), some (vI a6), some (vI a7), some (vI a8), some (vI (w32 (a9 + 1))), some (vI a10), some (vI a11)] dX10_drawn_198 rfl rfl rfl).trans (ev_goto 56 dX10_drawn_201 rfl)) ((ev_aload_n 149 dX10_drawn_148 rfl rfl).trans ((ev_iload 151 dX10_drawn_149 rfl rfl).trans ((ev_iload 153 dX10_drawn_151 rfl rfl).trans ((ev_aload_n 154 dX10_drawn_153 rfl rfl).trans ((ev_getF 157 55 dX10_drawn_154 fl_10_33 oc47 ak47 rfl rf_47_9 rfl).trans ((ev_iload 159 dX10_drawn_157 rfl rfl).trans ((ev_iald 160 4 dX10_drawn_159 ak55 an55 rfl).trans (mm_ite ((ev_ishr 161 dX10_drawn_160 rfl).trans ((ev_iconst 162 (v := 1) dX10_drawn_161 rfl rfl).trans ((ev_iand 163 dX10_drawn_162 rfl).trans ((ev_iconst 164 (v := 1) dX10_drawn_163 rfl rfl).trans ((ev_ic_ne 179 167 dX10_drawn_164 rfl rfl).trans (mm_ite ((ev_aload_n 180 dX10_drawn_179 rfl rfl).trans ((ev_getI 183 11 dX10_drawn_180 fl_10_36 oc47 ak47 (by decide) rfl rfl).trans ((ev_callv mX10_isHomeBy [vR 47, vI a11, vI (h 47 11)] [] 186 dX10_drawn_183 ml_10_377 k220 rfl oc47 ak47 rfl rfl (Nat.le_of_ble_eq_true rfl) (Nat.le_of_ble_eq_true rfl) rfl).trans (if_pos (show 3 < 6 from by decide))))) ((ev_aload_n 168 dX10_drawn_167 rfl rfl).trans ((ev_getF 171 52 dX10_drawn_168 fl_10_24 oc47 ak47 rfl rf_47_6 rfl).trans ((ev_aload_n 172 dX10_drawn_171 rfl rfl).trans ((ev_getI 175 11 dX10_drawn_172 fl_10_36 oc47 ak47 (by decide) rfl rfl).trans ((ev_iald 176 10 dX10_drawn_175 ak52 an52 rfl).trans (mm_ite ((ev_goto 183 dX10_drawn_176 rfl).trans ((ev_callv mX10_isHomeBy [vR 47, vI a11, vI (h 52 (h 47 11))] [] 186 dX10_drawn_183 ml_10_377 k220 rfl oc47 ak47 rfl rfl (Nat.le_of_ble_eq_true rfl) (Nat.le_of_ble_eq_true rfl) rfl).trans (if_pos (show 3 < 6 from by decide)))) (rfl))))))))))))) (rfl))))))))))))
theorem X10_drawn_186 (h : mm_M) (a1 : Int) (a2 : Int) (a3 : Int) (a4 : Int) (a5 : Int) (a6 : Int) (a7 : Int) (a8 : Int) (a9 : Int) (a10 : Int) (a11 : Int) (s0 : Int) : mm_ev mX10_drawn 6 186 [some (vR 47), some (vI a1), some (vI a2), some (vI a3), some (vI a4), some (vI a5), some (vI a6), some (vI a7), some (vI a8), some (vI a9), some (vI a10), some (vI a11)] [vI s0] h = if s0 = 0 then mm_ev mX10_drawn 6 142 [some (vR 47), some (vI a1), some (vI a2), some (vI a3), some (vI a4), some (vI a5), some (vI a6), some (vI a7), some (vI a8), some (vI a9), some (vI a10), some (vI (w32 (a11 + 1)))] [] h else mm_ev mX10_drawn 6 142 [some (vR 47), some (vI a1), some (vI a2), some (vI a3), some (vI a4), some (vI a5), some (vI a6), some (vI a7), some (vI (w32 (a8 + 1))), some (vI a9), some (vI a10), some (vI (w32 (a11 + 1)))] [] h := (ev_if_eq 192 189 dX10_drawn_186 rfl rfl).trans (mm_ite ((ev_iinc 195 [some (vR 47), some (vI a1), some (vI a2), some (vI a3), some (vI a4), some (vI a5), some (vI a6), some (vI a7), some (vI a8), some (vI a9), some (vI a10), some (vI (w32 (a11 + 1)))] dX10_drawn_192 rfl rfl rfl).trans (ev_goto 142 dX10_drawn_195 rfl)) ((ev_iinc 192 [some (vR 47), some (vI a1), some (vI a2), some (vI a3), some (vI a4), some (vI a5), some (vI a6), some (vI a7), some (vI (w32 (a8 + 1))), some (vI a9), some (vI a10), some (vI a11)] dX10_drawn_189 rfl rfl rfl).trans ((ev_iinc 195 [some (vR 47), some (vI a1), some (vI a2), some (vI a3), some (vI a4), some (vI a5), some (vI a6), some (vI a7), some (vI (w32 (a8 + 1))), some (vI a9), some (vI a10), some (vI (w32 (a11 + 1)))] dX10_drawn_192 rfl rfl rfl).trans (ev_goto 142 dX10_drawn_195 rfl))))
theorem dX10_layOr_0 : decode mX10_layOr.1 0 = .ok (.aload_n 0, 1) := by decide +kernel
theorem dX10_layOr_1 : decode mX10_layOr.1 1 = .ok (.iload_n 1, 1) := by decide +kernel
theorem dX10_layOr_2 : decode mX10_layOr.1 2 = .ok (.iconst 0, 1) := by decide +kernel
theorem dX10_layOr_3 : decode mX10_layOr.1 3 = .ok (.invokevirtual 284, 3) := by decide +kernel
theorem dX10_layOr_6 : decode mX10_layOr.1 6 = .ok (.istore_n 2, 1) := by decide +kernel
theorem dX10_layOr_7 : decode mX10_layOr.1 7 = .ok (.iload_n 2, 1) := by decide +kernel
theorem dX10_layOr_8 : decode mX10_layOr.1 8 = .ok (.ifCond .ne 8, 3) := by decide +kernel
theorem dX10_layOr_11 : decode mX10_layOr.1 11 = .ok (.aload_n 0, 1) := by decide +kernel
theorem dX10_layOr_12 : decode mX10_layOr.1 12 = .ok (.iload_n 1, 1) := by decide +kernel
theorem dX10_layOr_13 : decode mX10_layOr.1 13 = .ok (.invokevirtual 287, 3) := by decide +kernel
theorem dX10_layOr_16 : decode mX10_layOr.1 16 = .ok (.iload_n 2, 1) := by decide +kernel
theorem dX10_layOr_17 : decode mX10_layOr.1 17 = .ok (.ireturn, 1) := by decide +kernel
theorem X10_layOr_0 (h : mm_M) (a1 : Int) : mm_ev mX10_layOr 5 0 [some (vR 47), some (vI a1), none] [] h = (mm_call mX10_rowFault [vR 47, vI a1, vI 0] h).bind (fun w => mm_ev mX10_layOr 5 6 [some (vR 47), some (vI a1), none] (w.1 ++ []) w.2) := (ev_aload_n 1 dX10_layOr_0 rfl rfl).trans ((ev_iload_n 2 dX10_layOr_1 rfl rfl).trans ((ev_iconst 3 (v := 0) dX10_layOr_2 rfl rfl).trans ((ev_callv mX10_rowFault [vR 47, vI a1, vI 0] [] 6 dX10_layOr_3 ml_10_284 k181 rfl oc47 ak47 rfl rfl (Nat.le_of_ble_eq_true rfl) (Nat.le_of_ble_eq_true rfl) rfl).trans (if_pos (show 1 < 5 from by decide)))))
theorem X10_layOr_c (h : mm_M) (a1 : Int) : mm_call mX10_layOr [vR 47, vI a1] h = (mm_call mX10_rowFault [vR 47, vI a1, vI 0] h).bind (fun w => mm_ev mX10_layOr 5 6 [some (vR 47), some (vI a1), none] (w.1 ++ []) w.2) := X10_layOr_0 h a1
theorem X10_layOr_6 (h : mm_M) (a1 : Int) (s0 : Int) : mm_ev mX10_layOr 5 6 [some (vR 47), some (vI a1), none] [vI s0] h = if ¬ s0 = 0 then mm_ev mX10_layOr 5 16 [some (vR 47), some (vI a1), some (vI s0)] [] h else (mm_call mX10_layRoute [vR 47, vI a1] h).bind (fun w => mm_ev mX10_layOr 5 16 [some (vR 47), some (vI a1), some (vI s0)] (w.1 ++ []) w.2) := (ev_istore_n 7 [some (vR 47), some (vI a1), some (vI s0)] dX10_layOr_6 rfl rfl).trans ((ev_iload_n 8 dX10_layOr_7 rfl rfl).trans ((ev_if_ne 16 11 dX10_layOr_8 rfl rfl).trans (mm_ite (rfl) ((ev_aload_n 12 dX10_layOr_11 rfl rfl).trans ((ev_iload_n 13 dX10_layOr_12 rfl rfl).trans ((ev_callv mX10_layRoute [vR 47, vI a1] [] 16 dX10_layOr_13 ml_10_287 k185 rfl oc47 ak47 rfl rfl (Nat.le_of_ble_eq_true rfl) (Nat.le_of_ble_eq_true rfl) rfl).trans (if_pos (show 4 < 5 from by decide))))))))
theorem X10_layOr_16 (h : mm_M) (a1 : Int) (a2 : Int) : mm_ev mX10_layOr 5 16 [some (vR 47), some (vI a1), some (vI a2)] [] h = some ([vI a2], h) := (ev_iload_n 17 dX10_layOr_16 rfl rfl).trans (ev_iret dX10_layOr_17 rfl)
theorem dX10_rowFault_0 : decode mX10_rowFault.1 0 = .ok (.aload_n 0, 1) := by decide +kernel
theorem dX10_rowFault_1 : decode mX10_rowFault.1 1 = .ok (.getfield 117, 3) := by decide +kernel
theorem dX10_rowFault_4 : decode mX10_rowFault.1 4 = .ok (.iload_n 1, 1) := by decide +kernel
theorem dX10_rowFault_5 : decode mX10_rowFault.1 5 = .ok (.iaload, 1) := by decide +kernel
theorem dX10_rowFault_6 : decode mX10_rowFault.1 6 = .ok (.iconst (-1), 1) := by decide +kernel
theorem dX10_rowFault_7 : decode mX10_rowFault.1 7 = .ok (.if_icmp .ne 8, 3) := by decide +kernel
theorem dX10_rowFault_10 : decode mX10_rowFault.1 10 = .ok (.bipush (-11), 2) := by decide +kernel
theorem dX10_rowFault_12 : decode mX10_rowFault.1 12 = .ok (.goto 22, 3) := by decide +kernel
theorem dX10_rowFault_15 : decode mX10_rowFault.1 15 = .ok (.aload_n 0, 1) := by decide +kernel
theorem dX10_rowFault_16 : decode mX10_rowFault.1 16 = .ok (.getfield 117, 3) := by decide +kernel
theorem dX10_rowFault_19 : decode mX10_rowFault.1 19 = .ok (.iload_n 1, 1) := by decide +kernel
theorem dX10_rowFault_20 : decode mX10_rowFault.1 20 = .ok (.iaload, 1) := by decide +kernel
theorem dX10_rowFault_21 : decode mX10_rowFault.1 21 = .ok (.bipush (-2), 2) := by decide +kernel
theorem dX10_rowFault_23 : decode mX10_rowFault.1 23 = .ok (.iload_n 2, 1) := by decide +kernel
theorem dX10_rowFault_24 : decode mX10_rowFault.1 24 = .ok (.isub, 1) := by decide +kernel
theorem dX10_rowFault_25 : decode mX10_rowFault.1 25 = .ok (.if_icmp .ne 7, 3) := by decide +kernel
theorem dX10_rowFault_28 : decode mX10_rowFault.1 28 = .ok (.iconst 0, 1) := by decide +kernel
theorem dX10_rowFault_29 : decode mX10_rowFault.1 29 = .ok (.goto 5, 3) := by decide +kernel
theorem dX10_rowFault_32 : decode mX10_rowFault.1 32 = .ok (.bipush (-12), 2) := by decide +kernel
theorem dX10_rowFault_34 : decode mX10_rowFault.1 34 = .ok (.ireturn, 1) := by decide +kernel
theorem X10_rowFault_0 (h : mm_M) (a1 : Int) (a2 : Int) : mm_ev mX10_rowFault 1 0 [some (vR 47), some (vI a1), some (vI a2)] [] h = if 0 ≤ a1 ∧ a1 < 6 then if ¬ (h 79 a1) = (-1) then if 0 ≤ a1 ∧ a1 < 6 then if ¬ (h 79 a1) = (w32 ((-2) - a2)) then some ([vI (-12)], h) else some ([vI 0], h) else none else some ([vI (-11)], h) else none := (ev_aload_n 1 dX10_rowFault_0 rfl rfl).trans ((ev_getF 4 79 dX10_rowFault_1 fl_10_117 oc47 ak47 rfl rf_47_53 rfl).trans ((ev_iload_n 5 dX10_rowFault_4 rfl rfl).trans ((ev_iald 6 6 dX10_rowFault_5 ak79 an79 rfl).trans (mm_ite ((ev_iconst 7 (v := (-1)) dX10_rowFault_6 rfl rfl).trans ((ev_ic_ne 15 10 dX10_rowFault_7 rfl rfl).trans (mm_ite ((ev_aload_n 16 dX10_rowFault_15 rfl rfl).trans ((ev_getF 19 79 dX10_rowFault_16 fl_10_117 oc47 ak47 rfl rf_47_53 rfl).trans ((ev_iload_n 20 dX10_rowFault_19 rfl rfl).trans ((ev_iald 21 6 dX10_rowFault_20 ak79 an79 rfl).trans (mm_ite ((ev_bipush 23 (v := (-2)) dX10_rowFault_21 rfl rfl).trans ((ev_iload_n 24 dX10_rowFault_23 rfl rfl).trans ((ev_isub 25 dX10_rowFault_24 rfl).trans ((ev_ic_ne 32 28 dX10_rowFault_25 rfl rfl).trans (mm_ite ((ev_bipush 34 (v := (-12)) dX10_rowFault_32 rfl rfl).trans (ev_iret dX10_rowFault_34 rfl)) ((ev_iconst 29 (v := 0) dX10_rowFault_28 rfl rfl).trans ((ev_goto 34 dX10_rowFault_29 rfl).trans (ev_iret dX10_rowFault_34 rfl)))))))) (rfl)))))) ((ev_bipush 12 (v := (-11)) dX10_rowFault_10 rfl rfl).trans ((ev_goto 34 dX10_rowFault_12 rfl).trans (ev_iret dX10_rowFault_34 rfl)))))) (rfl)))))
theorem X10_rowFault_c (h : mm_M) (a1 : Int) (a2 : Int) : mm_call mX10_rowFault [vR 47, vI a1, vI a2] h = if 0 ≤ a1 ∧ a1 < 6 then if ¬ (h 79 a1) = (-1) then if 0 ≤ a1 ∧ a1 < 6 then if ¬ (h 79 a1) = (w32 ((-2) - a2)) then some ([vI (-12)], h) else some ([vI 0], h) else none else some ([vI (-11)], h) else none := X10_rowFault_0 h a1 a2
theorem dX10_layRoute_0 : decode mX10_layRoute.1 0 = .ok (.aload_n 0, 1) := by decide +kernel
theorem dX10_layRoute_1 : decode mX10_layRoute.1 1 = .ok (.iconst 0, 1) := by decide +kernel
theorem dX10_layRoute_2 : decode mX10_layRoute.1 2 = .ok (.putfield 269, 3) := by decide +kernel
theorem dX10_layRoute_5 : decode mX10_layRoute.1 5 = .ok (.iconst 0, 1) := by decide +kernel
theorem dX10_layRoute_6 : decode mX10_layRoute.1 6 = .ok (.istore_n 2, 1) := by decide +kernel
theorem dX10_layRoute_7 : decode mX10_layRoute.1 7 = .ok (.iload_n 2, 1) := by decide +kernel
theorem dX10_layRoute_8 : decode mX10_layRoute.1 8 = .ok (.aload_n 0, 1) := by decide +kernel
theorem dX10_layRoute_9 : decode mX10_layRoute.1 9 = .ok (.getfield 120, 3) := by decide +kernel
theorem dX10_layRoute_12 : decode mX10_layRoute.1 12 = .ok (.iload_n 1, 1) := by decide +kernel
theorem dX10_layRoute_13 : decode mX10_layRoute.1 13 = .ok (.iaload, 1) := by decide +kernel
theorem dX10_layRoute_14 : decode mX10_layRoute.1 14 = .ok (.if_icmp .ge 59, 3) := by decide +kernel
theorem dX10_layRoute_17 : decode mX10_layRoute.1 17 = .ok (.aload_n 0, 1) := by decide +kernel
theorem dX10_layRoute_18 : decode mX10_layRoute.1 18 = .ok (.iload_n 1, 1) := by decide +kernel
theorem dX10_layRoute_19 : decode mX10_layRoute.1 19 = .ok (.iload_n 2, 1) := by decide +kernel
theorem dX10_layRoute_20 : decode mX10_layRoute.1 20 = .ok (.invokevirtual 275, 3) := by decide +kernel
theorem dX10_layRoute_23 : decode mX10_layRoute.1 23 = .ok (.istore_n 3, 1) := by decide +kernel
theorem dX10_layRoute_24 : decode mX10_layRoute.1 24 = .ok (.aload_n 0, 1) := by decide +kernel
theorem dX10_layRoute_25 : decode mX10_layRoute.1 25 = .ok (.iload_n 3, 1) := by decide +kernel
theorem dX10_layRoute_26 : decode mX10_layRoute.1 26 = .ok (.invokevirtual 170, 3) := by decide +kernel
theorem dX10_layRoute_29 : decode mX10_layRoute.1 29 = .ok (.ifCond .eq 44, 3) := by decide +kernel
theorem dX10_layRoute_32 : decode mX10_layRoute.1 32 = .ok (.iload_n 3, 1) := by decide +kernel
theorem dX10_layRoute_33 : decode mX10_layRoute.1 33 = .ok (.ifCond .eq 40, 3) := by decide +kernel
theorem dX10_layRoute_36 : decode mX10_layRoute.1 36 = .ok (.aload_n 0, 1) := by decide +kernel
theorem dX10_layRoute_37 : decode mX10_layRoute.1 37 = .ok (.iload_n 3, 1) := by decide +kernel
theorem dX10_layRoute_38 : decode mX10_layRoute.1 38 = .ok (.invokevirtual 278, 3) := by decide +kernel
theorem dX10_layRoute_41 : decode mX10_layRoute.1 41 = .ok (.ifCond .lt 6, 3) := by decide +kernel
theorem dX10_layRoute_44 : decode mX10_layRoute.1 44 = .ok (.goto 29, 3) := by decide +kernel
theorem dX10_layRoute_47 : decode mX10_layRoute.1 47 = .ok (.aload_n 0, 1) := by decide +kernel
theorem dX10_layRoute_48 : decode mX10_layRoute.1 48 = .ok (.getfield 81, 3) := by decide +kernel
theorem dX10_layRoute_51 : decode mX10_layRoute.1 51 = .ok (.aload_n 0, 1) := by decide +kernel
theorem dX10_layRoute_52 : decode mX10_layRoute.1 52 = .ok (.getfield 269, 3) := by decide +kernel
theorem dX10_layRoute_55 : decode mX10_layRoute.1 55 = .ok (.iload_n 3, 1) := by decide +kernel
theorem dX10_layRoute_56 : decode mX10_layRoute.1 56 = .ok (.iastore, 1) := by decide +kernel
theorem dX10_layRoute_57 : decode mX10_layRoute.1 57 = .ok (.aload_n 0, 1) := by decide +kernel
theorem dX10_layRoute_58 : decode mX10_layRoute.1 58 = .ok (.dup, 1) := by decide +kernel
theorem dX10_layRoute_59 : decode mX10_layRoute.1 59 = .ok (.getfield 269, 3) := by decide +kernel
theorem dX10_layRoute_62 : decode mX10_layRoute.1 62 = .ok (.iconst 1, 1) := by decide +kernel
theorem dX10_layRoute_63 : decode mX10_layRoute.1 63 = .ok (.iadd, 1) := by decide +kernel
theorem dX10_layRoute_64 : decode mX10_layRoute.1 64 = .ok (.putfield 269, 3) := by decide +kernel
theorem dX10_layRoute_67 : decode mX10_layRoute.1 67 = .ok (.iinc 2 1, 3) := by decide +kernel
theorem dX10_layRoute_70 : decode mX10_layRoute.1 70 = .ok (.goto (-63), 3) := by decide +kernel
theorem dX10_layRoute_73 : decode mX10_layRoute.1 73 = .ok (.aload_n 0, 1) := by decide +kernel
theorem dX10_layRoute_74 : decode mX10_layRoute.1 74 = .ok (.invokevirtual 281, 3) := by decide +kernel
theorem dX10_layRoute_77 : decode mX10_layRoute.1 77 = .ok (.return_, 1) := by decide +kernel
theorem X10_layRoute_0 (h : mm_M) (a1 : Int) : mm_ev mX10_layRoute 4 0 [some (vR 47), some (vI a1), none, none] [] h = mm_ev mX10_layRoute 4 7 [some (vR 47), some (vI a1), some (vI 0), none] [] (mUp h 47 35 0) := (ev_aload_n 1 dX10_layRoute_0 rfl rfl).trans ((ev_iconst 2 (v := 0) dX10_layRoute_1 rfl rfl).trans ((ev_putI 5 35 dX10_layRoute_2 fl_10_269 oc47 ak47 rfl rfl rfl).trans ((ev_iconst 6 (v := 0) dX10_layRoute_5 rfl rfl).trans (ev_istore_n 7 [some (vR 47), some (vI a1), some (vI 0), none] dX10_layRoute_6 rfl rfl))))
theorem X10_layRoute_c (h : mm_M) (a1 : Int) : mm_call mX10_layRoute [vR 47, vI a1] h = mm_ev mX10_layRoute 4 7 [some (vR 47), some (vI a1), some (vI 0), none] [] (mUp h 47 35 0) := X10_layRoute_0 h a1
theorem X10_layRoute_7 (h : mm_M) (a1 : Int) (a2 : Int) (o3 : Option mm_V) : mm_ev mX10_layRoute 4 7 [some (vR 47), some (vI a1), some (vI a2), o3] [] h = if 0 ≤ a1 ∧ a1 < 6 then if (h 80 a1) ≤ a2 then (mm_call mX10_goRoute [vR 47] h).bind (fun w => mm_ev mX10_layRoute 4 77 [some (vR 47), some (vI a1), some (vI a2), o3] (w.1 ++ []) w.2) else (mm_call mX10_at [vR 47, vI a1, vI a2] h).bind (fun w => mm_ev mX10_layRoute 4 23 [some (vR 47), some (vI a1), some (vI a2), o3] (w.1 ++ []) w.2) else none := (ev_iload_n 8 dX10_layRoute_7 rfl rfl).trans ((ev_aload_n 9 dX10_layRoute_8 rfl rfl).trans ((ev_getF 12 80 dX10_layRoute_9 fl_10_120 oc47 ak47 rfl rf_47_54 rfl).trans ((ev_iload_n 13 dX10_layRoute_12 rfl rfl).trans ((ev_iald 14 6 dX10_layRoute_13 ak80 an80 rfl).trans (mm_ite ((ev_ic_ge 73 17 dX10_layRoute_14 rfl rfl).trans (mm_ite ((ev_aload_n 74 dX10_layRoute_73 rfl rfl).trans ((ev_callv mX10_goRoute [vR 47] [] 77 dX10_layRoute_74 ml_10_281 k184 rfl oc47 ak47 rfl rfl (Nat.le_of_ble_eq_true rfl) (Nat.le_of_ble_eq_true rfl) rfl).trans (if_pos (show 3 < 4 from by decide)))) ((ev_aload_n 18 dX10_layRoute_17 rfl rfl).trans ((ev_iload_n 19 dX10_layRoute_18 rfl rfl).trans ((ev_iload_n 20 dX10_layRoute_19 rfl rfl).trans ((ev_callv mX10_at [vR 47, vI a1, vI a2] [] 23 dX10_layRoute_20 ml_10_275 k182 rfl oc47 ak47 rfl rfl (Nat.le_of_ble_eq_true rfl) (Nat.le_of_ble_eq_true rfl) rfl).trans (if_pos (show 1 < 4 from by decide)))))))) (rfl))))))
theorem X10_layRoute_23 (h : mm_M) (a1 : Int) (a2 : Int) (o3 : Option mm_V) (s0 : Int) : mm_ev mX10_layRoute 4 23 [some (vR 47), some (vI a1), some (vI a2), o3] [vI s0] h = (mm_call mX10_isPost [vR 47, vI s0] h).bind (fun w => mm_ev mX10_layRoute 4 29 [some (vR 47), some (vI a1), some (vI a2), some (vI s0)] (w.1 ++ []) w.2) := (ev_istore_n 24 [some (vR 47), some (vI a1), some (vI a2), some (vI s0)] dX10_layRoute_23 rfl rfl).trans ((ev_aload_n 25 dX10_layRoute_24 rfl rfl).trans ((ev_iload_n 26 dX10_layRoute_25 rfl rfl).trans ((ev_callv mX10_isPost [vR 47, vI s0] [] 29 dX10_layRoute_26 ml_10_170 k145 rfl oc47 ak47 rfl rfl (Nat.le_of_ble_eq_true rfl) (Nat.le_of_ble_eq_true rfl) rfl).trans (if_pos (show 2 < 4 from by decide)))))
theorem X10_layRoute_29 (h : mm_M) (a1 : Int) (a2 : Int) (a3 : Int) (s0 : Int) : mm_ev mX10_layRoute 4 29 [some (vR 47), some (vI a1), some (vI a2), some (vI a3)] [vI s0] h = if s0 = 0 then (mm_call mX10_goRoute [vR 47] h).bind (fun w => mm_ev mX10_layRoute 4 77 [some (vR 47), some (vI a1), some (vI a2), some (vI a3)] (w.1 ++ []) w.2) else if a3 = 0 then (mm_call mX10_goRoute [vR 47] h).bind (fun w => mm_ev mX10_layRoute 4 77 [some (vR 47), some (vI a1), some (vI a2), some (vI a3)] (w.1 ++ []) w.2) else (mm_call mX10_placeOf [vR 47, vI a3] h).bind (fun w => mm_ev mX10_layRoute 4 41 [some (vR 47), some (vI a1), some (vI a2), some (vI a3)] (w.1 ++ []) w.2) := (ev_if_eq 73 32 dX10_layRoute_29 rfl rfl).trans (mm_ite ((ev_aload_n 74 dX10_layRoute_73 rfl rfl).trans ((ev_callv mX10_goRoute [vR 47] [] 77 dX10_layRoute_74 ml_10_281 k184 rfl oc47 ak47 rfl rfl (Nat.le_of_ble_eq_true rfl) (Nat.le_of_ble_eq_true rfl) rfl).trans (if_pos (show 3 < 4 from by decide)))) ((ev_iload_n 33 dX10_layRoute_32 rfl rfl).trans ((ev_if_eq 73 36 dX10_layRoute_33 rfl rfl).trans (mm_ite ((ev_aload_n 74 dX10_layRoute_73 rfl rfl).trans ((ev_callv mX10_goRoute [vR 47] [] 77 dX10_layRoute_74 ml_10_281 k184 rfl oc47 ak47 rfl rfl (Nat.le_of_ble_eq_true rfl) (Nat.le_of_ble_eq_true rfl) rfl).trans (if_pos (show 3 < 4 from by decide)))) ((ev_aload_n 37 dX10_layRoute_36 rfl rfl).trans ((ev_iload_n 38 dX10_layRoute_37 rfl rfl).trans ((ev_callv mX10_placeOf [vR 47, vI a3] [] 41 dX10_layRoute_38 ml_10_278 k180 rfl oc47 ak47 rfl rfl (Nat.le_of_ble_eq_true rfl) (Nat.le_of_ble_eq_true rfl) rfl).trans (if_pos (show 1 < 4 from by decide)))))))))
theorem X10_layRoute_41 (h : mm_M) (a1 : Int) (a2 : Int) (a3 : Int) (s0 : Int) : mm_ev mX10_layRoute 4 41 [some (vR 47), some (vI a1), some (vI a2), some (vI a3)] [vI s0] h = if s0 < 0 then if 0 ≤ (h 47 35) ∧ (h 47 35) < 7 then mm_ev mX10_layRoute 4 7 [some (vR 47), some (vI a1), some (vI (w32 (a2 + 1))), some (vI a3)] [] (mUp (mUp h 68 (h 47 35) a3) 47 35 (w32 (((mUp h 68 (h 47 35) a3) 47 35) + 1))) else none else (mm_call mX10_goRoute [vR 47] h).bind (fun w => mm_ev mX10_layRoute 4 77 [some (vR 47), some (vI a1), some (vI a2), some (vI a3)] (w.1 ++ []) w.2) := (ev_if_lt 47 44 dX10_layRoute_41 rfl rfl).trans (mm_ite ((ev_aload_n 48 dX10_layRoute_47 rfl rfl).trans ((ev_getF 51 68 dX10_layRoute_48 fl_10_81 oc47 ak47 rfl rf_47_34 rfl).trans ((ev_aload_n 52 dX10_layRoute_51 rfl rfl).trans ((ev_getI 55 35 dX10_layRoute_52 fl_10_269 oc47 ak47 (by decide) rfl rfl).trans ((ev_iload_n 56 dX10_layRoute_55 rfl rfl).trans ((ev_iast 57 7 dX10_layRoute_56 ak68 an68 rfl).trans (mm_ite ((ev_aload_n 58 dX10_layRoute_57 rfl rfl).trans ((ev_dup 59 dX10_layRoute_58 rfl rfl).trans ((ev_getI 62 35 dX10_layRoute_59 fl_10_269 oc47 ak47 (by decide) rfl rfl).trans ((ev_iconst 63 (v := 1) dX10_layRoute_62 rfl rfl).trans ((ev_iadd 64 dX10_layRoute_63 rfl).trans ((ev_putI 67 35 dX10_layRoute_64 fl_10_269 oc47 ak47 rfl rfl rfl).trans ((ev_iinc 70 [some (vR 47), some (vI a1), some (vI (w32 (a2 + 1))), some (vI a3)] dX10_layRoute_67 rfl rfl rfl).trans (ev_goto 7 dX10_layRoute_70 rfl)))))))) (rfl)))))))) ((ev_goto 73 dX10_layRoute_44 rfl).trans ((ev_aload_n 74 dX10_layRoute_73 rfl rfl).trans ((ev_callv mX10_goRoute [vR 47] [] 77 dX10_layRoute_74 ml_10_281 k184 rfl oc47 ak47 rfl rfl (Nat.le_of_ble_eq_true rfl) (Nat.le_of_ble_eq_true rfl) rfl).trans (if_pos (show 3 < 4 from by decide))))))
theorem X10_layRoute_77 (h : mm_M) (a1 : Int) (a2 : Int) (o3 : Option mm_V) : mm_ev mX10_layRoute 4 77 [some (vR 47), some (vI a1), some (vI a2), o3] [] h = some ([], h) := ev_vret dX10_layRoute_77 rfl
theorem dX10_at_0 : decode mX10_at.1 0 = .ok (.aload_n 0, 1) := by decide +kernel
theorem dX10_at_1 : decode mX10_at.1 1 = .ok (.getfield 123, 3) := by decide +kernel
theorem dX10_at_4 : decode mX10_at.1 4 = .ok (.bipush 60, 2) := by decide +kernel
theorem dX10_at_6 : decode mX10_at.1 6 = .ok (.iload_n 1, 1) := by decide +kernel
theorem dX10_at_7 : decode mX10_at.1 7 = .ok (.imul, 1) := by decide +kernel
theorem dX10_at_8 : decode mX10_at.1 8 = .ok (.iload_n 2, 1) := by decide +kernel
theorem dX10_at_9 : decode mX10_at.1 9 = .ok (.iadd, 1) := by decide +kernel
theorem dX10_at_10 : decode mX10_at.1 10 = .ok (.laload, 1) := by decide +kernel
theorem dX10_at_11 : decode mX10_at.1 11 = .ok (.l2i, 1) := by decide +kernel
theorem dX10_at_12 : decode mX10_at.1 12 = .ok (.ireturn, 1) := by decide +kernel
theorem X10_at_0 (h : mm_M) (a1 : Int) (a2 : Int) : mm_ev mX10_at 1 0 [some (vR 47), some (vI a1), some (vI a2)] [] h = if 0 ≤ (w32 ((w32 (60 * a1)) + a2)) ∧ (w32 ((w32 (60 * a1)) + a2)) < 360 then some ([vI (w32 (h 81 (w32 ((w32 (60 * a1)) + a2))))], h) else none := (ev_aload_n 1 dX10_at_0 rfl rfl).trans ((ev_getF 4 81 dX10_at_1 fl_10_123 oc47 ak47 rfl rf_47_55 rfl).trans ((ev_bipush 6 (v := 60) dX10_at_4 rfl rfl).trans ((ev_iload_n 7 dX10_at_6 rfl rfl).trans ((ev_imul 8 dX10_at_7 rfl).trans ((ev_iload_n 9 dX10_at_8 rfl rfl).trans ((ev_iadd 10 dX10_at_9 rfl).trans ((ev_lald 11 360 dX10_at_10 ak81 an81 rfl).trans (mm_ite ((ev_l2i 12 dX10_at_11 rfl).trans (ev_iret dX10_at_12 rfl)) (rfl)))))))))
theorem X10_at_c (h : mm_M) (a1 : Int) (a2 : Int) : mm_call mX10_at [vR 47, vI a1, vI a2] h = if 0 ≤ (w32 ((w32 (60 * a1)) + a2)) ∧ (w32 ((w32 (60 * a1)) + a2)) < 360 then some ([vI (w32 (h 81 (w32 ((w32 (60 * a1)) + a2))))], h) else none := X10_at_0 h a1 a2
theorem dX10_placeOf_0 : decode mX10_placeOf.1 0 = .ok (.iconst 0, 1) := by decide +kernel
theorem dX10_placeOf_1 : decode mX10_placeOf.1 1 = .ok (.istore_n 2, 1) := by decide +kernel
theorem dX10_placeOf_2 : decode mX10_placeOf.1 2 = .ok (.iload_n 2, 1) := by decide +kernel
theorem dX10_placeOf_3 : decode mX10_placeOf.1 3 = .ok (.aload_n 0, 1) := by decide +kernel
theorem dX10_placeOf_4 : decode mX10_placeOf.1 4 = .ok (.getfield 269, 3) := by decide +kernel
theorem dX10_placeOf_7 : decode mX10_placeOf.1 7 = .ok (.if_icmp .ge 21, 3) := by decide +kernel
theorem dX10_placeOf_10 : decode mX10_placeOf.1 10 = .ok (.aload_n 0, 1) := by decide +kernel
theorem dX10_placeOf_11 : decode mX10_placeOf.1 11 = .ok (.getfield 81, 3) := by decide +kernel
theorem dX10_placeOf_14 : decode mX10_placeOf.1 14 = .ok (.iload_n 2, 1) := by decide +kernel
theorem dX10_placeOf_15 : decode mX10_placeOf.1 15 = .ok (.iaload, 1) := by decide +kernel
theorem dX10_placeOf_16 : decode mX10_placeOf.1 16 = .ok (.iload_n 1, 1) := by decide +kernel
theorem dX10_placeOf_17 : decode mX10_placeOf.1 17 = .ok (.if_icmp .ne 5, 3) := by decide +kernel
theorem dX10_placeOf_20 : decode mX10_placeOf.1 20 = .ok (.iload_n 2, 1) := by decide +kernel
theorem dX10_placeOf_21 : decode mX10_placeOf.1 21 = .ok (.ireturn, 1) := by decide +kernel
theorem dX10_placeOf_22 : decode mX10_placeOf.1 22 = .ok (.iinc 2 1, 3) := by decide +kernel
theorem dX10_placeOf_25 : decode mX10_placeOf.1 25 = .ok (.goto (-23), 3) := by decide +kernel
theorem dX10_placeOf_28 : decode mX10_placeOf.1 28 = .ok (.iconst (-1), 1) := by decide +kernel
theorem dX10_placeOf_29 : decode mX10_placeOf.1 29 = .ok (.ireturn, 1) := by decide +kernel
theorem X10_placeOf_0 (h : mm_M) (a1 : Int) : mm_ev mX10_placeOf 1 0 [some (vR 47), some (vI a1), none] [] h = mm_ev mX10_placeOf 1 2 [some (vR 47), some (vI a1), some (vI 0)] [] h := (ev_iconst 1 (v := 0) dX10_placeOf_0 rfl rfl).trans (ev_istore_n 2 [some (vR 47), some (vI a1), some (vI 0)] dX10_placeOf_1 rfl rfl)
theorem X10_placeOf_c (h : mm_M) (a1 : Int) : mm_call mX10_placeOf [vR 47, vI a1] h = mm_ev mX10_placeOf 1 2 [some (vR 47), some (vI a1), some (vI 0)] [] h := X10_placeOf_0 h a1
theorem X10_placeOf_2 (h : mm_M) (a1 : Int) (a2 : Int) : mm_ev mX10_placeOf 1 2 [some (vR 47), some (vI a1), some (vI a2)] [] h = if (h 47 35) ≤ a2 then some ([vI (-1)], h) else if 0 ≤ a2 ∧ a2 < 7 then if ¬ (h 68 a2) = a1 then mm_ev mX10_placeOf 1 2 [some (vR 47), some (vI a1), some (vI (w32 (a2 + 1)))] [] h else some ([vI a2], h) else none := (ev_iload_n 3 dX10_placeOf_2 rfl rfl).trans ((ev_aload_n 4 dX10_placeOf_3 rfl rfl).trans ((ev_getI 7 35 dX10_placeOf_4 fl_10_269 oc47 ak47 (by decide) rfl rfl).trans ((ev_ic_ge 28 10 dX10_placeOf_7 rfl rfl).trans (mm_ite ((ev_iconst 29 (v := (-1)) dX10_placeOf_28 rfl rfl).trans (ev_iret dX10_placeOf_29 rfl)) ((ev_aload_n 11 dX10_placeOf_10 rfl rfl).trans ((ev_getF 14 68 dX10_placeOf_11 fl_10_81 oc47 ak47 rfl rf_47_34 rfl).trans ((ev_iload_n 15 dX10_placeOf_14 rfl rfl).trans ((ev_iald 16 7 dX10_placeOf_15 ak68 an68 rfl).trans (mm_ite ((ev_iload_n 17 dX10_placeOf_16 rfl rfl).trans ((ev_ic_ne 22 20 dX10_placeOf_17 rfl rfl).trans (mm_ite ((ev_iinc 25 [some (vR 47), some (vI a1), some (vI (w32 (a2 + 1)))] dX10_placeOf_22 rfl rfl rfl).trans (ev_goto 2 dX10_placeOf_25 rfl)) ((ev_iload_n 21 dX10_placeOf_20 rfl rfl).trans (ev_iret dX10_placeOf_21 rfl))))) (rfl))))))))))
theorem dX10_goRoute_0 : decode mX10_goRoute.1 0 = .ok (.iconst 0, 1) := by decide +kernel
theorem dX10_goRoute_1 : decode mX10_goRoute.1 1 = .ok (.istore_n 1, 1) := by decide +kernel
theorem dX10_goRoute_2 : decode mX10_goRoute.1 2 = .ok (.iload_n 1, 1) := by decide +kernel
theorem dX10_goRoute_3 : decode mX10_goRoute.1 3 = .ok (.bipush 7, 2) := by decide +kernel
theorem dX10_goRoute_5 : decode mX10_goRoute.1 5 = .ok (.if_icmp .ge 17, 3) := by decide +kernel
theorem dX10_goRoute_8 : decode mX10_goRoute.1 8 = .ok (.aload_n 0, 1) := by decide +kernel
theorem dX10_goRoute_9 : decode mX10_goRoute.1 9 = .ok (.getfield 84, 3) := by decide +kernel
theorem dX10_goRoute_12 : decode mX10_goRoute.1 12 = .ok (.iload_n 1, 1) := by decide +kernel
theorem dX10_goRoute_13 : decode mX10_goRoute.1 13 = .ok (.bipush (-2), 2) := by decide +kernel
theorem dX10_goRoute_15 : decode mX10_goRoute.1 15 = .ok (.iastore, 1) := by decide +kernel
theorem dX10_goRoute_16 : decode mX10_goRoute.1 16 = .ok (.iinc 1 1, 3) := by decide +kernel
theorem dX10_goRoute_19 : decode mX10_goRoute.1 19 = .ok (.goto (-17), 3) := by decide +kernel
theorem dX10_goRoute_22 : decode mX10_goRoute.1 22 = .ok (.aload_n 0, 1) := by decide +kernel
theorem dX10_goRoute_23 : decode mX10_goRoute.1 23 = .ok (.getfield 84, 3) := by decide +kernel
theorem dX10_goRoute_26 : decode mX10_goRoute.1 26 = .ok (.iconst 0, 1) := by decide +kernel
theorem dX10_goRoute_27 : decode mX10_goRoute.1 27 = .ok (.aload_n 0, 1) := by decide +kernel
theorem dX10_goRoute_28 : decode mX10_goRoute.1 28 = .ok (.getfield 153, 3) := by decide +kernel
theorem dX10_goRoute_31 : decode mX10_goRoute.1 31 = .ok (.iastore, 1) := by decide +kernel
theorem dX10_goRoute_32 : decode mX10_goRoute.1 32 = .ok (.aload_n 0, 1) := by decide +kernel
theorem dX10_goRoute_33 : decode mX10_goRoute.1 33 = .ok (.getfield 153, 3) := by decide +kernel
theorem dX10_goRoute_36 : decode mX10_goRoute.1 36 = .ok (.istore_n 1, 1) := by decide +kernel
theorem dX10_goRoute_37 : decode mX10_goRoute.1 37 = .ok (.iconst 0, 1) := by decide +kernel
theorem dX10_goRoute_38 : decode mX10_goRoute.1 38 = .ok (.istore_n 2, 1) := by decide +kernel
theorem dX10_goRoute_39 : decode mX10_goRoute.1 39 = .ok (.iconst 0, 1) := by decide +kernel
theorem dX10_goRoute_40 : decode mX10_goRoute.1 40 = .ok (.istore_n 3, 1) := by decide +kernel
theorem dX10_goRoute_41 : decode mX10_goRoute.1 41 = .ok (.iload_n 3, 1) := by decide +kernel
theorem dX10_goRoute_42 : decode mX10_goRoute.1 42 = .ok (.aload_n 0, 1) := by decide +kernel
theorem dX10_goRoute_43 : decode mX10_goRoute.1 43 = .ok (.getfield 269, 3) := by decide +kernel
theorem dX10_goRoute_46 : decode mX10_goRoute.1 46 = .ok (.if_icmp .ge 40, 3) := by decide +kernel
theorem dX10_goRoute_49 : decode mX10_goRoute.1 49 = .ok (.iload_n 1, 1) := by decide +kernel
theorem dX10_goRoute_50 : decode mX10_goRoute.1 50 = .ok (.aload_n 0, 1) := by decide +kernel
theorem dX10_goRoute_51 : decode mX10_goRoute.1 51 = .ok (.iload_n 2, 1) := by decide +kernel
theorem dX10_goRoute_52 : decode mX10_goRoute.1 52 = .ok (.aload_n 0, 1) := by decide +kernel
theorem dX10_goRoute_53 : decode mX10_goRoute.1 53 = .ok (.getfield 81, 3) := by decide +kernel
theorem dX10_goRoute_56 : decode mX10_goRoute.1 56 = .ok (.iload_n 3, 1) := by decide +kernel
theorem dX10_goRoute_57 : decode mX10_goRoute.1 57 = .ok (.iaload, 1) := by decide +kernel
theorem dX10_goRoute_58 : decode mX10_goRoute.1 58 = .ok (.invokevirtual 272, 3) := by decide +kernel
theorem dX10_goRoute_61 : decode mX10_goRoute.1 61 = .ok (.iadd, 1) := by decide +kernel
theorem dX10_goRoute_62 : decode mX10_goRoute.1 62 = .ok (.istore_n 1, 1) := by decide +kernel
theorem dX10_goRoute_63 : decode mX10_goRoute.1 63 = .ok (.aload_n 0, 1) := by decide +kernel
theorem dX10_goRoute_64 : decode mX10_goRoute.1 64 = .ok (.getfield 81, 3) := by decide +kernel
theorem dX10_goRoute_67 : decode mX10_goRoute.1 67 = .ok (.iload_n 3, 1) := by decide +kernel
theorem dX10_goRoute_68 : decode mX10_goRoute.1 68 = .ok (.iaload, 1) := by decide +kernel
theorem dX10_goRoute_69 : decode mX10_goRoute.1 69 = .ok (.istore_n 2, 1) := by decide +kernel
theorem dX10_goRoute_70 : decode mX10_goRoute.1 70 = .ok (.aload_n 0, 1) := by decide +kernel
theorem dX10_goRoute_71 : decode mX10_goRoute.1 71 = .ok (.getfield 84, 3) := by decide +kernel
theorem dX10_goRoute_74 : decode mX10_goRoute.1 74 = .ok (.iload_n 2, 1) := by decide +kernel
theorem dX10_goRoute_75 : decode mX10_goRoute.1 75 = .ok (.iload_n 1, 1) := by decide +kernel
theorem dX10_goRoute_76 : decode mX10_goRoute.1 76 = .ok (.iastore, 1) := by decide +kernel
theorem dX10_goRoute_77 : decode mX10_goRoute.1 77 = .ok (.iinc 1 1, 3) := by decide +kernel
theorem dX10_goRoute_80 : decode mX10_goRoute.1 80 = .ok (.iinc 3 1, 3) := by decide +kernel
theorem dX10_goRoute_83 : decode mX10_goRoute.1 83 = .ok (.goto (-42), 3) := by decide +kernel
theorem dX10_goRoute_86 : decode mX10_goRoute.1 86 = .ok (.return_, 1) := by decide +kernel
theorem X10_goRoute_0 (h : mm_M) : mm_ev mX10_goRoute 3 0 [some (vR 47), none, none, none] [] h = mm_ev mX10_goRoute 3 2 [some (vR 47), some (vI 0), none, none] [] h := (ev_iconst 1 (v := 0) dX10_goRoute_0 rfl rfl).trans (ev_istore_n 2 [some (vR 47), some (vI 0), none, none] dX10_goRoute_1 rfl rfl)
theorem X10_goRoute_c (h : mm_M) : mm_call mX10_goRoute [vR 47] h = mm_ev mX10_goRoute 3 2 [some (vR 47), some (vI 0), none, none] [] h := X10_goRoute_0 h 
theorem X10_goRoute_2 (h : mm_M) (a1 : Int) : mm_ev mX10_goRoute 3 2 [some (vR 47), some (vI a1), none, none] [] h = if 7 ≤ a1 then if 0 ≤ 0 ∧ 0 < 7 then mm_ev mX10_goRoute 3 41 [some (vR 47), some (vI ((mUp h 69 0 (h 47 12)) 47 12)), some (vI 0), some (vI 0)] [] (mUp h 69 0 (h 47 12)) else none else if 0 ≤ a1 ∧ a1 < 7 then mm_ev mX10_goRoute 3 2 [some (vR 47), some (vI (w32 (a1 + 1))), none, none] [] (mUp h 69 a1 (-2)) else none := (ev_iload_n 3 dX10_goRoute_2 rfl rfl).trans ((ev_bipush 5 (v := 7) dX10_goRoute_3 rfl rfl).trans ((ev_ic_ge 22 8 dX10_goRoute_5 rfl rfl).trans (mm_ite ((ev_aload_n 23 dX10_goRoute_22 rfl rfl).trans ((ev_getF 26 69 dX10_goRoute_23 fl_10_84 oc47 ak47 rfl rf_47_36 rfl).trans ((ev_iconst 27 (v := 0) dX10_goRoute_26 rfl rfl).trans ((ev_aload_n 28 dX10_goRoute_27 rfl rfl).trans ((ev_getI 31 12 dX10_goRoute_28 fl_10_153 oc47 ak47 (by decide) rfl rfl).trans ((ev_iast 32 7 dX10_goRoute_31 ak69 an69 rfl).trans (mm_ite ((ev_aload_n 33 dX10_goRoute_32 rfl rfl).trans ((ev_getI 36 12 dX10_goRoute_33 fl_10_153 oc47 ak47 (by decide) rfl rfl).trans ((ev_istore_n 37 [some (vR 47), some (vI ((mUp h 69 0 (h 47 12)) 47 12)), none, none] dX10_goRoute_36 rfl rfl).trans ((ev_iconst 38 (v := 0) dX10_goRoute_37 rfl rfl).trans ((ev_istore_n 39 [some (vR 47), some (vI ((mUp h 69 0 (h 47 12)) 47 12)), some (vI 0), none] dX10_goRoute_38 rfl rfl).trans ((ev_iconst 40 (v := 0) dX10_goRoute_39 rfl rfl).trans (ev_istore_n 41 [some (vR 47), some (vI ((mUp h 69 0 (h 47 12)) 47 12)), some (vI 0), some (vI 0)] dX10_goRoute_40 rfl rfl))))))) (rfl)))))))) ((ev_aload_n 9 dX10_goRoute_8 rfl rfl).trans ((ev_getF 12 69 dX10_goRoute_9 fl_10_84 oc47 ak47 rfl rf_47_36 rfl).trans ((ev_iload_n 13 dX10_goRoute_12 rfl rfl).trans ((ev_bipush 15 (v := (-2)) dX10_goRoute_13 rfl rfl).trans ((ev_iast 16 7 dX10_goRoute_15 ak69 an69 rfl).trans (mm_ite ((ev_iinc 19 [some (vR 47), some (vI (w32 (a1 + 1))), none, none] dX10_goRoute_16 rfl rfl rfl).trans (ev_goto 2 dX10_goRoute_19 rfl)) (rfl))))))))))
theorem X10_goRoute_41 (h : mm_M) (a1 : Int) (a2 : Int) (a3 : Int) : mm_ev mX10_goRoute 3 41 [some (vR 47), some (vI a1), some (vI a2), some (vI a3)] [] h = if (h 47 35) ≤ a3 then some ([], h) else if 0 ≤ a3 ∧ a3 < 7 then (mm_call mX10_distance [vR 47, vI a2, vI (h 68 a3)] h).bind (fun w => mm_ev mX10_goRoute 3 61 [some (vR 47), some (vI a1), some (vI a2), some (vI a3)] (w.1 ++ [vI a1]) w.2) else none := (ev_iload_n 42 dX10_goRoute_41 rfl rfl).trans ((ev_aload_n 43 dX10_goRoute_42 rfl rfl).trans ((ev_getI 46 35 dX10_goRoute_43 fl_10_269 oc47 ak47 (by decide) rfl rfl).trans ((ev_ic_ge 86 49 dX10_goRoute_46 rfl rfl).trans (mm_ite (ev_vret dX10_goRoute_86 rfl) ((ev_iload_n 50 dX10_goRoute_49 rfl rfl).trans ((ev_aload_n 51 dX10_goRoute_50 rfl rfl).trans ((ev_iload_n 52 dX10_goRoute_51 rfl rfl).trans ((ev_aload_n 53 dX10_goRoute_52 rfl rfl).trans ((ev_getF 56 68 dX10_goRoute_53 fl_10_81 oc47 ak47 rfl rf_47_34 rfl).trans ((ev_iload_n 57 dX10_goRoute_56 rfl rfl).trans ((ev_iald 58 7 dX10_goRoute_57 ak68 an68 rfl).trans (mm_ite ((ev_callv mX10_distance [vR 47, vI a2, vI (h 68 a3)] [vI a1] 61 dX10_goRoute_58 ml_10_272 k183 rfl oc47 ak47 rfl rfl (Nat.le_of_ble_eq_true rfl) (Nat.le_of_ble_eq_true rfl) rfl).trans (if_pos (show 2 < 3 from by decide))) (rfl)))))))))))))
theorem X10_goRoute_61 (h : mm_M) (a1 : Int) (a2 : Int) (a3 : Int) (s0 : Int) (s1 : Int) : mm_ev mX10_goRoute 3 61 [some (vR 47), some (vI a1), some (vI a2), some (vI a3)] [vI s0, vI s1] h = if 0 ≤ a3 ∧ a3 < 7 then if 0 ≤ (h 68 a3) ∧ (h 68 a3) < 7 then mm_ev mX10_goRoute 3 41 [some (vR 47), some (vI (w32 ((w32 (s1 + s0)) + 1))), some (vI (h 68 a3)), some (vI (w32 (a3 + 1)))] [] (mUp h 69 (h 68 a3) (w32 (s1 + s0))) else none else none := (ev_iadd 62 dX10_goRoute_61 rfl).trans ((ev_istore_n 63 [some (vR 47), some (vI (w32 (s1 + s0))), some (vI a2), some (vI a3)] dX10_goRoute_62 rfl rfl).trans ((ev_aload_n 64 dX10_goRoute_63 rfl rfl).trans ((ev_getF 67 68 dX10_goRoute_64 fl_10_81 oc47 ak47 rfl rf_47_34 rfl).trans ((ev_iload_n 68 dX10_goRoute_67 rfl rfl).trans ((ev_iald 69 7 dX10_goRoute_68 ak68 an68 rfl).trans (mm_ite ((ev_istore_n 70 [some (vR 47), some (vI (w32 (s1 + s0))), some (vI (h 68 a3)), some (vI a3)] dX10_goRoute_69 rfl rfl).trans ((ev_aload_n 71 dX10_goRoute_70 rfl rfl).trans ((ev_getF 74 69 dX10_goRoute_71 fl_10_84 oc47 ak47 rfl rf_47_36 rfl).trans ((ev_iload_n 75 dX10_goRoute_74 rfl rfl).trans ((ev_iload_n 76 dX10_goRoute_75 rfl rfl).trans ((ev_iast 77 7 dX10_goRoute_76 ak69 an69 rfl).trans (mm_ite ((ev_iinc 80 [some (vR 47), some (vI (w32 ((w32 (s1 + s0)) + 1))), some (vI (h 68 a3)), some (vI a3)] dX10_goRoute_77 rfl rfl rfl).trans ((ev_iinc 83 [some (vR 47), some (vI (w32 ((w32 (s1 + s0)) + 1))), some (vI (h 68 a3)), some (vI (w32 (a3 + 1)))] dX10_goRoute_80 rfl rfl rfl).trans (ev_goto 41 dX10_goRoute_83 rfl))) (rfl)))))))) (rfl)))))))
theorem dX10_distance_0 : decode mX10_distance.1 0 = .ok (.aload_n 0, 1) := by decide +kernel
theorem dX10_distance_1 : decode mX10_distance.1 1 = .ok (.getfield 9, 3) := by decide +kernel
theorem dX10_distance_4 : decode mX10_distance.1 4 = .ok (.iload_n 1, 1) := by decide +kernel
theorem dX10_distance_5 : decode mX10_distance.1 5 = .ok (.iaload, 1) := by decide +kernel
theorem dX10_distance_6 : decode mX10_distance.1 6 = .ok (.aload_n 0, 1) := by decide +kernel
theorem dX10_distance_7 : decode mX10_distance.1 7 = .ok (.getfield 9, 3) := by decide +kernel
theorem dX10_distance_10 : decode mX10_distance.1 10 = .ok (.iload_n 2, 1) := by decide +kernel
theorem dX10_distance_11 : decode mX10_distance.1 11 = .ok (.iaload, 1) := by decide +kernel
theorem dX10_distance_12 : decode mX10_distance.1 12 = .ok (.invokestatic 260, 3) := by decide +kernel
theorem dX10_distance_15 : decode mX10_distance.1 15 = .ok (.aload_n 0, 1) := by decide +kernel
theorem dX10_distance_16 : decode mX10_distance.1 16 = .ok (.getfield 15, 3) := by decide +kernel
theorem dX10_distance_19 : decode mX10_distance.1 19 = .ok (.iload_n 1, 1) := by decide +kernel
theorem dX10_distance_20 : decode mX10_distance.1 20 = .ok (.iaload, 1) := by decide +kernel
theorem dX10_distance_21 : decode mX10_distance.1 21 = .ok (.aload_n 0, 1) := by decide +kernel
theorem dX10_distance_22 : decode mX10_distance.1 22 = .ok (.getfield 15, 3) := by decide +kernel
theorem dX10_distance_25 : decode mX10_distance.1 25 = .ok (.iload_n 2, 1) := by decide +kernel
theorem dX10_distance_26 : decode mX10_distance.1 26 = .ok (.iaload, 1) := by decide +kernel
theorem dX10_distance_27 : decode mX10_distance.1 27 = .ok (.invokestatic 260, 3) := by decide +kernel
theorem dX10_distance_30 : decode mX10_distance.1 30 = .ok (.iadd, 1) := by decide +kernel
theorem dX10_distance_31 : decode mX10_distance.1 31 = .ok (.ireturn, 1) := by decide +kernel
theorem X10_distance_0 (h : mm_M) (a1 : Int) (a2 : Int) : mm_ev mX10_distance 2 0 [some (vR 47), some (vI a1), some (vI a2)] [] h = if 0 ≤ a1 ∧ a1 < 7 then if 0 ≤ a2 ∧ a2 < 7 then (mm_call mX10_apart [vI (h 48 a1), vI (h 48 a2)] h).bind (fun w => mm_ev mX10_distance 2 15 [some (vR 47), some (vI a1), some (vI a2)] (w.1 ++ []) w.2) else none else none := (ev_aload_n 1 dX10_distance_0 rfl rfl).trans ((ev_getF 4 48 dX10_distance_1 fl_10_9 oc47 ak47 rfl rf_47_2 rfl).trans ((ev_iload_n 5 dX10_distance_4 rfl rfl).trans ((ev_iald 6 7 dX10_distance_5 ak48 an48 rfl).trans (mm_ite ((ev_aload_n 7 dX10_distance_6 rfl rfl).trans ((ev_getF 10 48 dX10_distance_7 fl_10_9 oc47 ak47 rfl rf_47_2 rfl).trans ((ev_iload_n 11 dX10_distance_10 rfl rfl).trans ((ev_iald 12 7 dX10_distance_11 ak48 an48 rfl).trans (mm_ite ((ev_calls mX10_apart [vI (h 48 a1), vI (h 48 a2)] [] 15 dX10_distance_12 ml_10_260 k144 rfl rfl rfl (Nat.le_of_ble_eq_true rfl) (Nat.le_of_ble_eq_true rfl) rfl).trans (if_pos (show 1 < 2 from by decide))) (rfl)))))) (rfl)))))
theorem X10_distance_c (h : mm_M) (a1 : Int) (a2 : Int) : mm_call mX10_distance [vR 47, vI a1, vI a2] h = if 0 ≤ a1 ∧ a1 < 7 then if 0 ≤ a2 ∧ a2 < 7 then (mm_call mX10_apart [vI (h 48 a1), vI (h 48 a2)] h).bind (fun w => mm_ev mX10_distance 2 15 [some (vR 47), some (vI a1), some (vI a2)] (w.1 ++ []) w.2) else none else none := X10_distance_0 h a1 a2
theorem X10_distance_15 (h : mm_M) (a1 : Int) (a2 : Int) (s0 : Int) : mm_ev mX10_distance 2 15 [some (vR 47), some (vI a1), some (vI a2)] [vI s0] h = if 0 ≤ a1 ∧ a1 < 7 then if 0 ≤ a2 ∧ a2 < 7 then (mm_call mX10_apart [vI (h 49 a1), vI (h 49 a2)] h).bind (fun w => mm_ev mX10_distance 2 30 [some (vR 47), some (vI a1), some (vI a2)] (w.1 ++ [vI s0]) w.2) else none else none := (ev_aload_n 16 dX10_distance_15 rfl rfl).trans ((ev_getF 19 49 dX10_distance_16 fl_10_15 oc47 ak47 rfl rf_47_3 rfl).trans ((ev_iload_n 20 dX10_distance_19 rfl rfl).trans ((ev_iald 21 7 dX10_distance_20 ak49 an49 rfl).trans (mm_ite ((ev_aload_n 22 dX10_distance_21 rfl rfl).trans ((ev_getF 25 49 dX10_distance_22 fl_10_15 oc47 ak47 rfl rf_47_3 rfl).trans ((ev_iload_n 26 dX10_distance_25 rfl rfl).trans ((ev_iald 27 7 dX10_distance_26 ak49 an49 rfl).trans (mm_ite ((ev_calls mX10_apart [vI (h 49 a1), vI (h 49 a2)] [vI s0] 30 dX10_distance_27 ml_10_260 k144 rfl rfl rfl (Nat.le_of_ble_eq_true rfl) (Nat.le_of_ble_eq_true rfl) rfl).trans (if_pos (show 1 < 2 from by decide))) (rfl)))))) (rfl)))))
theorem X10_distance_30 (h : mm_M) (a1 : Int) (a2 : Int) (s0 : Int) (s1 : Int) : mm_ev mX10_distance 2 30 [some (vR 47), some (vI a1), some (vI a2)] [vI s0, vI s1] h = some ([vI (w32 (s1 + s0))], h) := (ev_iadd 31 dX10_distance_30 rfl).trans (ev_iret dX10_distance_31 rfl)
theorem dX10_apart_0 : decode mX10_apart.1 0 = .ok (.iload_n 0, 1) := by decide +kernel
theorem dX10_apart_1 : decode mX10_apart.1 1 = .ok (.iload_n 1, 1) := by decide +kernel
theorem dX10_apart_2 : decode mX10_apart.1 2 = .ok (.if_icmp .ge 9, 3) := by decide +kernel
theorem dX10_apart_5 : decode mX10_apart.1 5 = .ok (.iload_n 1, 1) := by decide +kernel
theorem dX10_apart_6 : decode mX10_apart.1 6 = .ok (.iload_n 0, 1) := by decide +kernel
theorem dX10_apart_7 : decode mX10_apart.1 7 = .ok (.isub, 1) := by decide +kernel
theorem dX10_apart_8 : decode mX10_apart.1 8 = .ok (.goto 6, 3) := by decide +kernel
theorem dX10_apart_11 : decode mX10_apart.1 11 = .ok (.iload_n 0, 1) := by decide +kernel
theorem dX10_apart_12 : decode mX10_apart.1 12 = .ok (.iload_n 1, 1) := by decide +kernel
theorem dX10_apart_13 : decode mX10_apart.1 13 = .ok (.isub, 1) := by decide +kernel
theorem dX10_apart_14 : decode mX10_apart.1 14 = .ok (.ireturn, 1) := by decide +kernel
theorem X10_apart_0 (h : mm_M) (a0 : Int) (a1 : Int) : mm_ev mX10_apart 1 0 [some (vI a0), some (vI a1)] [] h = if a1 ≤ a0 then some ([vI (w32 (a0 - a1))], h) else some ([vI (w32 (a1 - a0))], h) := (ev_iload_n 1 dX10_apart_0 rfl rfl).trans ((ev_iload_n 2 dX10_apart_1 rfl rfl).trans ((ev_ic_ge 11 5 dX10_apart_2 rfl rfl).trans (mm_ite ((ev_iload_n 12 dX10_apart_11 rfl rfl).trans ((ev_iload_n 13 dX10_apart_12 rfl rfl).trans ((ev_isub 14 dX10_apart_13 rfl).trans (ev_iret dX10_apart_14 rfl)))) ((ev_iload_n 6 dX10_apart_5 rfl rfl).trans ((ev_iload_n 7 dX10_apart_6 rfl rfl).trans ((ev_isub 8 dX10_apart_7 rfl).trans ((ev_goto 14 dX10_apart_8 rfl).trans (ev_iret dX10_apart_14 rfl))))))))
theorem X10_apart_c (h : mm_M) (a0 : Int) (a1 : Int) : mm_call mX10_apart [vI a0, vI a1] h = if a1 ≤ a0 then some ([vI (w32 (a0 - a1))], h) else some ([vI (w32 (a1 - a0))], h) := X10_apart_0 h a0 a1
theorem dX10_mishear_0 : decode mX10_mishear.1 0 = .ok (.iload_n 1, 1) := by decide +kernel
theorem dX10_mishear_1 : decode mX10_mishear.1 1 = .ok (.ifCond .ne 5, 3) := by decide +kernel
theorem dX10_mishear_4 : decode mX10_mishear.1 4 = .ok (.iconst 0, 1) := by decide +kernel
theorem dX10_mishear_5 : decode mX10_mishear.1 5 = .ok (.ireturn, 1) := by decide +kernel
theorem dX10_mishear_6 : decode mX10_mishear.1 6 = .ok (.aload_n 0, 1) := by decide +kernel
theorem dX10_mishear_7 : decode mX10_mishear.1 7 = .ok (.getfield 18, 3) := by decide +kernel
theorem dX10_mishear_10 : decode mX10_mishear.1 10 = .ok (.iload_n 1, 1) := by decide +kernel
theorem dX10_mishear_11 : decode mX10_mishear.1 11 = .ok (.iaload, 1) := by decide +kernel
theorem dX10_mishear_12 : decode mX10_mishear.1 12 = .ok (.iload_n 2, 1) := by decide +kernel
theorem dX10_mishear_13 : decode mX10_mishear.1 13 = .ok (.iadd, 1) := by decide +kernel
theorem dX10_mishear_14 : decode mX10_mishear.1 14 = .ok (.aload_n 0, 1) := by decide +kernel
theorem dX10_mishear_15 : decode mX10_mishear.1 15 = .ok (.getfield 21, 3) := by decide +kernel
theorem dX10_mishear_18 : decode mX10_mishear.1 18 = .ok (.aload_n 0, 1) := by decide +kernel
theorem dX10_mishear_19 : decode mX10_mishear.1 19 = .ok (.getfield 36, 3) := by decide +kernel
theorem dX10_mishear_22 : decode mX10_mishear.1 22 = .ok (.iaload, 1) := by decide +kernel
theorem dX10_mishear_23 : decode mX10_mishear.1 23 = .ok (.isub, 1) := by decide +kernel
theorem dX10_mishear_24 : decode mX10_mishear.1 24 = .ok (.istore_n 3, 1) := by decide +kernel
theorem dX10_mishear_25 : decode mX10_mishear.1 25 = .ok (.aload_n 0, 1) := by decide +kernel
theorem dX10_mishear_26 : decode mX10_mishear.1 26 = .ok (.getfield 256, 3) := by decide +kernel
theorem dX10_mishear_29 : decode mX10_mishear.1 29 = .ok (.ifCond .eq 92, 3) := by decide +kernel
theorem dX10_mishear_32 : decode mX10_mishear.1 32 = .ok (.aload_n 0, 1) := by decide +kernel
theorem dX10_mishear_33 : decode mX10_mishear.1 33 = .ok (.getfield 75, 3) := by decide +kernel
theorem dX10_mishear_36 : decode mX10_mishear.1 36 = .ok (.iconst 0, 1) := by decide +kernel
theorem dX10_mishear_37 : decode mX10_mishear.1 37 = .ok (.aload_n 0, 1) := by decide +kernel
theorem dX10_mishear_38 : decode mX10_mishear.1 38 = .ok (.getfield 21, 3) := by decide +kernel
theorem dX10_mishear_41 : decode mX10_mishear.1 41 = .ok (.aload_n 0, 1) := by decide +kernel
theorem dX10_mishear_42 : decode mX10_mishear.1 42 = .ok (.getfield 36, 3) := by decide +kernel
theorem dX10_mishear_45 : decode mX10_mishear.1 45 = .ok (.iaload, 1) := by decide +kernel
theorem dX10_mishear_46 : decode mX10_mishear.1 46 = .ok (.iastore, 1) := by decide +kernel
theorem dX10_mishear_47 : decode mX10_mishear.1 47 = .ok (.aload_n 0, 1) := by decide +kernel
theorem dX10_mishear_48 : decode mX10_mishear.1 48 = .ok (.getfield 75, 3) := by decide +kernel
theorem dX10_mishear_51 : decode mX10_mishear.1 51 = .ok (.iconst 1, 1) := by decide +kernel
theorem dX10_mishear_52 : decode mX10_mishear.1 52 = .ok (.iload_n 2, 1) := by decide +kernel
theorem dX10_mishear_53 : decode mX10_mishear.1 53 = .ok (.iastore, 1) := by decide +kernel
theorem dX10_mishear_54 : decode mX10_mishear.1 54 = .ok (.aload_n 0, 1) := by decide +kernel
theorem dX10_mishear_55 : decode mX10_mishear.1 55 = .ok (.getfield 75, 3) := by decide +kernel
theorem dX10_mishear_58 : decode mX10_mishear.1 58 = .ok (.iconst 2, 1) := by decide +kernel
theorem dX10_mishear_59 : decode mX10_mishear.1 59 = .ok (.aload_n 0, 1) := by decide +kernel
theorem dX10_mishear_60 : decode mX10_mishear.1 60 = .ok (.getfield 18, 3) := by decide +kernel
theorem dX10_mishear_63 : decode mX10_mishear.1 63 = .ok (.iload_n 1, 1) := by decide +kernel
theorem dX10_mishear_64 : decode mX10_mishear.1 64 = .ok (.iaload, 1) := by decide +kernel
theorem dX10_mishear_65 : decode mX10_mishear.1 65 = .ok (.iastore, 1) := by decide +kernel
theorem dX10_mishear_66 : decode mX10_mishear.1 66 = .ok (.aload_n 0, 1) := by decide +kernel
theorem dX10_mishear_67 : decode mX10_mishear.1 67 = .ok (.getfield 75, 3) := by decide +kernel
theorem dX10_mishear_70 : decode mX10_mishear.1 70 = .ok (.iconst 3, 1) := by decide +kernel
theorem dX10_mishear_71 : decode mX10_mishear.1 71 = .ok (.iload_n 1, 1) := by decide +kernel
theorem dX10_mishear_72 : decode mX10_mishear.1 72 = .ok (.iastore, 1) := by decide +kernel
theorem dX10_mishear_73 : decode mX10_mishear.1 73 = .ok (.aload_n 0, 1) := by decide +kernel
theorem dX10_mishear_74 : decode mX10_mishear.1 74 = .ok (.getfield 75, 3) := by decide +kernel
theorem dX10_mishear_77 : decode mX10_mishear.1 77 = .ok (.iconst 4, 1) := by decide +kernel
theorem dX10_mishear_78 : decode mX10_mishear.1 78 = .ok (.aload_n 0, 1) := by decide +kernel
theorem dX10_mishear_79 : decode mX10_mishear.1 79 = .ok (.getfield 36, 3) := by decide +kernel
theorem dX10_mishear_82 : decode mX10_mishear.1 82 = .ok (.iastore, 1) := by decide +kernel
theorem dX10_mishear_83 : decode mX10_mishear.1 83 = .ok (.aload_n 0, 1) := by decide +kernel
theorem dX10_mishear_84 : decode mX10_mishear.1 84 = .ok (.getfield 75, 3) := by decide +kernel
theorem dX10_mishear_87 : decode mX10_mishear.1 87 = .ok (.iconst 5, 1) := by decide +kernel
theorem dX10_mishear_88 : decode mX10_mishear.1 88 = .ok (.aload_n 0, 1) := by decide +kernel
theorem dX10_mishear_89 : decode mX10_mishear.1 89 = .ok (.getfield 21, 3) := by decide +kernel
theorem dX10_mishear_92 : decode mX10_mishear.1 92 = .ok (.aload_n 0, 1) := by decide +kernel
theorem dX10_mishear_93 : decode mX10_mishear.1 93 = .ok (.getfield 36, 3) := by decide +kernel
theorem dX10_mishear_96 : decode mX10_mishear.1 96 = .ok (.iaload, 1) := by decide +kernel
theorem dX10_mishear_97 : decode mX10_mishear.1 97 = .ok (.aload_n 0, 1) := by decide +kernel
theorem dX10_mishear_98 : decode mX10_mishear.1 98 = .ok (.getfield 21, 3) := by decide +kernel
theorem dX10_mishear_101 : decode mX10_mishear.1 101 = .ok (.aload_n 0, 1) := by decide +kernel
theorem dX10_mishear_102 : decode mX10_mishear.1 102 = .ok (.getfield 24, 3) := by decide +kernel
theorem dX10_mishear_105 : decode mX10_mishear.1 105 = .ok (.aload_n 0, 1) := by decide +kernel
theorem dX10_mishear_106 : decode mX10_mishear.1 106 = .ok (.getfield 36, 3) := by decide +kernel
theorem dX10_mishear_109 : decode mX10_mishear.1 109 = .ok (.iaload, 1) := by decide +kernel
theorem dX10_mishear_110 : decode mX10_mishear.1 110 = .ok (.iaload, 1) := by decide +kernel
theorem dX10_mishear_111 : decode mX10_mishear.1 111 = .ok (.invokestatic 260, 3) := by decide +kernel
theorem dX10_mishear_114 : decode mX10_mishear.1 114 = .ok (.iastore, 1) := by decide +kernel
theorem dX10_mishear_115 : decode mX10_mishear.1 115 = .ok (.aload_n 0, 1) := by decide +kernel
theorem dX10_mishear_116 : decode mX10_mishear.1 116 = .ok (.iconst 0, 1) := by decide +kernel
theorem dX10_mishear_117 : decode mX10_mishear.1 117 = .ok (.invokevirtual 263, 3) := by decide +kernel
theorem dX10_mishear_120 : decode mX10_mishear.1 120 = .ok (.istore_n 3, 1) := by decide +kernel
theorem dX10_mishear_121 : decode mX10_mishear.1 121 = .ok (.iload_n 3, 1) := by decide +kernel
theorem dX10_mishear_122 : decode mX10_mishear.1 122 = .ok (.ifCond .ge 7, 3) := by decide +kernel
theorem dX10_mishear_125 : decode mX10_mishear.1 125 = .ok (.iconst 0, 1) := by decide +kernel
theorem dX10_mishear_126 : decode mX10_mishear.1 126 = .ok (.goto 15, 3) := by decide +kernel
theorem dX10_mishear_129 : decode mX10_mishear.1 129 = .ok (.iload_n 3, 1) := by decide +kernel
theorem dX10_mishear_130 : decode mX10_mishear.1 130 = .ok (.bipush 12, 2) := by decide +kernel
theorem dX10_mishear_132 : decode mX10_mishear.1 132 = .ok (.if_icmp .le 8, 3) := by decide +kernel
theorem dX10_mishear_135 : decode mX10_mishear.1 135 = .ok (.bipush 12, 2) := by decide +kernel
theorem dX10_mishear_137 : decode mX10_mishear.1 137 = .ok (.goto 4, 3) := by decide +kernel
theorem dX10_mishear_140 : decode mX10_mishear.1 140 = .ok (.iload_n 3, 1) := by decide +kernel
theorem dX10_mishear_141 : decode mX10_mishear.1 141 = .ok (.ireturn, 1) := by decide +kernel
theorem X10_mishear_0 (h : mm_M) (a1 : Int) (a2 : Int) : mm_ev mX10_mishear 4 0 [some (vR 47), some (vI a1), some (vI a2), none] [] h = if ¬ a1 = 0 then if 0 ≤ a1 ∧ a1 < 7 then if 0 ≤ (h 47 11) ∧ (h 47 11) < 10 then if (h 47 33) = 0 then mm_ev mX10_mishear 4 121 [some (vR 47), some (vI a1), some (vI a2), some (vI (w32 ((w32 ((h 50 a1) + a2)) - (h 51 (h 47 11)))))] [] h else if 0 ≤ (h 47 11) ∧ (h 47 11) < 10 then if 0 ≤ 0 ∧ 0 < 6 then if 0 ≤ 1 ∧ 1 < 6 then if 0 ≤ a1 ∧ a1 < 7 then if 0 ≤ 2 ∧ 2 < 6 then if 0 ≤ 3 ∧ 3 < 6 then if 0 ≤ 4 ∧ 4 < 6 then if 0 ≤ ((mUp (mUp (mUp (mUp (mUp h 66 0 (h 51 (h 47 11))) 66 1 a2) 66 2 ((mUp (mUp h 66 0 (h 51 (h 47 11))) 66 1 a2) 50 a1)) 66 3 a1) 66 4 ((mUp (mUp (mUp (mUp h 66 0 (h 51 (h 47 11))) 66 1 a2) 66 2 ((mUp (mUp h 66 0 (h 51 (h 47 11))) 66 1 a2) 50 a1)) 66 3 a1) 47 11)) 47 11) ∧ ((mUp (mUp (mUp (mUp (mUp h 66 0 (h 51 (h 47 11))) 66 1 a2) 66 2 ((mUp (mUp h 66 0 (h 51 (h 47 11))) 66 1 a2) 50 a1)) 66 3 a1) 66 4 ((mUp (mUp (mUp (mUp h 66 0 (h 51 (h 47 11))) 66 1 a2) 66 2 ((mUp (mUp h 66 0 (h 51 (h 47 11))) 66 1 a2) 50 a1)) 66 3 a1) 47 11)) 47 11) < 10 then if 0 ≤ ((mUp (mUp (mUp (mUp (mUp h 66 0 (h 51 (h 47 11))) 66 1 a2) 66 2 ((mUp (mUp h 66 0 (h 51 (h 47 11))) 66 1 a2) 50 a1)) 66 3 a1) 66 4 ((mUp (mUp (mUp (mUp h 66 0 (h 51 (h 47 11))) 66 1 a2) 66 2 ((mUp (mUp h 66 0 (h 51 (h 47 11))) 66 1 a2) 50 a1)) 66 3 a1) 47 11)) 47 11) ∧ ((mUp (mUp (mUp (mUp (mUp h 66 0 (h 51 (h 47 11))) 66 1 a2) 66 2 ((mUp (mUp h 66 0 (h 51 (h 47 11))) 66 1 a2) 50 a1)) 66 3 a1) 66 4 ((mUp (mUp (mUp (mUp h 66 0 (h 51 (h 47 11))) 66 1 a2) 66 2 ((mUp (mUp h 66 0 (h 51 (h 47 11))) 66 1 a2) 50 a1)) 66 3 a1) 47 11)) 47 11) < 10 then if 0 ≤ ((mUp (mUp (mUp (mUp (mUp h 66 0 (h 51 (h 47 11))) 66 1 a2) 66 2 ((mUp (mUp h 66 0 (h 51 (h 47 11))) 66 1 a2) 50 a1)) 66 3 a1) 66 4 ((mUp (mUp (mUp (mUp h 66 0 (h 51 (h 47 11))) 66 1 a2) 66 2 ((mUp (mUp h 66 0 (h 51 (h 47 11))) 66 1 a2) 50 a1)) 66 3 a1) 47 11)) 52 ((mUp (mUp (mUp (mUp (mUp h 66 0 (h 51 (h 47 11))) 66 1 a2) 66 2 ((mUp (mUp h 66 0 (h 51 (h 47 11))) 66 1 a2) 50 a1)) 66 3 a1) 66 4 ((mUp (mUp (mUp (mUp h 66 0 (h 51 (h 47 11))) 66 1 a2) 66 2 ((mUp (mUp h 66 0 (h 51 (h 47 11))) 66 1 a2) 50 a1)) 66 3 a1) 47 11)) 47 11)) ∧ ((mUp (mUp (mUp (mUp (mUp h 66 0 (h 51 (h 47 11))) 66 1 a2) 66 2 ((mUp (mUp h 66 0 (h 51 (h 47 11))) 66 1 a2) 50 a1)) 66 3 a1) 66 4 ((mUp (mUp (mUp (mUp h 66 0 (h 51 (h 47 11))) 66 1 a2) 66 2 ((mUp (mUp h 66 0 (h 51 (h 47 11))) 66 1 a2) 50 a1)) 66 3 a1) 47 11)) 52 ((mUp (mUp (mUp (mUp (mUp h 66 0 (h 51 (h 47 11))) 66 1 a2) 66 2 ((mUp (mUp h 66 0 (h 51 (h 47 11))) 66 1 a2) 50 a1)) 66 3 a1) 66 4 ((mUp (mUp (mUp (mUp h 66 0 (h 51 (h 47 11))) 66 1 a2) 66 2 ((mUp (mUp h 66 0 (h 51 (h 47 11))) 66 1 a2) 50 a1)) 66 3 a1) 47 11)) 47 11)) < 10 then (mm_call mX10_apart [vI ((mUp (mUp (mUp (mUp (mUp h 66 0 (h 51 (h 47 11))) 66 1 a2) 66 2 ((mUp (mUp h 66 0 (h 51 (h 47 11))) 66 1 a2) 50 a1)) 66 3 a1) 66 4 ((mUp (mUp (mUp (mUp h 66 0 (h 51 (h 47 11))) 66 1 a2) 66 2 ((mUp (mUp h 66 0 (h 51 (h 47 11))) 66 1 a2) 50 a1)) 66 3 a1) 47 11)) 51 ((mUp (mUp (mUp (mUp (mUp h 66 0 (h 51 (h 47 11))) 66 1 a2) 66 2 ((mUp (mUp h 66 0 (h 51 (h 47 11))) 66 1 a2) 50 a1)) 66 3 a1) 66 4 ((mUp (mUp (mUp (mUp h 66 0 (h 51 (h 47 11))) 66 1 a2) 66 2 ((mUp (mUp h 66 0 (h 51 (h 47 11))) 66 1 a2) 50 a1)) 66 3 a1) 47 11)) 47 11)), vI ((mUp (mUp (mUp (mUp (mUp h 66 0 (h 51 (h 47 11))) 66 1 a2) 66 2 ((mUp (mUp h 66 0 (h 51 (h 47 11))) 66 1 a2) 50 a1)) 66 3 a1) 66 4 ((mUp (mUp (mUp (mUp h 66 0 (h 51 (h 47 11))) 66 1 a2) 66 2 ((mUp (mUp h 66 0 (h 51 (h 47 11))) 66 1 a2) 50 a1)) 66 3 a1) 47 11)) 51 ((mUp (mUp (mUp (mUp (mUp h 66 0 (h 51 (h 47 11))) 66 1 a2) 66 2 ((mUp (mUp h 66 0 (h 51 (h 47 11))) 66 1 a2) 50 a1)) 66 3 a1) 66 4 ((mUp (mUp (mUp (mUp h 66 0 (h 51 (h 47 11))) 66 1 a2) 66 2 ((mUp (mUp h 66 0 (h 51 (h 47 11))) 66 1 a2) 50 a1)) 66 3 a1) 47 11)) 52 ((mUp (mUp (mUp (mUp (mUp h 66 0 (h 51 (h 47 11))) 66 1 a2) 66 2 ((mUp (mUp h 66 0 (h 51 (h 47 11))) 66 1 a2) 50 a1)) 66 3 a1) 66 4 ((mUp (mUp (mUp (mUp h 66 0 (h 51 (h 47 11))) 66 1 a2) 66 2 ((mUp (mUp h 66 0 (h 51 (h 47 11))) 66 1 a2) 50 a1)) 66 3 a1) 47 11)) 47 11)))] (mUp (mUp (mUp (mUp (mUp h 66 0 (h 51 (h 47 11))) 66 1 a2) 66 2 ((mUp (mUp h 66 0 (h 51 (h 47 11))) 66 1 a2) 50 a1)) 66 3 a1) 66 4 ((mUp (mUp (mUp (mUp h 66 0 (h 51 (h 47 11))) 66 1 a2) 66 2 ((mUp (mUp h 66 0 (h 51 (h 47 11))) 66 1 a2) 50 a1)) 66 3 a1) 47 11))).bind (fun w => mm_ev mX10_mishear 4 114 [some (vR 47), some (vI a1), some (vI a2), some (vI (w32 ((w32 ((h 50 a1) + a2)) - (h 51 (h 47 11)))))] (w.1 ++ [vI 5, vR 66]) w.2) else none else none else none else none else none else none else none else none else none else none else none else none else some ([vI 0], h) := (ev_iload_n 1 dX10_mishear_0 rfl rfl).trans ((ev_if_ne 6 4 dX10_mishear_1 rfl rfl).trans (mm_ite ((ev_aload_n 7 dX10_mishear_6 rfl rfl).trans ((ev_getF 10 50 dX10_mishear_7 fl_10_18 oc47 ak47 rfl rf_47_4 rfl).trans ((ev_iload_n 11 dX10_mishear_10 rfl rfl).trans ((ev_iald 12 7 dX10_mishear_11 ak50 an50 rfl).trans (mm_ite ((ev_iload_n 13 dX10_mishear_12 rfl rfl).trans ((ev_iadd 14 dX10_mishear_13 rfl).trans ((ev_aload_n 15 dX10_mishear_14 rfl rfl).trans ((ev_getF 18 51 dX10_mishear_15 fl_10_21 oc47 ak47 rfl rf_47_5 rfl).trans ((ev_aload_n 19 dX10_mishear_18 rfl rfl).trans ((ev_getI 22 11 dX10_mishear_19 fl_10_36 oc47 ak47 (by decide) rfl rfl).trans ((ev_iald 23 10 dX10_mishear_22 ak51 an51 rfl).trans (mm_ite ((ev_isub 24 dX10_mishear_23 rfl).trans ((ev_istore_n 25 [some (vR 47), some (vI a1), some (vI a2), some (vI (w32 ((w32 ((h 50 a1) + a2)) - (h 51 (h 47 11)))))] dX10_mishear_24 rfl rfl).trans ((ev_aload_n 26 dX10_mishear_25 rfl rfl).trans ((ev_getI 29 33 dX10_mishear_26 fl_10_256 oc47 ak47 (by decide) rfl rfl).trans ((ev_if_eq 121 32 dX10_mishear_29 rfl rfl).trans (mm_ite (rfl) ((ev_aload_n 33 dX10_mishear_32 rfl rfl).trans ((ev_getF 36 66 dX10_mishear_33 fl_10_75 oc47 ak47 rfl rf_47_31 rfl).trans ((ev_iconst 37 (v := 0) dX10_mishear_36 rfl rfl).trans ((ev_aload_n 38 dX10_mishear_37 rfl rfl).trans ((ev_getF 41 51 dX10_mishear_38 fl_10_21 oc47 ak47 rfl rf_47_5 rfl).trans ((ev_aload_n 42 dX10_mishear_41 rfl rfl).trans ((ev_getI 45 11 dX10_mishear_42 fl_10_36 oc47 ak47 (by decide) rfl rfl).trans ((ev_iald 46 10 dX10_mishear_45 ak51 an51 rfl).trans (mm_ite ((ev_iast 47 6 dX10_mishear_46 ak66 an66 rfl).trans (mm_ite ((ev_aload_n 48 dX10_mishear_47 rfl rfl).trans ((ev_getF 51 66 dX10_mishear_48 fl_10_75 oc47 ak47 rfl rf_47_31 rfl).trans ((ev_iconst 52 (v := 1) dX10_mishear_51 rfl rfl).trans ((ev_iload_n 53 dX10_mishear_52 rfl rfl).trans ((ev_iast 54 6 dX10_mishear_53 ak66 an66 rfl).trans (mm_ite ((ev_aload_n 55 dX10_mishear_54 rfl rfl).trans ((ev_getF 58 66 dX10_mishear_55 fl_10_75 oc47 ak47 rfl rf_47_31 rfl).trans ((ev_iconst 59 (v := 2) dX10_mishear_58 rfl rfl).trans ((ev_aload_n 60 dX10_mishear_59 rfl rfl).trans ((ev_getF 63 50 dX10_mishear_60 fl_10_18 oc47 ak47 rfl rf_47_4 rfl).trans ((ev_iload_n 64 dX10_mishear_63 rfl rfl).trans ((ev_iald 65 7 dX10_mishear_64 ak50 an50 rfl).trans (mm_ite ((ev_iast 66 6 dX10_mishear_65 ak66 an66 rfl).trans (mm_ite ((ev_aload_n 67 dX10_mishear_66 rfl rfl).trans ((ev_getF 70 66 dX10_mishear_67 fl_10_75 oc47 ak47 rfl rf_47_31 rfl).trans ((ev_iconst 71 (v := 3) dX10_mishear_70 rfl rfl).trans ((ev_iload_n 72 dX10_mishear_71 rfl rfl).trans ((ev_iast 73 6 dX10_mishear_72 ak66 an66 rfl).trans (mm_ite ((ev_aload_n 74 dX10_mishear_73 rfl rfl).trans ((ev_getF 77 66 dX10_mishear_74 fl_10_75 oc47 ak47 rfl rf_47_31 rfl).trans ((ev_iconst 78 (v := 4) dX10_mishear_77 rfl rfl).trans ((ev_aload_n 79 dX10_mishear_78 rfl rfl).trans ((ev_getI 82 11 dX10_mishear_79 fl_10_36 oc47 ak47 (by decide) rfl rfl).trans ((ev_iast 83 6 dX10_mishear_82 ak66 an66 rfl).trans (mm_ite ((ev_aload_n 84 dX10_mishear_83 rfl rfl).trans ((ev_getF 87 66 dX10_mishear_84 fl_10_75 oc47 ak47 rfl rf_47_31 rfl).trans ((ev_iconst 88 (v := 5) dX10_mishear_87 rfl rfl).trans ((ev_aload_n 89 dX10_mishear_88 rfl rfl).trans ((ev_getF 92 51 dX10_mishear_89 fl_10_21 oc47 ak47 rfl rf_47_5 rfl).trans ((ev_aload_n 93 dX10_mishear_92 rfl rfl).trans ((ev_getI 96 11 dX10_mishear_93 fl_10_36 oc47 ak47 (by decide) rfl rfl).trans ((ev_iald 97 10 dX10_mishear_96 ak51 an51 rfl).trans (mm_ite ((ev_aload_n 98 dX10_mishear_97 rfl rfl).trans ((ev_getF 101 51 dX10_mishear_98 fl_10_21 oc47 ak47 rfl rf_47_5 rfl).trans ((ev_aload_n 102 dX10_mishear_101 rfl rfl).trans ((ev_getF 105 52 dX10_mishear_102 fl_10_24 oc47 ak47 rfl rf_47_6 rfl).trans ((ev_aload_n 106 dX10_mishear_105 rfl rfl).trans ((ev_getI 109 11 dX10_mishear_106 fl_10_36 oc47 ak47 (by decide) rfl rfl).trans ((ev_iald 110 10 dX10_mishear_109 ak52 an52 rfl).trans (mm_ite ((ev_iald 111 10 dX10_mishear_110 ak51 an51 rfl).trans (mm_ite ((ev_calls mX10_apart [vI ((mUp (mUp (mUp (mUp (mUp h 66 0 (h 51 (h 47 11))) 66 1 a2) 66 2 ((mUp (mUp h 66 0 (h 51 (h 47 11))) 66 1 a2) 50 a1)) 66 3 a1) 66 4 ((mUp (mUp (mUp (mUp h 66 0 (h 51 (h 47 11))) 66 1 a2) 66 2 ((mUp (mUp h 66 0 (h 51 (h 47 11))) 66 1 a2) 50 a1)) 66 3 a1) 47 11)) 51 ((mUp (mUp (mUp (mUp (mUp h 66 0 (h 51 (h 47 11))) 66 1 a2) 66 2 ((mUp (mUp h 66 0 (h 51 (h 47 11))) 66 1 a2) 50 a1)) 66 3 a1) 66 4 ((mUp (mUp (mUp (mUp h 66 0 (h 51 (h 47 11))) 66 1 a2) 66 2 ((mUp (mUp h 66 0 (h 51 (h 47 11))) 66 1 a2) 50 a1)) 66 3 a1) 47 11)) 47 11)), vI ((mUp (mUp (mUp (mUp (mUp h 66 0 (h 51 (h 47 11))) 66 1 a2) 66 2 ((mUp (mUp h 66 0 (h 51 (h 47 11))) 66 1 a2) 50 a1)) 66 3 a1) 66 4 ((mUp (mUp (mUp (mUp h 66 0 (h 51 (h 47 11))) 66 1 a2) 66 2 ((mUp (mUp h 66 0 (h 51 (h 47 11))) 66 1 a2) 50 a1)) 66 3 a1) 47 11)) 51 ((mUp (mUp (mUp (mUp (mUp h 66 0 (h 51 (h 47 11))) 66 1 a2) 66 2 ((mUp (mUp h 66 0 (h 51 (h 47 11))) 66 1 a2) 50 a1)) 66 3 a1) 66 4 ((mUp (mUp (mUp (mUp h 66 0 (h 51 (h 47 11))) 66 1 a2) 66 2 ((mUp (mUp h 66 0 (h 51 (h 47 11))) 66 1 a2) 50 a1)) 66 3 a1) 47 11)) 52 ((mUp (mUp (mUp (mUp (mUp h 66 0 (h 51 (h 47 11))) 66 1 a2) 66 2 ((mUp (mUp h 66 0 (h 51 (h 47 11))) 66 1 a2) 50 a1)) 66 3 a1) 66 4 ((mUp (mUp (mUp (mUp h 66 0 (h 51 (h 47 11))) 66 1 a2) 66 2 ((mUp (mUp h 66 0 (h 51 (h 47 11))) 66 1 a2) 50 a1)) 66 3 a1) 47 11)) 47 11)))] [vI 5, vR 66] 114 dX10_mishear_111 ml_10_260 k144 rfl rfl rfl (Nat.le_of_ble_eq_true rfl) (Nat.le_of_ble_eq_true rfl) rfl).trans (if_pos (show 1 < 4 from by decide))) (rfl))) (rfl))))))))) (rfl)))))))))) (rfl)))))))) (rfl))))))) (rfl))) (rfl))))))))) (rfl))))))) (rfl))) (rfl)))))))))))))))) (rfl))))))))) (rfl)))))) ((ev_iconst 5 (v := 0) dX10_mishear_4 rfl rfl).trans (ev_iret dX10_mishear_5 rfl))))
theorem X10_mishear_c (h : mm_M) (a1 : Int) (a2 : Int) : mm_call mX10_mishear [vR 47, vI a1, vI a2] h = if ¬ a1 = 0 then if 0 ≤ a1 ∧ a1 < 7 then if 0 ≤ (h 47 11) ∧ (h 47 11) < 10 then if (h 47 33) = 0 then mm_ev mX10_mishear 4 121 [some (vR 47), some (vI a1), some (vI a2), some (vI (w32 ((w32 ((h 50 a1) + a2)) - (h 51 (h 47 11)))))] [] h else if 0 ≤ (h 47 11) ∧ (h 47 11) < 10 then if 0 ≤ 0 ∧ 0 < 6 then if 0 ≤ 1 ∧ 1 < 6 then if 0 ≤ a1 ∧ a1 < 7 then if 0 ≤ 2 ∧ 2 < 6 then if 0 ≤ 3 ∧ 3 < 6 then if 0 ≤ 4 ∧ 4 < 6 then if 0 ≤ ((mUp (mUp (mUp (mUp (mUp h 66 0 (h 51 (h 47 11))) 66 1 a2) 66 2 ((mUp (mUp h 66 0 (h 51 (h 47 11))) 66 1 a2) 50 a1)) 66 3 a1) 66 4 ((mUp (mUp (mUp (mUp h 66 0 (h 51 (h 47 11))) 66 1 a2) 66 2 ((mUp (mUp h 66 0 (h 51 (h 47 11))) 66 1 a2) 50 a1)) 66 3 a1) 47 11)) 47 11) ∧ ((mUp (mUp (mUp (mUp (mUp h 66 0 (h 51 (h 47 11))) 66 1 a2) 66 2 ((mUp (mUp h 66 0 (h 51 (h 47 11))) 66 1 a2) 50 a1)) 66 3 a1) 66 4 ((mUp (mUp (mUp (mUp h 66 0 (h 51 (h 47 11))) 66 1 a2) 66 2 ((mUp (mUp h 66 0 (h 51 (h 47 11))) 66 1 a2) 50 a1)) 66 3 a1) 47 11)) 47 11) < 10 then if 0 ≤ ((mUp (mUp (mUp (mUp (mUp h 66 0 (h 51 (h 47 11))) 66 1 a2) 66 2 ((mUp (mUp h 66 0 (h 51 (h 47 11))) 66 1 a2) 50 a1)) 66 3 a1) 66 4 ((mUp (mUp (mUp (mUp h 66 0 (h 51 (h 47 11))) 66 1 a2) 66 2 ((mUp (mUp h 66 0 (h 51 (h 47 11))) 66 1 a2) 50 a1)) 66 3 a1) 47 11)) 47 11) ∧ ((mUp (mUp (mUp (mUp (mUp h 66 0 (h 51 (h 47 11))) 66 1 a2) 66 2 ((mUp (mUp h 66 0 (h 51 (h 47 11))) 66 1 a2) 50 a1)) 66 3 a1) 66 4 ((mUp (mUp (mUp (mUp h 66 0 (h 51 (h 47 11))) 66 1 a2) 66 2 ((mUp (mUp h 66 0 (h 51 (h 47 11))) 66 1 a2) 50 a1)) 66 3 a1) 47 11)) 47 11) < 10 then if 0 ≤ ((mUp (mUp (mUp (mUp (mUp h 66 0 (h 51 (h 47 11))) 66 1 a2) 66 2 ((mUp (mUp h 66 0 (h 51 (h 47 11))) 66 1 a2) 50 a1)) 66 3 a1) 66 4 ((mUp (mUp (mUp (mUp h 66 0 (h 51 (h 47 11))) 66 1 a2) 66 2 ((mUp (mUp h 66 0 (h 51 (h 47 11))) 66 1 a2) 50 a1)) 66 3 a1) 47 11)) 52 ((mUp (mUp (mUp (mUp (mUp h 66 0 (h 51 (h 47 11))) 66 1 a2) 66 2 ((mUp (mUp h 66 0 (h 51 (h 47 11))) 66 1 a2) 50 a1)) 66 3 a1) 66 4 ((mUp (mUp (mUp (mUp h 66 0 (h 51 (h 47 11))) 66 1 a2) 66 2 ((mUp (mUp h 66 0 (h 51 (h 47 11))) 66 1 a2) 50 a1)) 66 3 a1) 47 11)) 47 11)) ∧ ((mUp (mUp (mUp (mUp (mUp h 66 0 (h 51 (h 47 11))) 66 1 a2) 66 2 ((mUp (mUp h 66 0 (h 51 (h 47 11))) 66 1 a2) 50 a1)) 66 3 a1) 66 4 ((mUp (mUp (mUp (mUp h 66 0 (h 51 (h 47 11))) 66 1 a2) 66 2 ((mUp (mUp h 66 0 (h 51 (h 47 11))) 66 1 a2) 50 a1)) 66 3 a1) 47 11)) 52 ((mUp (mUp (mUp (mUp (mUp h 66 0 (h 51 (h 47 11))) 66 1 a2) 66 2 ((mUp (mUp h 66 0 (h 51 (h 47 11))) 66 1 a2) 50 a1)) 66 3 a1) 66 4 ((mUp (mUp (mUp (mUp h 66 0 (h 51 (h 47 11))) 66 1 a2) 66 2 ((mUp (mUp h 66 0 (h 51 (h 47 11))) 66 1 a2) 50 a1)) 66 3 a1) 47 11)) 47 11)) < 10 then (mm_call mX10_apart [vI ((mUp (mUp (mUp (mUp (mUp h 66 0 (h 51 (h 47 11))) 66 1 a2) 66 2 ((mUp (mUp h 66 0 (h 51 (h 47 11))) 66 1 a2) 50 a1)) 66 3 a1) 66 4 ((mUp (mUp (mUp (mUp h 66 0 (h 51 (h 47 11))) 66 1 a2) 66 2 ((mUp (mUp h 66 0 (h 51 (h 47 11))) 66 1 a2) 50 a1)) 66 3 a1) 47 11)) 51 ((mUp (mUp (mUp (mUp (mUp h 66 0 (h 51 (h 47 11))) 66 1 a2) 66 2 ((mUp (mUp h 66 0 (h 51 (h 47 11))) 66 1 a2) 50 a1)) 66 3 a1) 66 4 ((mUp (mUp (mUp (mUp h 66 0 (h 51 (h 47 11))) 66 1 a2) 66 2 ((mUp (mUp h 66 0 (h 51 (h 47 11))) 66 1 a2) 50 a1)) 66 3 a1) 47 11)) 47 11)), vI ((mUp (mUp (mUp (mUp (mUp h 66 0 (h 51 (h 47 11))) 66 1 a2) 66 2 ((mUp (mUp h 66 0 (h 51 (h 47 11))) 66 1 a2) 50 a1)) 66 3 a1) 66 4 ((mUp (mUp (mUp (mUp h 66 0 (h 51 (h 47 11))) 66 1 a2) 66 2 ((mUp (mUp h 66 0 (h 51 (h 47 11))) 66 1 a2) 50 a1)) 66 3 a1) 47 11)) 51 ((mUp (mUp (mUp (mUp (mUp h 66 0 (h 51 (h 47 11))) 66 1 a2) 66 2 ((mUp (mUp h 66 0 (h 51 (h 47 11))) 66 1 a2) 50 a1)) 66 3 a1) 66 4 ((mUp (mUp (mUp (mUp h 66 0 (h 51 (h 47 11))) 66 1 a2) 66 2 ((mUp (mUp h 66 0 (h 51 (h 47 11))) 66 1 a2) 50 a1)) 66 3 a1) 47 11)) 52 ((mUp (mUp (mUp (mUp (mUp h 66 0 (h 51 (h 47 11))) 66 1 a2) 66 2 ((mUp (mUp h 66 0 (h 51 (h 47 11))) 66 1 a2) 50 a1)) 66 3 a1) 66 4 ((mUp (mUp (mUp (mUp h 66 0 (h 51 (h 47 11))) 66 1 a2) 66 2 ((mUp (mUp h 66 0 (h 51 (h 47 11))) 66 1 a2) 50 a1)) 66 3 a1) 47 11)) 47 11)))] (mUp (mUp (mUp (mUp (mUp h 66 0 (h 51 (h 47 11))) 66 1 a2) 66 2 ((mUp (mUp h 66 0 (h 51 (h 47 11))) 66 1 a2) 50 a1)) 66 3 a1) 66 4 ((mUp (mUp (mUp (mUp h 66 0 (h 51 (h 47 11))) 66 1 a2) 66 2 ((mUp (mUp h 66 0 (h 51 (h 47 11))) 66 1 a2) 50 a1)) 66 3 a1) 47 11))).bind (fun w => mm_ev mX10_mishear 4 114 [some (vR 47), some (vI a1), some (vI a2), some (vI (w32 ((w32 ((h 50 a1) + a2)) - (h 51 (h 47 11)))))] (w.1 ++ [vI 5, vR 66]) w.2) else none else none else none else none else none else none else none else none else none else none else none else none else some ([vI 0], h) := X10_mishear_0 h a1 a2
theorem X10_mishear_114 (h : mm_M) (a1 : Int) (a2 : Int) (a3 : Int) (s0 : Int) (s1 : Int) : mm_ev mX10_mishear 4 114 [some (vR 47), some (vI a1), some (vI a2), some (vI a3)] [vI s0, vI s1, vR 66] h = if 0 ≤ s1 ∧ s1 < 6 then (mm_call mX10_gives [vR 47, vI 0] (mUp h 66 s1 s0)).bind (fun w => mm_ev mX10_mishear 4 120 [some (vR 47), some (vI a1), some (vI a2), some (vI a3)] (w.1 ++ []) w.2) else none := (ev_iast 115 6 dX10_mishear_114 ak66 an66 rfl).trans (mm_ite ((ev_aload_n 116 dX10_mishear_115 rfl rfl).trans ((ev_iconst 117 (v := 0) dX10_mishear_116 rfl rfl).trans ((ev_callv mX10_gives [vR 47, vI 0] [] 120 dX10_mishear_117 ml_10_263 k176 rfl oc47 ak47 rfl rfl (Nat.le_of_ble_eq_true rfl) (Nat.le_of_ble_eq_true rfl) rfl).trans (if_pos (show 3 < 4 from by decide))))) (rfl))
theorem X10_mishear_120 (h : mm_M) (a1 : Int) (a2 : Int) (a3 : Int) (s0 : Int) : mm_ev mX10_mishear 4 120 [some (vR 47), some (vI a1), some (vI a2), some (vI a3)] [vI s0] h = mm_ev mX10_mishear 4 121 [some (vR 47), some (vI a1), some (vI a2), some (vI s0)] [] h := ev_istore_n 121 [some (vR 47), some (vI a1), some (vI a2), some (vI s0)] dX10_mishear_120 rfl rfl
theorem X10_mishear_121 (h : mm_M) (a1 : Int) (a2 : Int) (a3 : Int) : mm_ev mX10_mishear 4 121 [some (vR 47), some (vI a1), some (vI a2), some (vI a3)] [] h = if 0 ≤ a3 then if a3 ≤ 12 then some ([vI a3], h) else some ([vI 12], h) else some ([vI 0], h) := (ev_iload_n 122 dX10_mishear_121 rfl rfl).trans ((ev_if_ge 129 125 dX10_mishear_122 rfl rfl).trans (mm_ite ((ev_iload_n 130 dX10_mishear_129 rfl rfl).trans ((ev_bipush 132 (v := 12) dX10_mishear_130 rfl rfl).trans ((ev_ic_le 140 135 dX10_mishear_132 rfl rfl).trans (mm_ite ((ev_iload_n 141 dX10_mishear_140 rfl rfl).trans (ev_iret dX10_mishear_141 rfl)) ((ev_bipush 137 (v := 12) dX10_mishear_135 rfl rfl).trans ((ev_goto 141 dX10_mishear_137 rfl).trans (ev_iret dX10_mishear_141 rfl))))))) ((ev_iconst 126 (v := 0) dX10_mishear_125 rfl rfl).trans ((ev_goto 141 dX10_mishear_126 rfl).trans (ev_iret dX10_mishear_141 rfl)))))
theorem dX10_gives_0 : decode mX10_gives.1 0 = .ok (.iconst 0, 1) := by decide +kernel
theorem dX10_gives_1 : decode mX10_gives.1 1 = .ok (.istore_n 2, 1) := by decide +kernel
theorem dX10_gives_2 : decode mX10_gives.1 2 = .ok (.bipush 61, 2) := by decide +kernel
theorem dX10_gives_4 : decode mX10_gives.1 4 = .ok (.iload_n 1, 1) := by decide +kernel
theorem dX10_gives_5 : decode mX10_gives.1 5 = .ok (.imul, 1) := by decide +kernel
theorem dX10_gives_6 : decode mX10_gives.1 6 = .ok (.istore_n 3, 1) := by decide +kernel
theorem dX10_gives_7 : decode mX10_gives.1 7 = .ok (.iload_n 3, 1) := by decide +kernel
theorem dX10_gives_8 : decode mX10_gives.1 8 = .ok (.bipush 61, 2) := by decide +kernel
theorem dX10_gives_10 : decode mX10_gives.1 10 = .ok (.iload_n 1, 1) := by decide +kernel
theorem dX10_gives_11 : decode mX10_gives.1 11 = .ok (.imul, 1) := by decide +kernel
theorem dX10_gives_12 : decode mX10_gives.1 12 = .ok (.aload_n 0, 1) := by decide +kernel
theorem dX10_gives_13 : decode mX10_gives.1 13 = .ok (.getfield 65, 3) := by decide +kernel
theorem dX10_gives_16 : decode mX10_gives.1 16 = .ok (.iload_n 1, 1) := by decide +kernel
theorem dX10_gives_17 : decode mX10_gives.1 17 = .ok (.iaload, 1) := by decide +kernel
theorem dX10_gives_18 : decode mX10_gives.1 18 = .ok (.iadd, 1) := by decide +kernel
theorem dX10_gives_19 : decode mX10_gives.1 19 = .ok (.if_icmp .ge 59, 3) := by decide +kernel
theorem dX10_gives_22 : decode mX10_gives.1 22 = .ok (.aload_n 0, 1) := by decide +kernel
theorem dX10_gives_23 : decode mX10_gives.1 23 = .ok (.getfield 68, 3) := by decide +kernel
theorem dX10_gives_26 : decode mX10_gives.1 26 = .ok (.iload_n 3, 1) := by decide +kernel
theorem dX10_gives_27 : decode mX10_gives.1 27 = .ok (.saload, 1) := by decide +kernel
theorem dX10_gives_28 : decode mX10_gives.1 28 = .ok (.iload_n 2, 1) := by decide +kernel
theorem dX10_gives_29 : decode mX10_gives.1 29 = .ok (.if_icmp .eq 18, 3) := by decide +kernel
theorem dX10_gives_32 : decode mX10_gives.1 32 = .ok (.aload_n 0, 1) := by decide +kernel
theorem dX10_gives_33 : decode mX10_gives.1 33 = .ok (.iload_n 1, 1) := by decide +kernel
theorem dX10_gives_34 : decode mX10_gives.1 34 = .ok (.iload_n 2, 1) := by decide +kernel
theorem dX10_gives_35 : decode mX10_gives.1 35 = .ok (.aload_n 0, 1) := by decide +kernel
theorem dX10_gives_36 : decode mX10_gives.1 36 = .ok (.getfield 68, 3) := by decide +kernel
theorem dX10_gives_39 : decode mX10_gives.1 39 = .ok (.iload_n 3, 1) := by decide +kernel
theorem dX10_gives_40 : decode mX10_gives.1 40 = .ok (.saload, 1) := by decide +kernel
theorem dX10_gives_41 : decode mX10_gives.1 41 = .ok (.invokevirtual 250, 3) := by decide +kernel
theorem dX10_gives_44 : decode mX10_gives.1 44 = .ok (.ifCond .eq 21, 3) := by decide +kernel
theorem dX10_gives_47 : decode mX10_gives.1 47 = .ok (.aload_n 0, 1) := by decide +kernel
theorem dX10_gives_48 : decode mX10_gives.1 48 = .ok (.iload_n 1, 1) := by decide +kernel
theorem dX10_gives_49 : decode mX10_gives.1 49 = .ok (.aload_n 0, 1) := by decide +kernel
theorem dX10_gives_50 : decode mX10_gives.1 50 = .ok (.getfield 68, 3) := by decide +kernel
theorem dX10_gives_53 : decode mX10_gives.1 53 = .ok (.iload_n 3, 1) := by decide +kernel
theorem dX10_gives_54 : decode mX10_gives.1 54 = .ok (.saload, 1) := by decide +kernel
theorem dX10_gives_55 : decode mX10_gives.1 55 = .ok (.aload_n 0, 1) := by decide +kernel
theorem dX10_gives_56 : decode mX10_gives.1 56 = .ok (.getfield 72, 3) := by decide +kernel
theorem dX10_gives_59 : decode mX10_gives.1 59 = .ok (.iload_n 3, 1) := by decide +kernel
theorem dX10_gives_60 : decode mX10_gives.1 60 = .ok (.saload, 1) := by decide +kernel
theorem dX10_gives_61 : decode mX10_gives.1 61 = .ok (.invokevirtual 250, 3) := by decide +kernel
theorem dX10_gives_64 : decode mX10_gives.1 64 = .ok (.ireturn, 1) := by decide +kernel
theorem dX10_gives_65 : decode mX10_gives.1 65 = .ok (.aload_n 0, 1) := by decide +kernel
theorem dX10_gives_66 : decode mX10_gives.1 66 = .ok (.getfield 72, 3) := by decide +kernel
theorem dX10_gives_69 : decode mX10_gives.1 69 = .ok (.iload_n 3, 1) := by decide +kernel
theorem dX10_gives_70 : decode mX10_gives.1 70 = .ok (.saload, 1) := by decide +kernel
theorem dX10_gives_71 : decode mX10_gives.1 71 = .ok (.istore_n 2, 1) := by decide +kernel
theorem dX10_gives_72 : decode mX10_gives.1 72 = .ok (.iinc 3 1, 3) := by decide +kernel
theorem dX10_gives_75 : decode mX10_gives.1 75 = .ok (.goto (-68), 3) := by decide +kernel
theorem dX10_gives_78 : decode mX10_gives.1 78 = .ok (.iconst 0, 1) := by decide +kernel
theorem dX10_gives_79 : decode mX10_gives.1 79 = .ok (.ireturn, 1) := by decide +kernel
theorem X10_gives_0 (h : mm_M) (a1 : Int) : mm_ev mX10_gives 3 0 [some (vR 47), some (vI a1), none, none] [] h = mm_ev mX10_gives 3 7 [some (vR 47), some (vI a1), some (vI 0), some (vI (w32 (61 * a1)))] [] h := (ev_iconst 1 (v := 0) dX10_gives_0 rfl rfl).trans ((ev_istore_n 2 [some (vR 47), some (vI a1), some (vI 0), none] dX10_gives_1 rfl rfl).trans ((ev_bipush 4 (v := 61) dX10_gives_2 rfl rfl).trans ((ev_iload_n 5 dX10_gives_4 rfl rfl).trans ((ev_imul 6 dX10_gives_5 rfl).trans (ev_istore_n 7 [some (vR 47), some (vI a1), some (vI 0), some (vI (w32 (61 * a1)))] dX10_gives_6 rfl rfl)))))
theorem X10_gives_c (h : mm_M) (a1 : Int) : mm_call mX10_gives [vR 47, vI a1] h = mm_ev mX10_gives 3 7 [some (vR 47), some (vI a1), some (vI 0), some (vI (w32 (61 * a1)))] [] h := X10_gives_0 h a1
theorem X10_gives_7 (h : mm_M) (a1 : Int) (a2 : Int) (a3 : Int) : mm_ev mX10_gives 3 7 [some (vR 47), some (vI a1), some (vI a2), some (vI a3)] [] h = if 0 ≤ a1 ∧ a1 < 2 then if (w32 ((w32 (61 * a1)) + (h 63 a1))) ≤ a3 then some ([vI 0], h) else if 0 ≤ a3 ∧ a3 < 122 then if (h 64 a3) = a2 then mm_ev mX10_gives 3 47 [some (vR 47), some (vI a1), some (vI a2), some (vI a3)] [] h else if 0 ≤ a3 ∧ a3 < 122 then (mm_call mX10_worked [vR 47, vI a1, vI a2, vI (h 64 a3)] h).bind (fun w => mm_ev mX10_gives 3 44 [some (vR 47), some (vI a1), some (vI a2), some (vI a3)] (w.1 ++ []) w.2) else none else none else none := (ev_iload_n 8 dX10_gives_7 rfl rfl).trans ((ev_bipush 10 (v := 61) dX10_gives_8 rfl rfl).trans ((ev_iload_n 11 dX10_gives_10 rfl rfl).trans ((ev_imul 12 dX10_gives_11 rfl).trans ((ev_aload_n 13 dX10_gives_12 rfl rfl).trans ((ev_getF 16 63 dX10_gives_13 fl_10_65 oc47 ak47 rfl rf_47_28 rfl).trans ((ev_iload_n 17 dX10_gives_16 rfl rfl).trans ((ev_iald 18 2 dX10_gives_17 ak63 an63 rfl).trans (mm_ite ((ev_iadd 19 dX10_gives_18 rfl).trans ((ev_ic_ge 78 22 dX10_gives_19 rfl rfl).trans (mm_ite ((ev_iconst 79 (v := 0) dX10_gives_78 rfl rfl).trans (ev_iret dX10_gives_79 rfl)) ((ev_aload_n 23 dX10_gives_22 rfl rfl).trans ((ev_getF 26 64 dX10_gives_23 fl_10_68 oc47 ak47 rfl rf_47_29 rfl).trans ((ev_iload_n 27 dX10_gives_26 rfl rfl).trans ((ev_sald 28 122 dX10_gives_27 ak64 an64 rfl).trans (mm_ite ((ev_iload_n 29 dX10_gives_28 rfl rfl).trans ((ev_ic_eq 47 32 dX10_gives_29 rfl rfl).trans (mm_ite (rfl) ((ev_aload_n 33 dX10_gives_32 rfl rfl).trans ((ev_iload_n 34 dX10_gives_33 rfl rfl).trans ((ev_iload_n 35 dX10_gives_34 rfl rfl).trans ((ev_aload_n 36 dX10_gives_35 rfl rfl).trans ((ev_getF 39 64 dX10_gives_36 fl_10_68 oc47 ak47 rfl rf_47_29 rfl).trans ((ev_iload_n 40 dX10_gives_39 rfl rfl).trans ((ev_sald 41 122 dX10_gives_40 ak64 an64 rfl).trans (mm_ite ((ev_callv mX10_worked [vR 47, vI a1, vI a2, vI (h 64 a3)] [] 44 dX10_gives_41 ml_10_250 k175 rfl oc47 ak47 rfl rfl (Nat.le_of_ble_eq_true rfl) (Nat.le_of_ble_eq_true rfl) rfl).trans (if_pos (show 2 < 3 from by decide))) (rfl)))))))))))) (rfl))))))))) (rfl)))))))))
theorem X10_gives_44 (h : mm_M) (a1 : Int) (a2 : Int) (a3 : Int) (s0 : Int) : mm_ev mX10_gives 3 44 [some (vR 47), some (vI a1), some (vI a2), some (vI a3)] [vI s0] h = if s0 = 0 then if 0 ≤ a3 ∧ a3 < 122 then mm_ev mX10_gives 3 7 [some (vR 47), some (vI a1), some (vI (h 65 a3)), some (vI (w32 (a3 + 1)))] [] h else none else mm_ev mX10_gives 3 47 [some (vR 47), some (vI a1), some (vI a2), some (vI a3)] [] h := (ev_if_eq 65 47 dX10_gives_44 rfl rfl).trans (mm_ite ((ev_aload_n 66 dX10_gives_65 rfl rfl).trans ((ev_getF 69 65 dX10_gives_66 fl_10_72 oc47 ak47 rfl rf_47_30 rfl).trans ((ev_iload_n 70 dX10_gives_69 rfl rfl).trans ((ev_sald 71 122 dX10_gives_70 ak65 an65 rfl).trans (mm_ite ((ev_istore_n 72 [some (vR 47), some (vI a1), some (vI (h 65 a3)), some (vI a3)] dX10_gives_71 rfl rfl).trans ((ev_iinc 75 [some (vR 47), some (vI a1), some (vI (h 65 a3)), some (vI (w32 (a3 + 1)))] dX10_gives_72 rfl rfl rfl).trans (ev_goto 7 dX10_gives_75 rfl))) (rfl)))))) (rfl))
theorem X10_gives_47 (h : mm_M) (a1 : Int) (a2 : Int) (a3 : Int) : mm_ev mX10_gives 3 47 [some (vR 47), some (vI a1), some (vI a2), some (vI a3)] [] h = if 0 ≤ a3 ∧ a3 < 122 then if 0 ≤ a3 ∧ a3 < 122 then (mm_call mX10_worked [vR 47, vI a1, vI (h 64 a3), vI (h 65 a3)] h).bind (fun w => mm_ev mX10_gives 3 64 [some (vR 47), some (vI a1), some (vI a2), some (vI a3)] (w.1 ++ []) w.2) else none else none := (ev_aload_n 48 dX10_gives_47 rfl rfl).trans ((ev_iload_n 49 dX10_gives_48 rfl rfl).trans ((ev_aload_n 50 dX10_gives_49 rfl rfl).trans ((ev_getF 53 64 dX10_gives_50 fl_10_68 oc47 ak47 rfl rf_47_29 rfl).trans ((ev_iload_n 54 dX10_gives_53 rfl rfl).trans ((ev_sald 55 122 dX10_gives_54 ak64 an64 rfl).trans (mm_ite ((ev_aload_n 56 dX10_gives_55 rfl rfl).trans ((ev_getF 59 65 dX10_gives_56 fl_10_72 oc47 ak47 rfl rf_47_30 rfl).trans ((ev_iload_n 60 dX10_gives_59 rfl rfl).trans ((ev_sald 61 122 dX10_gives_60 ak65 an65 rfl).trans (mm_ite ((ev_callv mX10_worked [vR 47, vI a1, vI (h 64 a3), vI (h 65 a3)] [] 64 dX10_gives_61 ml_10_250 k175 rfl oc47 ak47 rfl rfl (Nat.le_of_ble_eq_true rfl) (Nat.le_of_ble_eq_true rfl) rfl).trans (if_pos (show 2 < 3 from by decide))) (rfl)))))) (rfl)))))))
theorem X10_gives_64 (h : mm_M) (a1 : Int) (a2 : Int) (a3 : Int) (s0 : Int) : mm_ev mX10_gives 3 64 [some (vR 47), some (vI a1), some (vI a2), some (vI a3)] [vI s0] h = some ([vI s0], h) := ev_iret dX10_gives_64 rfl
theorem dX10_worked_0 : decode mX10_worked.1 0 = .ok (.iconst 0, 1) := by decide +kernel
theorem dX10_worked_1 : decode mX10_worked.1 1 = .ok (.istore 4, 2) := by decide +kernel
theorem dX10_worked_3 : decode mX10_worked.1 3 = .ok (.sipush 130, 3) := by decide +kernel
theorem dX10_worked_6 : decode mX10_worked.1 6 = .ok (.iload_n 1, 1) := by decide +kernel
theorem dX10_worked_7 : decode mX10_worked.1 7 = .ok (.imul, 1) := by decide +kernel
theorem dX10_worked_8 : decode mX10_worked.1 8 = .ok (.iload_n 2, 1) := by decide +kernel
theorem dX10_worked_9 : decode mX10_worked.1 9 = .ok (.iadd, 1) := by decide +kernel
theorem dX10_worked_10 : decode mX10_worked.1 10 = .ok (.istore 5, 2) := by decide +kernel
theorem dX10_worked_12 : decode mX10_worked.1 12 = .ok (.iload 5, 2) := by decide +kernel
theorem dX10_worked_14 : decode mX10_worked.1 14 = .ok (.sipush 130, 3) := by decide +kernel
theorem dX10_worked_17 : decode mX10_worked.1 17 = .ok (.iload_n 1, 1) := by decide +kernel
theorem dX10_worked_18 : decode mX10_worked.1 18 = .ok (.imul, 1) := by decide +kernel
theorem dX10_worked_19 : decode mX10_worked.1 19 = .ok (.iload_n 3, 1) := by decide +kernel
theorem dX10_worked_20 : decode mX10_worked.1 20 = .ok (.iadd, 1) := by decide +kernel
theorem dX10_worked_21 : decode mX10_worked.1 21 = .ok (.if_icmp .ge 167, 3) := by decide +kernel
theorem dX10_worked_24 : decode mX10_worked.1 24 = .ok (.aload_n 0, 1) := by decide +kernel
theorem dX10_worked_25 : decode mX10_worked.1 25 = .ok (.getfield 59, 3) := by decide +kernel
theorem dX10_worked_28 : decode mX10_worked.1 28 = .ok (.iload 5, 2) := by decide +kernel
theorem dX10_worked_30 : decode mX10_worked.1 30 = .ok (.baload, 1) := by decide +kernel
theorem dX10_worked_31 : decode mX10_worked.1 31 = .ok (.istore 6, 2) := by decide +kernel
theorem dX10_worked_33 : decode mX10_worked.1 33 = .ok (.iload 6, 2) := by decide +kernel
theorem dX10_worked_35 : decode mX10_worked.1 35 = .ok (.iconst 1, 1) := by decide +kernel
theorem dX10_worked_36 : decode mX10_worked.1 36 = .ok (.if_icmp .eq 9, 3) := by decide +kernel
theorem dX10_worked_39 : decode mX10_worked.1 39 = .ok (.iload 6, 2) := by decide +kernel
theorem dX10_worked_41 : decode mX10_worked.1 41 = .ok (.iconst 2, 1) := by decide +kernel
theorem dX10_worked_42 : decode mX10_worked.1 42 = .ok (.if_icmp .ne 44, 3) := by decide +kernel
theorem dX10_worked_45 : decode mX10_worked.1 45 = .ok (.aload_n 0, 1) := by decide +kernel
theorem dX10_worked_46 : decode mX10_worked.1 46 = .ok (.getfield 78, 3) := by decide +kernel
theorem dX10_worked_49 : decode mX10_worked.1 49 = .ok (.iload 4, 2) := by decide +kernel
theorem dX10_worked_51 : decode mX10_worked.1 51 = .ok (.iload 6, 2) := by decide +kernel
theorem dX10_worked_53 : decode mX10_worked.1 53 = .ok (.iconst 1, 1) := by decide +kernel
theorem dX10_worked_54 : decode mX10_worked.1 54 = .ok (.if_icmp .ne 13, 3) := by decide +kernel
theorem dX10_worked_57 : decode mX10_worked.1 57 = .ok (.aload_n 0, 1) := by decide +kernel
theorem dX10_worked_58 : decode mX10_worked.1 58 = .ok (.getfield 62, 3) := by decide +kernel
theorem dX10_worked_61 : decode mX10_worked.1 61 = .ok (.iload 5, 2) := by decide +kernel
theorem dX10_worked_63 : decode mX10_worked.1 63 = .ok (.iaload, 1) := by decide +kernel
theorem dX10_worked_64 : decode mX10_worked.1 64 = .ok (.goto 15, 3) := by decide +kernel
theorem dX10_worked_67 : decode mX10_worked.1 67 = .ok (.aload_n 0, 1) := by decide +kernel
theorem dX10_worked_68 : decode mX10_worked.1 68 = .ok (.getfield 75, 3) := by decide +kernel
theorem dX10_worked_71 : decode mX10_worked.1 71 = .ok (.aload_n 0, 1) := by decide +kernel
theorem dX10_worked_72 : decode mX10_worked.1 72 = .ok (.getfield 62, 3) := by decide +kernel
theorem dX10_worked_75 : decode mX10_worked.1 75 = .ok (.iload 5, 2) := by decide +kernel
theorem dX10_worked_77 : decode mX10_worked.1 77 = .ok (.iaload, 1) := by decide +kernel
theorem dX10_worked_78 : decode mX10_worked.1 78 = .ok (.iaload, 1) := by decide +kernel
theorem dX10_worked_79 : decode mX10_worked.1 79 = .ok (.iastore, 1) := by decide +kernel
theorem dX10_worked_80 : decode mX10_worked.1 80 = .ok (.iinc 4 1, 3) := by decide +kernel
theorem dX10_worked_83 : decode mX10_worked.1 83 = .ok (.goto 99, 3) := by decide +kernel
theorem dX10_worked_86 : decode mX10_worked.1 86 = .ok (.iload 6, 2) := by decide +kernel
theorem dX10_worked_88 : decode mX10_worked.1 88 = .ok (.iconst 3, 1) := by decide +kernel
theorem dX10_worked_89 : decode mX10_worked.1 89 = .ok (.if_icmp .ne 32, 3) := by decide +kernel
theorem dX10_worked_92 : decode mX10_worked.1 92 = .ok (.aload_n 0, 1) := by decide +kernel
theorem dX10_worked_93 : decode mX10_worked.1 93 = .ok (.getfield 78, 3) := by decide +kernel
theorem dX10_worked_96 : decode mX10_worked.1 96 = .ok (.iload 4, 2) := by decide +kernel
theorem dX10_worked_98 : decode mX10_worked.1 98 = .ok (.iconst 1, 1) := by decide +kernel
theorem dX10_worked_99 : decode mX10_worked.1 99 = .ok (.isub, 1) := by decide +kernel
theorem dX10_worked_100 : decode mX10_worked.1 100 = .ok (.aload_n 0, 1) := by decide +kernel
theorem dX10_worked_101 : decode mX10_worked.1 101 = .ok (.getfield 78, 3) := by decide +kernel
theorem dX10_worked_104 : decode mX10_worked.1 104 = .ok (.iload 4, 2) := by decide +kernel
theorem dX10_worked_106 : decode mX10_worked.1 106 = .ok (.iconst 1, 1) := by decide +kernel
theorem dX10_worked_107 : decode mX10_worked.1 107 = .ok (.isub, 1) := by decide +kernel
theorem dX10_worked_108 : decode mX10_worked.1 108 = .ok (.iaload, 1) := by decide +kernel
theorem dX10_worked_109 : decode mX10_worked.1 109 = .ok (.ifCond .ne 7, 3) := by decide +kernel
theorem dX10_worked_112 : decode mX10_worked.1 112 = .ok (.iconst 1, 1) := by decide +kernel
theorem dX10_worked_113 : decode mX10_worked.1 113 = .ok (.goto 4, 3) := by decide +kernel
theorem dX10_worked_116 : decode mX10_worked.1 116 = .ok (.iconst 0, 1) := by decide +kernel
theorem dX10_worked_117 : decode mX10_worked.1 117 = .ok (.iastore, 1) := by decide +kernel
theorem dX10_worked_118 : decode mX10_worked.1 118 = .ok (.goto 64, 3) := by decide +kernel
theorem dX10_worked_121 : decode mX10_worked.1 121 = .ok (.iload 6, 2) := by decide +kernel
theorem dX10_worked_123 : decode mX10_worked.1 123 = .ok (.iconst 4, 1) := by decide +kernel
theorem dX10_worked_124 : decode mX10_worked.1 124 = .ok (.if_icmp .ne 25, 3) := by decide +kernel
theorem dX10_worked_127 : decode mX10_worked.1 127 = .ok (.aload_n 0, 1) := by decide +kernel
theorem dX10_worked_128 : decode mX10_worked.1 128 = .ok (.getfield 78, 3) := by decide +kernel
theorem dX10_worked_131 : decode mX10_worked.1 131 = .ok (.iload 4, 2) := by decide +kernel
theorem dX10_worked_133 : decode mX10_worked.1 133 = .ok (.iconst 1, 1) := by decide +kernel
theorem dX10_worked_134 : decode mX10_worked.1 134 = .ok (.isub, 1) := by decide +kernel
theorem dX10_worked_135 : decode mX10_worked.1 135 = .ok (.aload_n 0, 1) := by decide +kernel
theorem dX10_worked_136 : decode mX10_worked.1 136 = .ok (.getfield 78, 3) := by decide +kernel
theorem dX10_worked_139 : decode mX10_worked.1 139 = .ok (.iload 4, 2) := by decide +kernel
theorem dX10_worked_141 : decode mX10_worked.1 141 = .ok (.iconst 1, 1) := by decide +kernel
theorem dX10_worked_142 : decode mX10_worked.1 142 = .ok (.isub, 1) := by decide +kernel
theorem dX10_worked_143 : decode mX10_worked.1 143 = .ok (.iaload, 1) := by decide +kernel
theorem dX10_worked_144 : decode mX10_worked.1 144 = .ok (.ineg, 1) := by decide +kernel
theorem dX10_worked_145 : decode mX10_worked.1 145 = .ok (.iastore, 1) := by decide +kernel
theorem dX10_worked_146 : decode mX10_worked.1 146 = .ok (.goto 36, 3) := by decide +kernel
theorem dX10_worked_149 : decode mX10_worked.1 149 = .ok (.iinc 4 (-1), 3) := by decide +kernel
theorem dX10_worked_152 : decode mX10_worked.1 152 = .ok (.aload_n 0, 1) := by decide +kernel
theorem dX10_worked_153 : decode mX10_worked.1 153 = .ok (.getfield 78, 3) := by decide +kernel
theorem dX10_worked_156 : decode mX10_worked.1 156 = .ok (.iload 4, 2) := by decide +kernel
theorem dX10_worked_158 : decode mX10_worked.1 158 = .ok (.iconst 1, 1) := by decide +kernel
theorem dX10_worked_159 : decode mX10_worked.1 159 = .ok (.isub, 1) := by decide +kernel
theorem dX10_worked_160 : decode mX10_worked.1 160 = .ok (.iload 6, 2) := by decide +kernel
theorem dX10_worked_162 : decode mX10_worked.1 162 = .ok (.aload_n 0, 1) := by decide +kernel
theorem dX10_worked_163 : decode mX10_worked.1 163 = .ok (.getfield 78, 3) := by decide +kernel
theorem dX10_worked_166 : decode mX10_worked.1 166 = .ok (.iload 4, 2) := by decide +kernel
theorem dX10_worked_168 : decode mX10_worked.1 168 = .ok (.iconst 1, 1) := by decide +kernel
theorem dX10_worked_169 : decode mX10_worked.1 169 = .ok (.isub, 1) := by decide +kernel
theorem dX10_worked_170 : decode mX10_worked.1 170 = .ok (.iaload, 1) := by decide +kernel
theorem dX10_worked_171 : decode mX10_worked.1 171 = .ok (.aload_n 0, 1) := by decide +kernel
theorem dX10_worked_172 : decode mX10_worked.1 172 = .ok (.getfield 78, 3) := by decide +kernel
theorem dX10_worked_175 : decode mX10_worked.1 175 = .ok (.iload 4, 2) := by decide +kernel
theorem dX10_worked_177 : decode mX10_worked.1 177 = .ok (.iaload, 1) := by decide +kernel
theorem dX10_worked_178 : decode mX10_worked.1 178 = .ok (.invokestatic 247, 3) := by decide +kernel
theorem dX10_worked_181 : decode mX10_worked.1 181 = .ok (.iastore, 1) := by decide +kernel
theorem dX10_worked_182 : decode mX10_worked.1 182 = .ok (.iinc 5 1, 3) := by decide +kernel
theorem dX10_worked_185 : decode mX10_worked.1 185 = .ok (.goto (-173), 3) := by decide +kernel
theorem dX10_worked_188 : decode mX10_worked.1 188 = .ok (.aload_n 0, 1) := by decide +kernel
theorem dX10_worked_189 : decode mX10_worked.1 189 = .ok (.getfield 78, 3) := by decide +kernel
theorem dX10_worked_192 : decode mX10_worked.1 192 = .ok (.iconst 0, 1) := by decide +kernel
theorem dX10_worked_193 : decode mX10_worked.1 193 = .ok (.iaload, 1) := by decide +kernel
theorem dX10_worked_194 : decode mX10_worked.1 194 = .ok (.ireturn, 1) := by decide +kernel
theorem X10_worked_0 (h : mm_M) (a1 : Int) (a2 : Int) (a3 : Int) : mm_ev mX10_worked 2 0 [some (vR 47), some (vI a1), some (vI a2), some (vI a3), none, none, none] [] h = mm_ev mX10_worked 2 12 [some (vR 47), some (vI a1), some (vI a2), some (vI a3), some (vI 0), some (vI (w32 ((w32 (130 * a1)) + a2))), none] [] h := (ev_iconst 1 (v := 0) dX10_worked_0 rfl rfl).trans ((ev_istore 3 [some (vR 47), some (vI a1), some (vI a2), some (vI a3), some (vI 0), none, none] dX10_worked_1 rfl rfl).trans ((ev_sipush 6 (v := 130) dX10_worked_3 rfl rfl).trans ((ev_iload_n 7 dX10_worked_6 rfl rfl).trans ((ev_imul 8 dX10_worked_7 rfl).trans ((ev_iload_n 9 dX10_worked_8 rfl rfl).trans ((ev_iadd 10 dX10_worked_9 rfl).trans (ev_istore 12 [some (vR 47), some (vI a1), some (vI a2), some (vI a3), some (vI 0), some (vI (w32 ((w32 (130 * a1)) + a2))), none] dX10_worked_10 rfl rfl)))))))
theorem X10_worked_c (h : mm_M) (a1 : Int) (a2 : Int) (a3 : Int) : mm_call mX10_worked [vR 47, vI a1, vI a2, vI a3] h = mm_ev mX10_worked 2 12 [some (vR 47), some (vI a1), some (vI a2), some (vI a3), some (vI 0), some (vI (w32 ((w32 (130 * a1)) + a2))), none] [] h := X10_worked_0 h a1 a2 a3
theorem X10_worked_12 (h : mm_M) (a1 : Int) (a2 : Int) (a3 : Int) (a4 : Int) (a5 : Int) (o6 : Option mm_V) : mm_ev mX10_worked 2 12 [some (vR 47), some (vI a1), some (vI a2), some (vI a3), some (vI a4), some (vI a5), o6] [] h = if (w32 ((w32 (130 * a1)) + a3)) ≤ a5 then if 0 ≤ 0 ∧ 0 < 130 then some ([vI (h 67 0)], h) else none else if 0 ≤ a5 ∧ a5 < 260 then if (h 61 a5) = 1 then mm_ev mX10_worked 2 45 [some (vR 47), some (vI a1), some (vI a2), some (vI a3), some (vI a4), some (vI a5), some (vI (h 61 a5))] [] h else if ¬ (h 61 a5) = 2 then if ¬ (h 61 a5) = 3 then if ¬ (h 61 a5) = 4 then if 0 ≤ (w32 ((w32 (a4 + (-1))) - 1)) ∧ (w32 ((w32 (a4 + (-1))) - 1)) < 130 then if 0 ≤ (w32 (a4 + (-1))) ∧ (w32 (a4 + (-1))) < 130 then (mm_call mX10_twoOf [vI (h 61 a5), vI (h 67 (w32 ((w32 (a4 + (-1))) - 1))), vI (h 67 (w32 (a4 + (-1))))] h).bind (fun w => mm_ev mX10_worked 2 181 [some (vR 47), some (vI a1), some (vI a2), some (vI a3), some (vI (w32 (a4 + (-1)))), some (vI a5), some (vI (h 61 a5))] (w.1 ++ [vI (w32 ((w32 (a4 + (-1))) - 1)), vR 67]) w.2) else none else none else if 0 ≤ (w32 (a4 - 1)) ∧ (w32 (a4 - 1)) < 130 then if 0 ≤ (w32 (a4 - 1)) ∧ (w32 (a4 - 1)) < 130 then mm_ev mX10_worked 2 12 [some (vR 47), some (vI a1), some (vI a2), some (vI a3), some (vI a4), some (vI (w32 (a5 + 1))), some (vI (h 61 a5))] [] (mUp h 67 (w32 (a4 - 1)) (w32 (-(h 67 (w32 (a4 - 1)))))) else none else none else if 0 ≤ (w32 (a4 - 1)) ∧ (w32 (a4 - 1)) < 130 then if ¬ (h 67 (w32 (a4 - 1))) = 0 then if 0 ≤ (w32 (a4 - 1)) ∧ (w32 (a4 - 1)) < 130 then mm_ev mX10_worked 2 12 [some (vR 47), some (vI a1), some (vI a2), some (vI a3), some (vI a4), some (vI (w32 (a5 + 1))), some (vI (h 61 a5))] [] (mUp h 67 (w32 (a4 - 1)) 0) else none else if 0 ≤ (w32 (a4 - 1)) ∧ (w32 (a4 - 1)) < 130 then mm_ev mX10_worked 2 12 [some (vR 47), some (vI a1), some (vI a2), some (vI a3), some (vI a4), some (vI (w32 (a5 + 1))), some (vI (h 61 a5))] [] (mUp h 67 (w32 (a4 - 1)) 1) else none else none else mm_ev mX10_worked 2 45 [some (vR 47), some (vI a1), some (vI a2), some (vI a3), some (vI a4), some (vI a5), some (vI (h 61 a5))] [] h else none := (ev_iload 14 dX10_worked_12 rfl rfl).trans ((ev_sipush 17 (v := 130) dX10_worked_14 rfl rfl).trans ((ev_iload_n 18 dX10_worked_17 rfl rfl).trans ((ev_imul 19 dX10_worked_18 rfl).trans ((ev_iload_n 20 dX10_worked_19 rfl rfl).trans ((ev_iadd 21 dX10_worked_20 rfl).trans ((ev_ic_ge 188 24 dX10_worked_21 rfl rfl).trans (mm_ite ((ev_aload_n 189 dX10_worked_188 rfl rfl).trans ((ev_getF 192 67 dX10_worked_189 fl_10_78 oc47 ak47 rfl rf_47_32 rfl).trans ((ev_iconst 193 (v := 0) dX10_worked_192 rfl rfl).trans ((ev_iald 194 130 dX10_worked_193 ak67 an67 rfl).trans (mm_ite (ev_iret dX10_worked_194 rfl) (rfl)))))) ((ev_aload_n 25 dX10_worked_24 rfl rfl).trans ((ev_getF 28 61 dX10_worked_25 fl_10_59 oc47 ak47 rfl rf_47_26 rfl).trans ((ev_iload 30 dX10_worked_28 rfl rfl).trans ((ev_bald 31 260 dX10_worked_30 ak61 an61 rfl).trans (mm_ite ((ev_istore 33 [some (vR 47), some (vI a1), some (vI a2), some (vI a3), some (vI a4), some (vI a5), some (vI (h 61 a5))] dX10_worked_31 rfl rfl).trans ((ev_iload 35 dX10_worked_33 rfl rfl).trans ((ev_iconst 36 (v := 1) dX10_worked_35 rfl rfl).trans ((ev_ic_eq 45 39 dX10_worked_36 rfl rfl).trans (mm_ite (rfl) ((ev_iload 41 dX10_worked_39 rfl rfl).trans ((ev_iconst 42 (v := 2) dX10_worked_41 rfl rfl).trans ((ev_ic_ne 86 45 dX10_worked_42 rfl rfl).trans (mm_ite ((ev_iload 88 dX10_worked_86 rfl rfl).trans ((ev_iconst 89 (v := 3) dX10_worked_88 rfl rfl).trans ((ev_ic_ne 121 92 dX10_worked_89 rfl rfl).trans (mm_ite ((ev_iload 123 dX10_worked_121 rfl rfl).trans ((ev_iconst 124 (v := 4) dX10_worked_123 rfl rfl).trans ((ev_ic_ne 149 127 dX10_worked_124 rfl rfl).trans (mm_ite ((ev_iinc 152 [some (vR 47), some (vI a1), some (vI a2), some (vI a3), some (vI (w32 (a4 + (-1)))), some (vI a5), some (vI (h 61 a5))] dX10_worked_149 rfl rfl rfl).trans ((ev_aload_n 153 dX10_worked_152 rfl rfl).trans ((ev_getF 156 67 dX10_worked_153 fl_10_78 oc47 ak47 rfl rf_47_32 rfl).trans ((ev_iload 158 dX10_worked_156 rfl rfl).trans ((ev_iconst 159 (v := 1) dX10_worked_158 rfl rfl).trans ((ev_isub 160 dX10_worked_159 rfl).trans ((ev_iload 162 dX10_worked_160 rfl rfl).trans ((ev_aload_n 163 dX10_worked_162 rfl rfl).trans ((ev_getF 166 67 dX10_worked_163 fl_10_78 oc47 ak47 rfl rf_47_32 rfl).trans ((ev_iload 168 dX10_worked_166 rfl rfl).trans ((ev_iconst 169 (v := 1) dX10_worked_168 rfl rfl).trans ((ev_isub 170 dX10_worked_169 rfl).trans ((ev_iald 171 130 dX10_worked_170 ak67 an67 rfl).trans (mm_ite ((ev_aload_n 172 dX10_worked_171 rfl rfl).trans ((ev_getF 175 67 dX10_worked_172 fl_10_78 oc47 ak47 rfl rf_47_32 rfl).trans ((ev_iload 177 dX10_worked_175 rfl rfl).trans ((ev_iald 178 130 dX10_worked_177 ak67 an67 rfl).trans (mm_ite ((ev_calls mX10_twoOf [vI (h 61 a5), vI (h 67 (w32 ((w32 (a4 + (-1))) - 1))), vI (h 67 (w32 (a4 + (-1))))] [vI (w32 ((w32 (a4 + (-1))) - 1)), vR 67] 181 dX10_worked_178 ml_10_247 k174 rfl rfl rfl (Nat.le_of_ble_eq_true rfl) (Nat.le_of_ble_eq_true rfl) rfl).trans (if_pos (show 1 < 2 from by decide))) (rfl)))))) (rfl))))))))))))))) ((ev_aload_n 128 dX10_worked_127 rfl rfl).trans ((ev_getF 131 67 dX10_worked_128 fl_10_78 oc47 ak47 rfl rf_47_32 rfl).trans ((ev_iload 133 dX10_worked_131 rfl rfl).trans ((ev_iconst 134 (v := 1) dX10_worked_133 rfl rfl).trans ((ev_isub 135 dX10_worked_134 rfl).trans ((ev_aload_n 136 dX10_worked_135 rfl rfl).trans ((ev_getF 139 67 dX10_worked_136 fl_10_78 oc47 ak47 rfl rf_47_32 rfl).trans ((ev_iload 141 dX10_worked_139 rfl rfl).trans ((ev_iconst 142 (v := 1) dX10_worked_141 rfl rfl).trans ((ev_isub 143 dX10_worked_142 rfl).trans ((ev_iald 144 130 dX10_worked_143 ak67 an67 rfl).trans (mm_ite ((ev_ineg 145 dX10_worked_144 rfl).trans ((ev_iast 146 130 dX10_worked_145 ak67 an67 rfl).trans (mm_ite ((ev_goto 182 dX10_worked_146 rfl).trans ((ev_iinc 185 [some (vR 47), some (vI a1), some (vI a2), some (vI a3), some (vI a4), some (vI (w32 (a5 + 1))), some (vI (h 61 a5))] dX10_worked_182 rfl rfl rfl).trans (ev_goto 12 dX10_worked_185 rfl))) (rfl)))) (rfl))))))))))))))))) ((ev_aload_n 93 dX10_worked_92 rfl rfl).trans ((ev_getF 96 67 dX10_worked_93 fl_10_78 oc47 ak47 rfl rf_47_32 rfl).trans ((ev_iload 98 dX10_worked_96 rfl rfl).trans ((ev_iconst 99 (v := 1) dX10_worked_98 rfl rfl).trans ((ev_isub 100 dX10_worked_99 rfl).trans ((ev_aload_n 101 dX10_worked_100 rfl rfl).trans ((ev_getF 104 67 dX10_worked_101 fl_10_78 oc47 ak47 rfl rf_47_32 rfl).trans ((ev_iload 106 dX10_worked_104 rfl rfl).trans ((ev_iconst 107 (v := 1) dX10_worked_106 rfl rfl).trans ((ev_isub 108 dX10_worked_107 rfl).trans ((ev_iald 109 130 dX10_worked_108 ak67 an67 rfl).trans (mm_ite ((ev_if_ne 116 112 dX10_worked_109 rfl rfl).trans (mm_ite ((ev_iconst 117 (v := 0) dX10_worked_116 rfl rfl).trans ((ev_iast 118 130 dX10_worked_117 ak67 an67 rfl).trans (mm_ite ((ev_goto 182 dX10_worked_118 rfl).trans ((ev_iinc 185 [some (vR 47), some (vI a1), some (vI a2), some (vI a3), some (vI a4), some (vI (w32 (a5 + 1))), some (vI (h 61 a5))] dX10_worked_182 rfl rfl rfl).trans (ev_goto 12 dX10_worked_185 rfl))) (rfl)))) ((ev_iconst 113 (v := 1) dX10_worked_112 rfl rfl).trans ((ev_goto 117 dX10_worked_113 rfl).trans ((ev_iast 118 130 dX10_worked_117 ak67 an67 rfl).trans (mm_ite ((ev_goto 182 dX10_worked_118 rfl).trans ((ev_iinc 185 [some (vR 47), some (vI a1), some (vI a2), some (vI a3), some (vI a4), some (vI (w32 (a5 + 1))), some (vI (h 61 a5))] dX10_worked_182 rfl rfl rfl).trans (ev_goto 12 dX10_worked_185 rfl))) (rfl))))))) (rfl))))))))))))))))) (rfl)))))))))) (rfl)))))))))))))
theorem X10_worked_45 (h : mm_M) (a1 : Int) (a2 : Int) (a3 : Int) (a4 : Int) (a5 : Int) (a6 : Int) : mm_ev mX10_worked 2 45 [some (vR 47), some (vI a1), some (vI a2), some (vI a3), some (vI a4), some (vI a5), some (vI a6)] [] h = if ¬ a6 = 1 then if 0 ≤ a5 ∧ a5 < 260 then if 0 ≤ (h 62 a5) ∧ (h 62 a5) < 6 then if 0 ≤ a4 ∧ a4 < 130 then mm_ev mX10_worked 2 12 [some (vR 47), some (vI a1), some (vI a2), some (vI a3), some (vI (w32 (a4 + 1))), some (vI (w32 (a5 + 1))), some (vI a6)] [] (mUp h 67 a4 (h 66 (h 62 a5))) else none else none else none else if 0 ≤ a5 ∧ a5 < 260 then if 0 ≤ a4 ∧ a4 < 130 then mm_ev mX10_worked 2 12 [some (vR 47), some (vI a1), some (vI a2), some (vI a3), some (vI (w32 (a4 + 1))), some (vI (w32 (a5 + 1))), some (vI a6)] [] (mUp h 67 a4 (h 62 a5)) else none else none := (ev_aload_n 46 dX10_worked_45 rfl rfl).trans ((ev_getF 49 67 dX10_worked_46 fl_10_78 oc47 ak47 rfl rf_47_32 rfl).trans ((ev_iload 51 dX10_worked_49 rfl rfl).trans ((ev_iload 53 dX10_worked_51 rfl rfl).trans ((ev_iconst 54 (v := 1) dX10_worked_53 rfl rfl).trans ((ev_ic_ne 67 57 dX10_worked_54 rfl rfl).trans (mm_ite ((ev_aload_n 68 dX10_worked_67 rfl rfl).trans ((ev_getF 71 66 dX10_worked_68 fl_10_75 oc47 ak47 rfl rf_47_31 rfl).trans ((ev_aload_n 72 dX10_worked_71 rfl rfl).trans ((ev_getF 75 62 dX10_worked_72 fl_10_62 oc47 ak47 rfl rf_47_27 rfl).trans ((ev_iload 77 dX10_worked_75 rfl rfl).trans ((ev_iald 78 260 dX10_worked_77 ak62 an62 rfl).trans (mm_ite ((ev_iald 79 6 dX10_worked_78 ak66 an66 rfl).trans (mm_ite ((ev_iast 80 130 dX10_worked_79 ak67 an67 rfl).trans (mm_ite ((ev_iinc 83 [some (vR 47), some (vI a1), some (vI a2), some (vI a3), some (vI (w32 (a4 + 1))), some (vI a5), some (vI a6)] dX10_worked_80 rfl rfl rfl).trans ((ev_goto 182 dX10_worked_83 rfl).trans ((ev_iinc 185 [some (vR 47), some (vI a1), some (vI a2), some (vI a3), some (vI (w32 (a4 + 1))), some (vI (w32 (a5 + 1))), some (vI a6)] dX10_worked_182 rfl rfl rfl).trans (ev_goto 12 dX10_worked_185 rfl)))) (rfl))) (rfl))) (rfl)))))))) ((ev_aload_n 58 dX10_worked_57 rfl rfl).trans ((ev_getF 61 62 dX10_worked_58 fl_10_62 oc47 ak47 rfl rf_47_27 rfl).trans ((ev_iload 63 dX10_worked_61 rfl rfl).trans ((ev_iald 64 260 dX10_worked_63 ak62 an62 rfl).trans (mm_ite ((ev_goto 79 dX10_worked_64 rfl).trans ((ev_iast 80 130 dX10_worked_79 ak67 an67 rfl).trans (mm_ite ((ev_iinc 83 [some (vR 47), some (vI a1), some (vI a2), some (vI a3), some (vI (w32 (a4 + 1))), some (vI a5), some (vI a6)] dX10_worked_80 rfl rfl rfl).trans ((ev_goto 182 dX10_worked_83 rfl).trans ((ev_iinc 185 [some (vR 47), some (vI a1), some (vI a2), some (vI a3), some (vI (w32 (a4 + 1))), some (vI (w32 (a5 + 1))), some (vI a6)] dX10_worked_182 rfl rfl rfl).trans (ev_goto 12 dX10_worked_185 rfl)))) (rfl)))) (rfl))))))))))))
theorem X10_worked_181 (h : mm_M) (a1 : Int) (a2 : Int) (a3 : Int) (a4 : Int) (a5 : Int) (a6 : Int) (s0 : Int) (s1 : Int) : mm_ev mX10_worked 2 181 [some (vR 47), some (vI a1), some (vI a2), some (vI a3), some (vI a4), some (vI a5), some (vI a6)] [vI s0, vI s1, vR 67] h = if 0 ≤ s1 ∧ s1 < 130 then mm_ev mX10_worked 2 12 [some (vR 47), some (vI a1), some (vI a2), some (vI a3), some (vI a4), some (vI (w32 (a5 + 1))), some (vI a6)] [] (mUp h 67 s1 s0) else none := (ev_iast 182 130 dX10_worked_181 ak67 an67 rfl).trans (mm_ite ((ev_iinc 185 [some (vR 47), some (vI a1), some (vI a2), some (vI a3), some (vI a4), some (vI (w32 (a5 + 1))), some (vI a6)] dX10_worked_182 rfl rfl rfl).trans (ev_goto 12 dX10_worked_185 rfl)) (rfl))
theorem dX10_twoOf_0 : decode mX10_twoOf.1 0 = .ok (.iload_n 0, 1) := by decide +kernel
theorem dX10_twoOf_1 : decode mX10_twoOf.1 1 = .ok (.tableswitch 217 37 62 #[153, 203, 217, 217, 217, 127, 119, 217, 123, 217, 131, 217, 217, 217, 217, 217, 217, 217, 217, 217, 217, 217, 217, 170, 181, 192], 119) := by decide +kernel
theorem dX10_twoOf_120 : decode mX10_twoOf.1 120 = .ok (.iload_n 1, 1) := by decide +kernel
theorem dX10_twoOf_121 : decode mX10_twoOf.1 121 = .ok (.iload_n 2, 1) := by decide +kernel
theorem dX10_twoOf_122 : decode mX10_twoOf.1 122 = .ok (.iadd, 1) := by decide +kernel
theorem dX10_twoOf_123 : decode mX10_twoOf.1 123 = .ok (.ireturn, 1) := by decide +kernel
theorem dX10_twoOf_124 : decode mX10_twoOf.1 124 = .ok (.iload_n 1, 1) := by decide +kernel
theorem dX10_twoOf_125 : decode mX10_twoOf.1 125 = .ok (.iload_n 2, 1) := by decide +kernel
theorem dX10_twoOf_126 : decode mX10_twoOf.1 126 = .ok (.isub, 1) := by decide +kernel
theorem dX10_twoOf_127 : decode mX10_twoOf.1 127 = .ok (.ireturn, 1) := by decide +kernel
theorem dX10_twoOf_128 : decode mX10_twoOf.1 128 = .ok (.iload_n 1, 1) := by decide +kernel
theorem dX10_twoOf_129 : decode mX10_twoOf.1 129 = .ok (.iload_n 2, 1) := by decide +kernel
theorem dX10_twoOf_130 : decode mX10_twoOf.1 130 = .ok (.imul, 1) := by decide +kernel
theorem dX10_twoOf_131 : decode mX10_twoOf.1 131 = .ok (.ireturn, 1) := by decide +kernel
theorem dX10_twoOf_132 : decode mX10_twoOf.1 132 = .ok (.iload_n 2, 1) := by decide +kernel
theorem dX10_twoOf_133 : decode mX10_twoOf.1 133 = .ok (.ifCond .ne 7, 3) := by decide +kernel
theorem dX10_twoOf_136 : decode mX10_twoOf.1 136 = .ok (.iconst 0, 1) := by decide +kernel
theorem dX10_twoOf_137 : decode mX10_twoOf.1 137 = .ok (.goto 16, 3) := by decide +kernel
theorem dX10_twoOf_140 : decode mX10_twoOf.1 140 = .ok (.iload_n 2, 1) := by decide +kernel
theorem dX10_twoOf_141 : decode mX10_twoOf.1 141 = .ok (.iconst (-1), 1) := by decide +kernel
theorem dX10_twoOf_142 : decode mX10_twoOf.1 142 = .ok (.if_icmp .ne 8, 3) := by decide +kernel
theorem dX10_twoOf_145 : decode mX10_twoOf.1 145 = .ok (.iload_n 1, 1) := by decide +kernel
theorem dX10_twoOf_146 : decode mX10_twoOf.1 146 = .ok (.ineg, 1) := by decide +kernel
theorem dX10_twoOf_147 : decode mX10_twoOf.1 147 = .ok (.goto 6, 3) := by decide +kernel
theorem dX10_twoOf_150 : decode mX10_twoOf.1 150 = .ok (.iload_n 1, 1) := by decide +kernel
theorem dX10_twoOf_151 : decode mX10_twoOf.1 151 = .ok (.iload_n 2, 1) := by decide +kernel
theorem dX10_twoOf_152 : decode mX10_twoOf.1 152 = .ok (.idiv, 1) := by decide +kernel
theorem dX10_twoOf_153 : decode mX10_twoOf.1 153 = .ok (.ireturn, 1) := by decide +kernel
theorem dX10_twoOf_154 : decode mX10_twoOf.1 154 = .ok (.iload_n 2, 1) := by decide +kernel
theorem dX10_twoOf_155 : decode mX10_twoOf.1 155 = .ok (.ifCond .eq 8, 3) := by decide +kernel
theorem dX10_twoOf_158 : decode mX10_twoOf.1 158 = .ok (.iload_n 2, 1) := by decide +kernel
theorem dX10_twoOf_159 : decode mX10_twoOf.1 159 = .ok (.iconst (-1), 1) := by decide +kernel
theorem dX10_twoOf_160 : decode mX10_twoOf.1 160 = .ok (.if_icmp .ne 7, 3) := by decide +kernel
theorem dX10_twoOf_163 : decode mX10_twoOf.1 163 = .ok (.iconst 0, 1) := by decide +kernel
theorem dX10_twoOf_164 : decode mX10_twoOf.1 164 = .ok (.goto 6, 3) := by decide +kernel
theorem dX10_twoOf_167 : decode mX10_twoOf.1 167 = .ok (.iload_n 1, 1) := by decide +kernel
theorem dX10_twoOf_168 : decode mX10_twoOf.1 168 = .ok (.iload_n 2, 1) := by decide +kernel
theorem dX10_twoOf_169 : decode mX10_twoOf.1 169 = .ok (.irem, 1) := by decide +kernel
theorem dX10_twoOf_170 : decode mX10_twoOf.1 170 = .ok (.ireturn, 1) := by decide +kernel
theorem dX10_twoOf_171 : decode mX10_twoOf.1 171 = .ok (.iload_n 1, 1) := by decide +kernel
theorem dX10_twoOf_172 : decode mX10_twoOf.1 172 = .ok (.iload_n 2, 1) := by decide +kernel
theorem dX10_twoOf_173 : decode mX10_twoOf.1 173 = .ok (.if_icmp .ge 7, 3) := by decide +kernel
theorem dX10_twoOf_176 : decode mX10_twoOf.1 176 = .ok (.iconst 1, 1) := by decide +kernel
theorem dX10_twoOf_177 : decode mX10_twoOf.1 177 = .ok (.goto 4, 3) := by decide +kernel
theorem dX10_twoOf_180 : decode mX10_twoOf.1 180 = .ok (.iconst 0, 1) := by decide +kernel
theorem dX10_twoOf_181 : decode mX10_twoOf.1 181 = .ok (.ireturn, 1) := by decide +kernel
theorem dX10_twoOf_182 : decode mX10_twoOf.1 182 = .ok (.iload_n 1, 1) := by decide +kernel
theorem dX10_twoOf_183 : decode mX10_twoOf.1 183 = .ok (.iload_n 2, 1) := by decide +kernel
theorem dX10_twoOf_184 : decode mX10_twoOf.1 184 = .ok (.if_icmp .ne 7, 3) := by decide +kernel
theorem dX10_twoOf_187 : decode mX10_twoOf.1 187 = .ok (.iconst 1, 1) := by decide +kernel
theorem dX10_twoOf_188 : decode mX10_twoOf.1 188 = .ok (.goto 4, 3) := by decide +kernel
theorem dX10_twoOf_191 : decode mX10_twoOf.1 191 = .ok (.iconst 0, 1) := by decide +kernel
theorem dX10_twoOf_192 : decode mX10_twoOf.1 192 = .ok (.ireturn, 1) := by decide +kernel
theorem dX10_twoOf_193 : decode mX10_twoOf.1 193 = .ok (.iload_n 1, 1) := by decide +kernel
theorem dX10_twoOf_194 : decode mX10_twoOf.1 194 = .ok (.iload_n 2, 1) := by decide +kernel
theorem dX10_twoOf_195 : decode mX10_twoOf.1 195 = .ok (.if_icmp .le 7, 3) := by decide +kernel
theorem dX10_twoOf_198 : decode mX10_twoOf.1 198 = .ok (.iconst 1, 1) := by decide +kernel
theorem dX10_twoOf_199 : decode mX10_twoOf.1 199 = .ok (.goto 4, 3) := by decide +kernel
theorem dX10_twoOf_202 : decode mX10_twoOf.1 202 = .ok (.iconst 0, 1) := by decide +kernel
theorem dX10_twoOf_203 : decode mX10_twoOf.1 203 = .ok (.ireturn, 1) := by decide +kernel
theorem dX10_twoOf_204 : decode mX10_twoOf.1 204 = .ok (.iload_n 1, 1) := by decide +kernel
theorem dX10_twoOf_205 : decode mX10_twoOf.1 205 = .ok (.ifCond .eq 11, 3) := by decide +kernel
theorem dX10_twoOf_208 : decode mX10_twoOf.1 208 = .ok (.iload_n 2, 1) := by decide +kernel
theorem dX10_twoOf_209 : decode mX10_twoOf.1 209 = .ok (.ifCond .eq 7, 3) := by decide +kernel
theorem dX10_twoOf_212 : decode mX10_twoOf.1 212 = .ok (.iconst 1, 1) := by decide +kernel
theorem dX10_twoOf_213 : decode mX10_twoOf.1 213 = .ok (.goto 4, 3) := by decide +kernel
theorem dX10_twoOf_216 : decode mX10_twoOf.1 216 = .ok (.iconst 0, 1) := by decide +kernel
theorem dX10_twoOf_217 : decode mX10_twoOf.1 217 = .ok (.ireturn, 1) := by decide +kernel
theorem dX10_twoOf_218 : decode mX10_twoOf.1 218 = .ok (.iload_n 1, 1) := by decide +kernel
theorem dX10_twoOf_219 : decode mX10_twoOf.1 219 = .ok (.ifCond .ne 7, 3) := by decide +kernel
theorem dX10_twoOf_222 : decode mX10_twoOf.1 222 = .ok (.iload_n 2, 1) := by decide +kernel
theorem dX10_twoOf_223 : decode mX10_twoOf.1 223 = .ok (.ifCond .eq 7, 3) := by decide +kernel
theorem dX10_twoOf_226 : decode mX10_twoOf.1 226 = .ok (.iconst 1, 1) := by decide +kernel
theorem dX10_twoOf_227 : decode mX10_twoOf.1 227 = .ok (.goto 4, 3) := by decide +kernel
theorem dX10_twoOf_230 : decode mX10_twoOf.1 230 = .ok (.iconst 0, 1) := by decide +kernel
theorem dX10_twoOf_231 : decode mX10_twoOf.1 231 = .ok (.ireturn, 1) := by decide +kernel
theorem X10_twoOf_0 (h : mm_M) (a0 : Int) (a1 : Int) (a2 : Int) : mm_ev mX10_twoOf 1 0 [some (vI a0), some (vI a1), some (vI a2)] [] h = if a0 = 37 then if a2 = 0 then some ([vI 0], h) else if ¬ a2 = (-1) then if a2 = 0 then none else some ([vI (a1.tmod a2)], h) else some ([vI 0], h) else if a0 = 38 then if a1 = 0 then some ([vI 0], h) else if a2 = 0 then some ([vI 0], h) else some ([vI 1], h) else if a0 = 39 then if ¬ a1 = 0 then some ([vI 1], h) else if a2 = 0 then some ([vI 0], h) else some ([vI 1], h) else if a0 = 40 then if ¬ a1 = 0 then some ([vI 1], h) else if a2 = 0 then some ([vI 0], h) else some ([vI 1], h) else if a0 = 41 then if ¬ a1 = 0 then some ([vI 1], h) else if a2 = 0 then some ([vI 0], h) else some ([vI 1], h) else if a0 = 42 then some ([vI (w32 (a1 * a2))], h) else if a0 = 43 then some ([vI (w32 (a1 + a2))], h) else if a0 = 44 then if ¬ a1 = 0 then some ([vI 1], h) else if a2 = 0 then some ([vI 0], h) else some ([vI 1], h) else if a0 = 45 then some ([vI (w32 (a1 - a2))], h) else if a0 = 46 then if ¬ a1 = 0 then some ([vI 1], h) else if a2 = 0 then some ([vI 0], h) else some ([vI 1], h) else if a0 = 47 then if ¬ a2 = 0 then if ¬ a2 = (-1) then if a2 = 0 then none else some ([vI (w32 (a1.tdiv a2))], h) else some ([vI (w32 (-a1))], h) else some ([vI 0], h) else if a0 = 48 then if ¬ a1 = 0 then some ([vI 1], h) else if a2 = 0 then some ([vI 0], h) else some ([vI 1], h) else if a0 = 49 then if ¬ a1 = 0 then some ([vI 1], h) else if a2 = 0 then some ([vI 0], h) else some ([vI 1], h) else if a0 = 50 then if ¬ a1 = 0 then some ([vI 1], h) else if a2 = 0 then some ([vI 0], h) else some ([vI 1], h) else if a0 = 51 then if ¬ a1 = 0 then some ([vI 1], h) else if a2 = 0 then some ([vI 0], h) else some ([vI 1], h) else if a0 = 52 then if ¬ a1 = 0 then some ([vI 1], h) else if a2 = 0 then some ([vI 0], h) else some ([vI 1], h) else if a0 = 53 then if ¬ a1 = 0 then some ([vI 1], h) else if a2 = 0 then some ([vI 0], h) else some ([vI 1], h) else if a0 = 54 then if ¬ a1 = 0 then some ([vI 1], h) else if a2 = 0 then some ([vI 0], h) else some ([vI 1], h) else if a0 = 55 then if ¬ a1 = 0 then some ([vI 1], h) else if a2 = 0 then some ([vI 0], h) else some ([vI 1], h) else if a0 = 56 then if ¬ a1 = 0 then some ([vI 1], h) else if a2 = 0 then some ([vI 0], h) else some ([vI 1], h) else if a0 = 57 then if ¬ a1 = 0 then some ([vI 1], h) else if a2 = 0 then some ([vI 0], h) else some ([vI 1], h) else if a0 = 58 then if ¬ a1 = 0 then some ([vI 1], h) else if a2 = 0 then some ([vI 0], h) else some ([vI 1], h) else if a0 = 59 then if ¬ a1 = 0 then some ([vI 1], h) else if a2 = 0 then some ([vI 0], h) else some ([vI 1], h) else if a0 = 60 then if a2 ≤ a1 then some ([vI 0], h) else some ([vI 1], h) else if a0 = 61 then if ¬ a1 = a2 then some ([vI 0], h) else some ([vI 1], h) else if a0 = 62 then if a1 ≤ a2 then some ([vI 0], h) else some ([vI 1], h) else if ¬ a1 = 0 then some ([vI 1], h) else if a2 = 0 then some ([vI 0], h) else some ([vI 1], h) := (ev_iload_n 1 dX10_twoOf_0 rfl rfl).trans (ev_tabC (k := 37) dX10_twoOf_1 (fun z37 => (ev_tabK 154 (k := 37) dX10_twoOf_1 z37 (by decide) rfl rfl).trans ((ev_iload_n 155 dX10_twoOf_154 rfl rfl).trans ((ev_if_eq 163 158 dX10_twoOf_155 rfl rfl).trans (mm_ite ((ev_iconst 164 (v := 0) dX10_twoOf_163 rfl rfl).trans ((ev_goto 170 dX10_twoOf_164 rfl).trans (ev_iret dX10_twoOf_170 rfl))) ((ev_iload_n 159 dX10_twoOf_158 rfl rfl).trans ((ev_iconst 160 (v := (-1)) dX10_twoOf_159 rfl rfl).trans ((ev_ic_ne 167 163 dX10_twoOf_160 rfl rfl).trans (mm_ite ((ev_iload_n 168 dX10_twoOf_167 rfl rfl).trans ((ev_iload_n 169 dX10_twoOf_168 rfl rfl).trans ((ev_irem 170 dX10_twoOf_169 rfl).trans (mm_ite (rfl) (ev_iret dX10_twoOf_170 rfl))))) ((ev_iconst 164 (v := 0) dX10_twoOf_163 rfl rfl).trans ((ev_goto 170 dX10_twoOf_164 rfl).trans (ev_iret dX10_twoOf_170 rfl))))))))))) (fun n37 => ev_tabC (k := 38) dX10_twoOf_1 (fun z38 => (ev_tabK 204 (k := 38) dX10_twoOf_1 z38 (by decide) rfl rfl).trans ((ev_iload_n 205 dX10_twoOf_204 rfl rfl).trans ((ev_if_eq 216 208 dX10_twoOf_205 rfl rfl).trans (mm_ite ((ev_iconst 217 (v := 0) dX10_twoOf_216 rfl rfl).trans (ev_iret dX10_twoOf_217 rfl)) ((ev_iload_n 209 dX10_twoOf_208 rfl rfl).trans ((ev_if_eq 216 212 dX10_twoOf_209 rfl rfl).trans (mm_ite ((ev_iconst 217 (v := 0) dX10_twoOf_216 rfl rfl).trans (ev_iret dX10_twoOf_217 rfl)) ((ev_iconst 213 (v := 1) dX10_twoOf_212 rfl rfl).trans ((ev_goto 217 dX10_twoOf_213 rfl).trans (ev_iret dX10_twoOf_217 rfl)))))))))) (fun n38 => ev_tabC (k := 39) dX10_twoOf_1 (fun z39 => (ev_tabK 218 (k := 39) dX10_twoOf_1 z39 (by decide) rfl rfl).trans ((ev_iload_n 219 dX10_twoOf_218 rfl rfl).trans ((ev_if_ne 226 222 dX10_twoOf_219 rfl rfl).trans (mm_ite ((ev_iconst 227 (v := 1) dX10_twoOf_226 rfl rfl).trans ((ev_goto 231 dX10_twoOf_227 rfl).trans (ev_iret dX10_twoOf_231 rfl))) ((ev_iload_n 223 dX10_twoOf_222 rfl rfl).trans ((ev_if_eq 230 226 dX10_twoOf_223 rfl rfl).trans (mm_ite ((ev_iconst 231 (v := 0) dX10_twoOf_230 rfl rfl).trans (ev_iret dX10_twoOf_231 rfl)) ((ev_iconst 227 (v := 1) dX10_twoOf_226 rfl rfl).trans ((ev_goto 231 dX10_twoOf_227 rfl).trans (ev_iret dX10_twoOf_231 rfl)))))))))) (fun n39 => ev_tabC (k := 40) dX10_twoOf_1 (fun z40 => (ev_tabK 218 (k := 40) dX10_twoOf_1 z40 (by decide) rfl rfl).trans ((ev_iload_n 219 dX10_twoOf_218 rfl rfl).trans ((ev_if_ne 226 222 dX10_twoOf_219 rfl rfl).trans (mm_ite ((ev_iconst 227 (v := 1) dX10_twoOf_226 rfl rfl).trans ((ev_goto 231 dX10_twoOf_227 rfl).trans (ev_iret dX10_twoOf_231 rfl))) ((ev_iload_n 223 dX10_twoOf_222 rfl rfl).trans ((ev_if_eq 230 226 dX10_twoOf_223 rfl rfl).trans (mm_ite ((ev_iconst 231 (v := 0) dX10_twoOf_230 rfl rfl).trans (ev_iret dX10_twoOf_231 rfl)) ((ev_iconst 227 (v := 1) dX10_twoOf_226 rfl rfl).trans ((ev_goto 231 dX10_twoOf_227 rfl).trans (ev_iret dX10_twoOf_231 rfl)))))))))) (fun n40 => ev_tabC (k := 41) dX10_twoOf_1 (fun z41 => (ev_tabK 218 (k := 41) dX10_twoOf_1 z41 (by decide) rfl rfl).trans ((ev_iload_n 219 dX10_twoOf_218 rfl rfl).trans ((ev_if_ne 226 222 dX10_twoOf_219 rfl rfl).trans (mm_ite ((ev_iconst 227 (v := 1) dX10_twoOf_226 rfl rfl).trans ((ev_goto 231 dX10_twoOf_227 rfl).trans (ev_iret dX10_twoOf_231 rfl))) ((ev_iload_n 223 dX10_twoOf_222 rfl rfl).trans ((ev_if_eq 230 226 dX10_twoOf_223 rfl rfl).trans (mm_ite ((ev_iconst 231 (v := 0) dX10_twoOf_230 rfl rfl).trans (ev_iret dX10_twoOf_231 rfl)) ((ev_iconst 227 (v := 1) dX10_twoOf_226 rfl rfl).trans ((ev_goto 231 dX10_twoOf_227 rfl).trans (ev_iret dX10_twoOf_231 rfl)))))))))) (fun n41 => ev_tabC (k := 42) dX10_twoOf_1 (fun z42 => (ev_tabK 128 (k := 42) dX10_twoOf_1 z42 (by decide) rfl rfl).trans ((ev_iload_n 129 dX10_twoOf_128 rfl rfl).trans ((ev_iload_n 130 dX10_twoOf_129 rfl rfl).trans ((ev_imul 131 dX10_twoOf_130 rfl).trans (ev_iret dX10_twoOf_131 rfl))))) (fun n42 => ev_tabC (k := 43) dX10_twoOf_1 (fun z43 => (ev_tabK 120 (k := 43) dX10_twoOf_1 z43 (by decide) rfl rfl).trans ((ev_iload_n 121 dX10_twoOf_120 rfl rfl).trans ((ev_iload_n 122 dX10_twoOf_121 rfl rfl).trans ((ev_iadd 123 dX10_twoOf_122 rfl).trans (ev_iret dX10_twoOf_123 rfl))))) (fun n43 => ev_tabC (k := 44) dX10_twoOf_1 (fun z44 => (ev_tabK 218 (k := 44) dX10_twoOf_1 z44 (by decide) rfl rfl).trans ((ev_iload_n 219 dX10_twoOf_218 rfl rfl).trans ((ev_if_ne 226 222 dX10_twoOf_219 rfl rfl).trans (mm_ite ((ev_iconst 227 (v := 1) dX10_twoOf_226 rfl rfl).trans ((ev_goto 231 dX10_twoOf_227 rfl).trans (ev_iret dX10_twoOf_231 rfl))) ((ev_iload_n 223 dX10_twoOf_222 rfl rfl).trans ((ev_if_eq 230 226 dX10_twoOf_223 rfl rfl).trans (mm_ite ((ev_iconst 231 (v := 0) dX10_twoOf_230 rfl rfl).trans (ev_iret dX10_twoOf_231 rfl)) ((ev_iconst 227 (v := 1) dX10_twoOf_226 rfl rfl).trans ((ev_goto 231 dX10_twoOf_227 rfl).trans (ev_iret dX10_twoOf_231 rfl)))))))))) (fun n44 => ev_tabC (k := 45) dX10_twoOf_1 (fun z45 => (ev_tabK 124 (k := 45) dX10_twoOf_1 z45 (by decide) rfl rfl).trans ((ev_iload_n 125 dX10_twoOf_124 rfl rfl).trans ((ev_iload_n 126 dX10_twoOf_125 rfl rfl).trans ((ev_isub 127 dX10_twoOf_126 rfl).trans (ev_iret dX10_twoOf_127 rfl))))) (fun n45 => ev_tabC (k := 46) dX10_twoOf_1 (fun z46 => (ev_tabK 218 (k := 46) dX10_twoOf_1 z46 (by decide) rfl rfl).trans ((ev_iload_n 219 dX10_twoOf_218 rfl rfl).trans ((ev_if_ne 226 222 dX10_twoOf_219 rfl rfl).trans (mm_ite ((ev_iconst 227 (v := 1) dX10_twoOf_226 rfl rfl).trans ((ev_goto 231 dX10_twoOf_227 rfl).trans (ev_iret dX10_twoOf_231 rfl))) ((ev_iload_n 223 dX10_twoOf_222 rfl rfl).trans ((ev_if_eq 230 226 dX10_twoOf_223 rfl rfl).trans (mm_ite ((ev_iconst 231 (v := 0) dX10_twoOf_230 rfl rfl).trans (ev_iret dX10_twoOf_231 rfl)) ((ev_iconst 227 (v := 1) dX10_twoOf_226 rfl rfl).trans ((ev_goto 231 dX10_twoOf_227 rfl).trans (ev_iret dX10_twoOf_231 rfl)))))))))) (fun n46 => ev_tabC (k := 47) dX10_twoOf_1 (fun z47 => (ev_tabK 132 (k := 47) dX10_twoOf_1 z47 (by decide) rfl rfl).trans ((ev_iload_n 133 dX10_twoOf_132 rfl rfl).trans ((ev_if_ne 140 136 dX10_twoOf_133 rfl rfl).trans (mm_ite ((ev_iload_n 141 dX10_twoOf_140 rfl rfl).trans ((ev_iconst 142 (v := (-1)) dX10_twoOf_141 rfl rfl).trans ((ev_ic_ne 150 145 dX10_twoOf_142 rfl rfl).trans (mm_ite ((ev_iload_n 151 dX10_twoOf_150 rfl rfl).trans ((ev_iload_n 152 dX10_twoOf_151 rfl rfl).trans ((ev_idiv 153 dX10_twoOf_152 rfl).trans (mm_ite (rfl) (ev_iret dX10_twoOf_153 rfl))))) ((ev_iload_n 146 dX10_twoOf_145 rfl rfl).trans ((ev_ineg 147 dX10_twoOf_146 rfl).trans ((ev_goto 153 dX10_twoOf_147 rfl).trans (ev_iret dX10_twoOf_153 rfl)))))))) ((ev_iconst 137 (v := 0) dX10_twoOf_136 rfl rfl).trans ((ev_goto 153 dX10_twoOf_137 rfl).trans (ev_iret dX10_twoOf_153 rfl))))))) (fun n47 => ev_tabC (k := 48) dX10_twoOf_1 (fun z48 => (ev_tabK 218 (k := 48) dX10_twoOf_1 z48 (by decide) rfl rfl).trans ((ev_iload_n 219 dX10_twoOf_218 rfl rfl).trans ((ev_if_ne 226 222 dX10_twoOf_219 rfl rfl).trans (mm_ite ((ev_iconst 227 (v := 1) dX10_twoOf_226 rfl rfl).trans ((ev_goto 231 dX10_twoOf_227 rfl).trans (ev_iret dX10_twoOf_231 rfl))) ((ev_iload_n 223 dX10_twoOf_222 rfl rfl).trans ((ev_if_eq 230 226 dX10_twoOf_223 rfl rfl).trans (mm_ite ((ev_iconst 231 (v := 0) dX10_twoOf_230 rfl rfl).trans (ev_iret dX10_twoOf_231 rfl)) ((ev_iconst 227 (v := 1) dX10_twoOf_226 rfl rfl).trans ((ev_goto 231 dX10_twoOf_227 rfl).trans (ev_iret dX10_twoOf_231 rfl)))))))))) (fun n48 => ev_tabC (k := 49) dX10_twoOf_1 (fun z49 => (ev_tabK 218 (k := 49) dX10_twoOf_1 z49 (by decide) rfl rfl).trans ((ev_iload_n 219 dX10_twoOf_218 rfl rfl).trans ((ev_if_ne 226 222 dX10_twoOf_219 rfl rfl).trans (mm_ite ((ev_iconst 227 (v := 1) dX10_twoOf_226 rfl rfl).trans ((ev_goto 231 dX10_twoOf_227 rfl).trans (ev_iret dX10_twoOf_231 rfl))) ((ev_iload_n 223 dX10_twoOf_222 rfl rfl).trans ((ev_if_eq 230 226 dX10_twoOf_223 rfl rfl).trans (mm_ite ((ev_iconst 231 (v := 0) dX10_twoOf_230 rfl rfl).trans (ev_iret dX10_twoOf_231 rfl)) ((ev_iconst 227 (v := 1) dX10_twoOf_226 rfl rfl).trans ((ev_goto 231 dX10_twoOf_227 rfl).trans (ev_iret dX10_twoOf_231 rfl)))))))))) (fun n49 => ev_tabC (k := 50) dX10_twoOf_1 (fun z50 => (ev_tabK 218 (k := 50) dX10_twoOf_1 z50 (by decide) rfl rfl).trans ((ev_iload_n 219 dX10_twoOf_218 rfl rfl).trans ((ev_if_ne 226 222 dX10_twoOf_219 rfl rfl).trans (mm_ite ((ev_iconst 227 (v := 1) dX10_twoOf_226 rfl rfl).trans ((ev_goto 231 dX10_twoOf_227 rfl).trans (ev_iret dX10_twoOf_231 rfl))) ((ev_iload_n 223 dX10_twoOf_222 rfl rfl).trans ((ev_if_eq 230 226 dX10_twoOf_223 rfl rfl).trans (mm_ite ((ev_iconst 231 (v := 0) dX10_twoOf_230 rfl rfl).trans (ev_iret dX10_twoOf_231 rfl)) ((ev_iconst 227 (v := 1) dX10_twoOf_226 rfl rfl).trans ((ev_goto 231 dX10_twoOf_227 rfl).trans (ev_iret dX10_twoOf_231 rfl)))))))))) (fun n50 => ev_tabC (k := 51) dX10_twoOf_1 (fun z51 => (ev_tabK 218 (k := 51) dX10_twoOf_1 z51 (by decide) rfl rfl).trans ((ev_iload_n 219 dX10_twoOf_218 rfl rfl).trans ((ev_if_ne 226 222 dX10_twoOf_219 rfl rfl).trans (mm_ite ((ev_iconst 227 (v := 1) dX10_twoOf_226 rfl rfl).trans ((ev_goto 231 dX10_twoOf_227 rfl).trans (ev_iret dX10_twoOf_231 rfl))) ((ev_iload_n 223 dX10_twoOf_222 rfl rfl).trans ((ev_if_eq 230 226 dX10_twoOf_223 rfl rfl).trans (mm_ite ((ev_iconst 231 (v := 0) dX10_twoOf_230 rfl rfl).trans (ev_iret dX10_twoOf_231 rfl)) ((ev_iconst 227 (v := 1) dX10_twoOf_226 rfl rfl).trans ((ev_goto 231 dX10_twoOf_227 rfl).trans (ev_iret dX10_twoOf_231 rfl)))))))))) (fun n51 => ev_tabC (k := 52) dX10_twoOf_1 (fun z52 => (ev_tabK 218 (k := 52) dX10_twoOf_1 z52 (by decide) rfl rfl).trans ((ev_iload_n 219 dX10_twoOf_218 rfl rfl).trans ((ev_if_ne 226 222 dX10_twoOf_219 rfl rfl).trans (mm_ite ((ev_iconst 227 (v := 1) dX10_twoOf_226 rfl rfl).trans ((ev_goto 231 dX10_twoOf_227 rfl).trans (ev_iret dX10_twoOf_231 rfl))) ((ev_iload_n 223 dX10_twoOf_222 rfl rfl).trans ((ev_if_eq 230 226 dX10_twoOf_223 rfl rfl).trans (mm_ite ((ev_iconst 231 (v := 0) dX10_twoOf_230 rfl rfl).trans (ev_iret dX10_twoOf_231 rfl)) ((ev_iconst 227 (v := 1) dX10_twoOf_226 rfl rfl).trans ((ev_goto 231 dX10_twoOf_227 rfl).trans (ev_iret dX10_twoOf_231 rfl)))))))))) (fun n52 => ev_tabC (k := 53) dX10_twoOf_1 (fun z53 => (ev_tabK 218 (k := 53) dX10_twoOf_1 z53 (by decide) rfl rfl).trans ((ev_iload_n 219 dX10_twoOf_218 rfl rfl).trans ((ev_if_ne 226 222 dX10_twoOf_219 rfl rfl).trans (mm_ite ((ev_iconst 227 (v := 1) dX10_twoOf_226 rfl rfl).trans ((ev_goto 231 dX10_twoOf_227 rfl).trans (ev_iret dX10_twoOf_231 rfl))) ((ev_iload_n 223 dX10_twoOf_222 rfl rfl).trans ((ev_if_eq 230 226 dX10_twoOf_223 rfl rfl).trans (mm_ite ((ev_iconst 231 (v := 0) dX10_twoOf_230 rfl rfl).trans (ev_iret dX10_twoOf_231 rfl)) ((ev_iconst 227 (v := 1) dX10_twoOf_226 rfl rfl).trans ((ev_goto 231 dX10_twoOf_227 rfl).trans (ev_iret dX10_twoOf_231 rfl)))))))))) (fun n53 => ev_tabC (k := 54) dX10_twoOf_1 (fun z54 => (ev_tabK 218 (k := 54) dX10_twoOf_1 z54 (by decide) rfl rfl).trans ((ev_iload_n 219 dX10_twoOf_218 rfl rfl).trans ((ev_if_ne 226 222 dX10_twoOf_219 rfl rfl).trans (mm_ite ((ev_iconst 227 (v := 1) dX10_twoOf_226 rfl rfl).trans ((ev_goto 231 dX10_twoOf_227 rfl).trans (ev_iret dX10_twoOf_231 rfl))) ((ev_iload_n 223 dX10_twoOf_222 rfl rfl).trans ((ev_if_eq 230 226 dX10_twoOf_223 rfl rfl).trans (mm_ite ((ev_iconst 231 (v := 0) dX10_twoOf_230 rfl rfl).trans (ev_iret dX10_twoOf_231 rfl)) ((ev_iconst 227 (v := 1) dX10_twoOf_226 rfl rfl).trans ((ev_goto 231 dX10_twoOf_227 rfl).trans (ev_iret dX10_twoOf_231 rfl)))))))))) (fun n54 => ev_tabC (k := 55) dX10_twoOf_1 (fun z55 => (ev_tabK 218 (k := 55) dX10_twoOf_1 z55 (by decide) rfl rfl).trans ((ev_iload_n 219 dX10_twoOf_218 rfl rfl).trans ((ev_if_ne 226 222 dX10_twoOf_219 rfl rfl).trans (mm_ite ((ev_iconst 227 (v := 1) dX10_twoOf_226 rfl rfl).trans ((ev_goto 231 dX10_twoOf_227 rfl).trans (ev_iret dX10_twoOf_231 rfl))) ((ev_iload_n 223 dX10_twoOf_222 rfl rfl).trans ((ev_if_eq 230 226 dX10_twoOf_223 rfl rfl).trans (mm_ite ((ev_iconst 231 (v := 0) dX10_twoOf_230 rfl rfl).trans (ev_iret dX10_twoOf_231 rfl)) ((ev_iconst 227 (v := 1) dX10_twoOf_226 rfl rfl).trans ((ev_goto 231 dX10_twoOf_227 rfl).trans (ev_iret dX10_twoOf_231 rfl)))))))))) (fun n55 => ev_tabC (k := 56) dX10_twoOf_1 (fun z56 => (ev_tabK 218 (k := 56) dX10_twoOf_1 z56 (by decide) rfl rfl).trans ((ev_iload_n 219 dX10_twoOf_218 rfl rfl).trans ((ev_if_ne 226 222 dX10_twoOf_219 rfl rfl).trans (mm_ite ((ev_iconst 227 (v := 1) dX10_twoOf_226 rfl rfl).trans ((ev_goto 231 dX10_twoOf_227 rfl).trans (ev_iret dX10_twoOf_231 rfl))) ((ev_iload_n 223 dX10_twoOf_222 rfl rfl).trans ((ev_if_eq 230 226 dX10_twoOf_223 rfl rfl).trans (mm_ite ((ev_iconst 231 (v := 0) dX10_twoOf_230 rfl rfl).trans (ev_iret dX10_twoOf_231 rfl)) ((ev_iconst 227 (v := 1) dX10_twoOf_226 rfl rfl).trans ((ev_goto 231 dX10_twoOf_227 rfl).trans (ev_iret dX10_twoOf_231 rfl)))))))))) (fun n56 => ev_tabC (k := 57) dX10_twoOf_1 (fun z57 => (ev_tabK 218 (k := 57) dX10_twoOf_1 z57 (by decide) rfl rfl).trans ((ev_iload_n 219 dX10_twoOf_218 rfl rfl).trans ((ev_if_ne 226 222 dX10_twoOf_219 rfl rfl).trans (mm_ite ((ev_iconst 227 (v := 1) dX10_twoOf_226 rfl rfl).trans ((ev_goto 231 dX10_twoOf_227 rfl).trans (ev_iret dX10_twoOf_231 rfl))) ((ev_iload_n 223 dX10_twoOf_222 rfl rfl).trans ((ev_if_eq 230 226 dX10_twoOf_223 rfl rfl).trans (mm_ite ((ev_iconst 231 (v := 0) dX10_twoOf_230 rfl rfl).trans (ev_iret dX10_twoOf_231 rfl)) ((ev_iconst 227 (v := 1) dX10_twoOf_226 rfl rfl).trans ((ev_goto 231 dX10_twoOf_227 rfl).trans (ev_iret dX10_twoOf_231 rfl)))))))))) (fun n57 => ev_tabC (k := 58) dX10_twoOf_1 (fun z58 => (ev_tabK 218 (k := 58) dX10_twoOf_1 z58 (by decide) rfl rfl).trans ((ev_iload_n 219 dX10_twoOf_218 rfl rfl).trans ((ev_if_ne 226 222 dX10_twoOf_219 rfl rfl).trans (mm_ite ((ev_iconst 227 (v := 1) dX10_twoOf_226 rfl rfl).trans ((ev_goto 231 dX10_twoOf_227 rfl).trans (ev_iret dX10_twoOf_231 rfl))) ((ev_iload_n 223 dX10_twoOf_222 rfl rfl).trans ((ev_if_eq 230 226 dX10_twoOf_223 rfl rfl).trans (mm_ite ((ev_iconst 231 (v := 0) dX10_twoOf_230 rfl rfl).trans (ev_iret dX10_twoOf_231 rfl)) ((ev_iconst 227 (v := 1) dX10_twoOf_226 rfl rfl).trans ((ev_goto 231 dX10_twoOf_227 rfl).trans (ev_iret dX10_twoOf_231 rfl)))))))))) (fun n58 => ev_tabC (k := 59) dX10_twoOf_1 (fun z59 => (ev_tabK 218 (k := 59) dX10_twoOf_1 z59 (by decide) rfl rfl).trans ((ev_iload_n 219 dX10_twoOf_218 rfl rfl).trans ((ev_if_ne 226 222 dX10_twoOf_219 rfl rfl).trans (mm_ite ((ev_iconst 227 (v := 1) dX10_twoOf_226 rfl rfl).trans ((ev_goto 231 dX10_twoOf_227 rfl).trans (ev_iret dX10_twoOf_231 rfl))) ((ev_iload_n 223 dX10_twoOf_222 rfl rfl).trans ((ev_if_eq 230 226 dX10_twoOf_223 rfl rfl).trans (mm_ite ((ev_iconst 231 (v := 0) dX10_twoOf_230 rfl rfl).trans (ev_iret dX10_twoOf_231 rfl)) ((ev_iconst 227 (v := 1) dX10_twoOf_226 rfl rfl).trans ((ev_goto 231 dX10_twoOf_227 rfl).trans (ev_iret dX10_twoOf_231 rfl)))))))))) (fun n59 => ev_tabC (k := 60) dX10_twoOf_1 (fun z60 => (ev_tabK 171 (k := 60) dX10_twoOf_1 z60 (by decide) rfl rfl).trans ((ev_iload_n 172 dX10_twoOf_171 rfl rfl).trans ((ev_iload_n 173 dX10_twoOf_172 rfl rfl).trans ((ev_ic_ge 180 176 dX10_twoOf_173 rfl rfl).trans (mm_ite ((ev_iconst 181 (v := 0) dX10_twoOf_180 rfl rfl).trans (ev_iret dX10_twoOf_181 rfl)) ((ev_iconst 177 (v := 1) dX10_twoOf_176 rfl rfl).trans ((ev_goto 181 dX10_twoOf_177 rfl).trans (ev_iret dX10_twoOf_181 rfl)))))))) (fun n60 => ev_tabC (k := 61) dX10_twoOf_1 (fun z61 => (ev_tabK 182 (k := 61) dX10_twoOf_1 z61 (by decide) rfl rfl).trans ((ev_iload_n 183 dX10_twoOf_182 rfl rfl).trans ((ev_iload_n 184 dX10_twoOf_183 rfl rfl).trans ((ev_ic_ne 191 187 dX10_twoOf_184 rfl rfl).trans (mm_ite ((ev_iconst 192 (v := 0) dX10_twoOf_191 rfl rfl).trans (ev_iret dX10_twoOf_192 rfl)) ((ev_iconst 188 (v := 1) dX10_twoOf_187 rfl rfl).trans ((ev_goto 192 dX10_twoOf_188 rfl).trans (ev_iret dX10_twoOf_192 rfl)))))))) (fun n61 => ev_tabC (k := 62) dX10_twoOf_1 (fun z62 => (ev_tabK 193 (k := 62) dX10_twoOf_1 z62 (by decide) rfl rfl).trans ((ev_iload_n 194 dX10_twoOf_193 rfl rfl).trans ((ev_iload_n 195 dX10_twoOf_194 rfl rfl).trans ((ev_ic_le 202 198 dX10_twoOf_195 rfl rfl).trans (mm_ite ((ev_iconst 203 (v := 0) dX10_twoOf_202 rfl rfl).trans (ev_iret dX10_twoOf_203 rfl)) ((ev_iconst 199 (v := 1) dX10_twoOf_198 rfl rfl).trans ((ev_goto 203 dX10_twoOf_199 rfl).trans (ev_iret dX10_twoOf_203 rfl)))))))) (fun n62 => (ev_tabD 218 dX10_twoOf_1 (by omega) rfl).trans ((ev_iload_n 219 dX10_twoOf_218 rfl rfl).trans ((ev_if_ne 226 222 dX10_twoOf_219 rfl rfl).trans (mm_ite ((ev_iconst 227 (v := 1) dX10_twoOf_226 rfl rfl).trans ((ev_goto 231 dX10_twoOf_227 rfl).trans (ev_iret dX10_twoOf_231 rfl))) ((ev_iload_n 223 dX10_twoOf_222 rfl rfl).trans ((ev_if_eq 230 226 dX10_twoOf_223 rfl rfl).trans (mm_ite ((ev_iconst 231 (v := 0) dX10_twoOf_230 rfl rfl).trans (ev_iret dX10_twoOf_231 rfl)) ((ev_iconst 227 (v := 1) dX10_twoOf_226 rfl rfl).trans ((ev_goto 231 dX10_twoOf_227 rfl).trans (ev_iret dX10_twoOf_231 rfl))))))))))))))))))))))))))))))))))))
theorem X10_twoOf_c (h : mm_M) (a0 : Int) (a1 : Int) (a2 : Int) : mm_call mX10_twoOf [vI a0, vI a1, vI a2] h = if a0 = 37 then if a2 = 0 then some ([vI 0], h) else if ¬ a2 = (-1) then if a2 = 0 then none else some ([vI (a1.tmod a2)], h) else some ([vI 0], h) else if a0 = 38 then if a1 = 0 then some ([vI 0], h) else if a2 = 0 then some ([vI 0], h) else some ([vI 1], h) else if a0 = 39 then if ¬ a1 = 0 then some ([vI 1], h) else if a2 = 0 then some ([vI 0], h) else some ([vI 1], h) else if a0 = 40 then if ¬ a1 = 0 then some ([vI 1], h) else if a2 = 0 then some ([vI 0], h) else some ([vI 1], h) else if a0 = 41 then if ¬ a1 = 0 then some ([vI 1], h) else if a2 = 0 then some ([vI 0], h) else some ([vI 1], h) else if a0 = 42 then some ([vI (w32 (a1 * a2))], h) else if a0 = 43 then some ([vI (w32 (a1 + a2))], h) else if a0 = 44 then if ¬ a1 = 0 then some ([vI 1], h) else if a2 = 0 then some ([vI 0], h) else some ([vI 1], h) else if a0 = 45 then some ([vI (w32 (a1 - a2))], h) else if a0 = 46 then if ¬ a1 = 0 then some ([vI 1], h) else if a2 = 0 then some ([vI 0], h) else some ([vI 1], h) else if a0 = 47 then if ¬ a2 = 0 then if ¬ a2 = (-1) then if a2 = 0 then none else some ([vI (w32 (a1.tdiv a2))], h) else some ([vI (w32 (-a1))], h) else some ([vI 0], h) else if a0 = 48 then if ¬ a1 = 0 then some ([vI 1], h) else if a2 = 0 then some ([vI 0], h) else some ([vI 1], h) else if a0 = 49 then if ¬ a1 = 0 then some ([vI 1], h) else if a2 = 0 then some ([vI 0], h) else some ([vI 1], h) else if a0 = 50 then if ¬ a1 = 0 then some ([vI 1], h) else if a2 = 0 then some ([vI 0], h) else some ([vI 1], h) else if a0 = 51 then if ¬ a1 = 0 then some ([vI 1], h) else if a2 = 0 then some ([vI 0], h) else some ([vI 1], h) else if a0 = 52 then if ¬ a1 = 0 then some ([vI 1], h) else if a2 = 0 then some ([vI 0], h) else some ([vI 1], h) else if a0 = 53 then if ¬ a1 = 0 then some ([vI 1], h) else if a2 = 0 then some ([vI 0], h) else some ([vI 1], h) else if a0 = 54 then if ¬ a1 = 0 then some ([vI 1], h) else if a2 = 0 then some ([vI 0], h) else some ([vI 1], h) else if a0 = 55 then if ¬ a1 = 0 then some ([vI 1], h) else if a2 = 0 then some ([vI 0], h) else some ([vI 1], h) else if a0 = 56 then if ¬ a1 = 0 then some ([vI 1], h) else if a2 = 0 then some ([vI 0], h) else some ([vI 1], h) else if a0 = 57 then if ¬ a1 = 0 then some ([vI 1], h) else if a2 = 0 then some ([vI 0], h) else some ([vI 1], h) else if a0 = 58 then if ¬ a1 = 0 then some ([vI 1], h) else if a2 = 0 then some ([vI 0], h) else some ([vI 1], h) else if a0 = 59 then if ¬ a1 = 0 then some ([vI 1], h) else if a2 = 0 then some ([vI 0], h) else some ([vI 1], h) else if a0 = 60 then if a2 ≤ a1 then some ([vI 0], h) else some ([vI 1], h) else if a0 = 61 then if ¬ a1 = a2 then some ([vI 0], h) else some ([vI 1], h) else if a0 = 62 then if a1 ≤ a2 then some ([vI 0], h) else some ([vI 1], h) else if ¬ a1 = 0 then some ([vI 1], h) else if a2 = 0 then some ([vI 0], h) else some ([vI 1], h) := X10_twoOf_0 h a0 a1 a2
theorem dX10_isHomeBy_0 : decode mX10_isHomeBy.1 0 = .ok (.aload_n 0, 1) := by decide +kernel
theorem dX10_isHomeBy_1 : decode mX10_isHomeBy.1 1 = .ok (.getfield 33, 3) := by decide +kernel
theorem dX10_isHomeBy_4 : decode mX10_isHomeBy.1 4 = .ok (.iload_n 1, 1) := by decide +kernel
theorem dX10_isHomeBy_5 : decode mX10_isHomeBy.1 5 = .ok (.iaload, 1) := by decide +kernel
theorem dX10_isHomeBy_6 : decode mX10_isHomeBy.1 6 = .ok (.istore_n 3, 1) := by decide +kernel
theorem dX10_isHomeBy_7 : decode mX10_isHomeBy.1 7 = .ok (.aload_n 0, 1) := by decide +kernel
theorem dX10_isHomeBy_8 : decode mX10_isHomeBy.1 8 = .ok (.iload_n 3, 1) := by decide +kernel
theorem dX10_isHomeBy_9 : decode mX10_isHomeBy.1 9 = .ok (.invokevirtual 170, 3) := by decide +kernel
theorem dX10_isHomeBy_12 : decode mX10_isHomeBy.1 12 = .ok (.ifCond .ne 5, 3) := by decide +kernel
theorem dX10_isHomeBy_15 : decode mX10_isHomeBy.1 15 = .ok (.iconst 0, 1) := by decide +kernel
theorem dX10_isHomeBy_16 : decode mX10_isHomeBy.1 16 = .ok (.ireturn, 1) := by decide +kernel
theorem dX10_isHomeBy_17 : decode mX10_isHomeBy.1 17 = .ok (.aload_n 0, 1) := by decide +kernel
theorem dX10_isHomeBy_18 : decode mX10_isHomeBy.1 18 = .ok (.iload_n 1, 1) := by decide +kernel
theorem dX10_isHomeBy_19 : decode mX10_isHomeBy.1 19 = .ok (.invokevirtual 333, 3) := by decide +kernel
theorem dX10_isHomeBy_22 : decode mX10_isHomeBy.1 22 = .ok (.aload_n 0, 1) := by decide +kernel
theorem dX10_isHomeBy_23 : decode mX10_isHomeBy.1 23 = .ok (.getfield 140, 3) := by decide +kernel
theorem dX10_isHomeBy_26 : decode mX10_isHomeBy.1 26 = .ok (.if_icmp .ne 17, 3) := by decide +kernel
theorem dX10_isHomeBy_29 : decode mX10_isHomeBy.1 29 = .ok (.aload_n 0, 1) := by decide +kernel
theorem dX10_isHomeBy_30 : decode mX10_isHomeBy.1 30 = .ok (.iload_n 3, 1) := by decide +kernel
theorem dX10_isHomeBy_31 : decode mX10_isHomeBy.1 31 = .ok (.aload_n 0, 1) := by decide +kernel
theorem dX10_isHomeBy_32 : decode mX10_isHomeBy.1 32 = .ok (.getfield 30, 3) := by decide +kernel
theorem dX10_isHomeBy_35 : decode mX10_isHomeBy.1 35 = .ok (.iload_n 1, 1) := by decide +kernel
theorem dX10_isHomeBy_36 : decode mX10_isHomeBy.1 36 = .ok (.iaload, 1) := by decide +kernel
theorem dX10_isHomeBy_37 : decode mX10_isHomeBy.1 37 = .ok (.invokevirtual 318, 3) := by decide +kernel
theorem dX10_isHomeBy_40 : decode mX10_isHomeBy.1 40 = .ok (.ifCond .ne 26, 3) := by decide +kernel
theorem dX10_isHomeBy_43 : decode mX10_isHomeBy.1 43 = .ok (.aload_n 0, 1) := by decide +kernel
theorem dX10_isHomeBy_44 : decode mX10_isHomeBy.1 44 = .ok (.iload_n 1, 1) := by decide +kernel
theorem dX10_isHomeBy_45 : decode mX10_isHomeBy.1 45 = .ok (.invokevirtual 333, 3) := by decide +kernel
theorem dX10_isHomeBy_48 : decode mX10_isHomeBy.1 48 = .ok (.iload_n 2, 1) := by decide +kernel
theorem dX10_isHomeBy_49 : decode mX10_isHomeBy.1 49 = .ok (.if_icmp .ne 21, 3) := by decide +kernel
theorem dX10_isHomeBy_52 : decode mX10_isHomeBy.1 52 = .ok (.aload_n 0, 1) := by decide +kernel
theorem dX10_isHomeBy_53 : decode mX10_isHomeBy.1 53 = .ok (.iload_n 3, 1) := by decide +kernel
theorem dX10_isHomeBy_54 : decode mX10_isHomeBy.1 54 = .ok (.aload_n 0, 1) := by decide +kernel
theorem dX10_isHomeBy_55 : decode mX10_isHomeBy.1 55 = .ok (.getfield 30, 3) := by decide +kernel
theorem dX10_isHomeBy_58 : decode mX10_isHomeBy.1 58 = .ok (.iload_n 1, 1) := by decide +kernel
theorem dX10_isHomeBy_59 : decode mX10_isHomeBy.1 59 = .ok (.iaload, 1) := by decide +kernel
theorem dX10_isHomeBy_60 : decode mX10_isHomeBy.1 60 = .ok (.invokevirtual 321, 3) := by decide +kernel
theorem dX10_isHomeBy_63 : decode mX10_isHomeBy.1 63 = .ok (.ifCond .eq 7, 3) := by decide +kernel
theorem dX10_isHomeBy_66 : decode mX10_isHomeBy.1 66 = .ok (.iconst 1, 1) := by decide +kernel
theorem dX10_isHomeBy_67 : decode mX10_isHomeBy.1 67 = .ok (.goto 4, 3) := by decide +kernel
theorem dX10_isHomeBy_70 : decode mX10_isHomeBy.1 70 = .ok (.iconst 0, 1) := by decide +kernel
theorem dX10_isHomeBy_71 : decode mX10_isHomeBy.1 71 = .ok (.ireturn, 1) := by decide +kernel
theorem X10_isHomeBy_0 (h : mm_M) (a1 : Int) (a2 : Int) : mm_ev mX10_isHomeBy 3 0 [some (vR 47), some (vI a1), some (vI a2), none] [] h = if 0 ≤ a1 ∧ a1 < 4 then (mm_call mX10_isPost [vR 47, vI (h 55 a1)] h).bind (fun w => mm_ev mX10_isHomeBy 3 12 [some (vR 47), some (vI a1), some (vI a2), some (vI (h 55 a1))] (w.1 ++ []) w.2) else none := (ev_aload_n 1 dX10_isHomeBy_0 rfl rfl).trans ((ev_getF 4 55 dX10_isHomeBy_1 fl_10_33 oc47 ak47 rfl rf_47_9 rfl).trans ((ev_iload_n 5 dX10_isHomeBy_4 rfl rfl).trans ((ev_iald 6 4 dX10_isHomeBy_5 ak55 an55 rfl).trans (mm_ite ((ev_istore_n 7 [some (vR 47), some (vI a1), some (vI a2), some (vI (h 55 a1))] dX10_isHomeBy_6 rfl rfl).trans ((ev_aload_n 8 dX10_isHomeBy_7 rfl rfl).trans ((ev_iload_n 9 dX10_isHomeBy_8 rfl rfl).trans ((ev_callv mX10_isPost [vR 47, vI (h 55 a1)] [] 12 dX10_isHomeBy_9 ml_10_170 k145 rfl oc47 ak47 rfl rfl (Nat.le_of_ble_eq_true rfl) (Nat.le_of_ble_eq_true rfl) rfl).trans (if_pos (show 2 < 3 from by decide)))))) (rfl)))))
theorem X10_isHomeBy_c (h : mm_M) (a1 : Int) (a2 : Int) : mm_call mX10_isHomeBy [vR 47, vI a1, vI a2] h = if 0 ≤ a1 ∧ a1 < 4 then (mm_call mX10_isPost [vR 47, vI (h 55 a1)] h).bind (fun w => mm_ev mX10_isHomeBy 3 12 [some (vR 47), some (vI a1), some (vI a2), some (vI (h 55 a1))] (w.1 ++ []) w.2) else none := X10_isHomeBy_0 h a1 a2
theorem X10_isHomeBy_12 (h : mm_M) (a1 : Int) (a2 : Int) (a3 : Int) (s0 : Int) : mm_ev mX10_isHomeBy 3 12 [some (vR 47), some (vI a1), some (vI a2), some (vI a3)] [vI s0] h = if ¬ s0 = 0 then (mm_call mX10_knows [vR 47, vI a1] h).bind (fun w => mm_ev mX10_isHomeBy 3 22 [some (vR 47), some (vI a1), some (vI a2), some (vI a3)] (w.1 ++ []) w.2) else some ([vI 0], h) := (ev_if_ne 17 15 dX10_isHomeBy_12 rfl rfl).trans (mm_ite ((ev_aload_n 18 dX10_isHomeBy_17 rfl rfl).trans ((ev_iload_n 19 dX10_isHomeBy_18 rfl rfl).trans ((ev_callv mX10_knows [vR 47, vI a1] [] 22 dX10_isHomeBy_19 ml_10_333 k201 rfl oc47 ak47 rfl rfl (Nat.le_of_ble_eq_true rfl) (Nat.le_of_ble_eq_true rfl) rfl).trans (if_pos (show 1 < 3 from by decide))))) ((ev_iconst 16 (v := 0) dX10_isHomeBy_15 rfl rfl).trans (ev_zret0 dX10_isHomeBy_16 rfl)))
theorem X10_isHomeBy_22 (h : mm_M) (a1 : Int) (a2 : Int) (a3 : Int) (s0 : Int) : mm_ev mX10_isHomeBy 3 22 [some (vR 47), some (vI a1), some (vI a2), some (vI a3)] [vI s0] h = if ¬ s0 = (h 47 10) then (mm_call mX10_knows [vR 47, vI a1] h).bind (fun w => mm_ev mX10_isHomeBy 3 48 [some (vR 47), some (vI a1), some (vI a2), some (vI a3)] (w.1 ++ []) w.2) else if 0 ≤ a1 ∧ a1 < 4 then (mm_call mX10_isOldIn [vR 47, vI a3, vI (h 54 a1)] h).bind (fun w => mm_ev mX10_isHomeBy 3 40 [some (vR 47), some (vI a1), some (vI a2), some (vI a3)] (w.1 ++ []) w.2) else none := (ev_aload_n 23 dX10_isHomeBy_22 rfl rfl).trans ((ev_getI 26 10 dX10_isHomeBy_23 fl_10_140 oc47 ak47 (by decide) rfl rfl).trans ((ev_ic_ne 43 29 dX10_isHomeBy_26 rfl rfl).trans (mm_ite ((ev_aload_n 44 dX10_isHomeBy_43 rfl rfl).trans ((ev_iload_n 45 dX10_isHomeBy_44 rfl rfl).trans ((ev_callv mX10_knows [vR 47, vI a1] [] 48 dX10_isHomeBy_45 ml_10_333 k201 rfl oc47 ak47 rfl rfl (Nat.le_of_ble_eq_true rfl) (Nat.le_of_ble_eq_true rfl) rfl).trans (if_pos (show 1 < 3 from by decide))))) ((ev_aload_n 30 dX10_isHomeBy_29 rfl rfl).trans ((ev_iload_n 31 dX10_isHomeBy_30 rfl rfl).trans ((ev_aload_n 32 dX10_isHomeBy_31 rfl rfl).trans ((ev_getF 35 54 dX10_isHomeBy_32 fl_10_30 oc47 ak47 rfl rf_47_8 rfl).trans ((ev_iload_n 36 dX10_isHomeBy_35 rfl rfl).trans ((ev_iald 37 4 dX10_isHomeBy_36 ak54 an54 rfl).trans (mm_ite ((ev_callv mX10_isOldIn [vR 47, vI a3, vI (h 54 a1)] [] 40 dX10_isHomeBy_37 ml_10_318 k195 rfl oc47 ak47 rfl rfl (Nat.le_of_ble_eq_true rfl) (Nat.le_of_ble_eq_true rfl) rfl).trans (if_pos (show 1 < 3 from by decide))) (rfl)))))))))))
theorem X10_isHomeBy_40 (h : mm_M) (a1 : Int) (a2 : Int) (a3 : Int) (s0 : Int) : mm_ev mX10_isHomeBy 3 40 [some (vR 47), some (vI a1), some (vI a2), some (vI a3)] [vI s0] h = if ¬ s0 = 0 then some ([vI 1], h) else (mm_call mX10_knows [vR 47, vI a1] h).bind (fun w => mm_ev mX10_isHomeBy 3 48 [some (vR 47), some (vI a1), some (vI a2), some (vI a3)] (w.1 ++ []) w.2) := (ev_if_ne 66 43 dX10_isHomeBy_40 rfl rfl).trans (mm_ite ((ev_iconst 67 (v := 1) dX10_isHomeBy_66 rfl rfl).trans ((ev_goto 71 dX10_isHomeBy_67 rfl).trans (ev_zret1 dX10_isHomeBy_71 rfl))) ((ev_aload_n 44 dX10_isHomeBy_43 rfl rfl).trans ((ev_iload_n 45 dX10_isHomeBy_44 rfl rfl).trans ((ev_callv mX10_knows [vR 47, vI a1] [] 48 dX10_isHomeBy_45 ml_10_333 k201 rfl oc47 ak47 rfl rfl (Nat.le_of_ble_eq_true rfl) (Nat.le_of_ble_eq_true rfl) rfl).trans (if_pos (show 1 < 3 from by decide))))))
theorem X10_isHomeBy_48 (h : mm_M) (a1 : Int) (a2 : Int) (a3 : Int) (s0 : Int) : mm_ev mX10_isHomeBy 3 48 [some (vR 47), some (vI a1), some (vI a2), some (vI a3)] [vI s0] h = if ¬ s0 = a2 then some ([vI 0], h) else if 0 ≤ a1 ∧ a1 < 4 then (mm_call mX10_isNewIn [vR 47, vI a3, vI (h 54 a1)] h).bind (fun w => mm_ev mX10_isHomeBy 3 63 [some (vR 47), some (vI a1), some (vI a2), some (vI a3)] (w.1 ++ []) w.2) else none := (ev_iload_n 49 dX10_isHomeBy_48 rfl rfl).trans ((ev_ic_ne 70 52 dX10_isHomeBy_49 rfl rfl).trans (mm_ite ((ev_iconst 71 (v := 0) dX10_isHomeBy_70 rfl rfl).trans (ev_zret0 dX10_isHomeBy_71 rfl)) ((ev_aload_n 53 dX10_isHomeBy_52 rfl rfl).trans ((ev_iload_n 54 dX10_isHomeBy_53 rfl rfl).trans ((ev_aload_n 55 dX10_isHomeBy_54 rfl rfl).trans ((ev_getF 58 54 dX10_isHomeBy_55 fl_10_30 oc47 ak47 rfl rf_47_8 rfl).trans ((ev_iload_n 59 dX10_isHomeBy_58 rfl rfl).trans ((ev_iald 60 4 dX10_isHomeBy_59 ak54 an54 rfl).trans (mm_ite ((ev_callv mX10_isNewIn [vR 47, vI a3, vI (h 54 a1)] [] 63 dX10_isHomeBy_60 ml_10_321 k196 rfl oc47 ak47 rfl rfl (Nat.le_of_ble_eq_true rfl) (Nat.le_of_ble_eq_true rfl) rfl).trans (if_pos (show 1 < 3 from by decide))) (rfl))))))))))
theorem X10_isHomeBy_63 (h : mm_M) (a1 : Int) (a2 : Int) (a3 : Int) (s0 : Int) : mm_ev mX10_isHomeBy 3 63 [some (vR 47), some (vI a1), some (vI a2), some (vI a3)] [vI s0] h = if s0 = 0 then some ([vI 0], h) else some ([vI 1], h) := (ev_if_eq 70 66 dX10_isHomeBy_63 rfl rfl).trans (mm_ite ((ev_iconst 71 (v := 0) dX10_isHomeBy_70 rfl rfl).trans (ev_zret0 dX10_isHomeBy_71 rfl)) ((ev_iconst 67 (v := 1) dX10_isHomeBy_66 rfl rfl).trans ((ev_goto 71 dX10_isHomeBy_67 rfl).trans (ev_zret1 dX10_isHomeBy_71 rfl))))
theorem dX10_knows_0 : decode mX10_knows.1 0 = .ok (.aload_n 0, 1) := by decide +kernel
theorem dX10_knows_1 : decode mX10_knows.1 1 = .ok (.getfield 27, 3) := by decide +kernel
theorem dX10_knows_4 : decode mX10_knows.1 4 = .ok (.iload_n 1, 1) := by decide +kernel
theorem dX10_knows_5 : decode mX10_knows.1 5 = .ok (.iaload, 1) := by decide +kernel
theorem dX10_knows_6 : decode mX10_knows.1 6 = .ok (.aload_n 0, 1) := by decide +kernel
theorem dX10_knows_7 : decode mX10_knows.1 7 = .ok (.getfield 153, 3) := by decide +kernel
theorem dX10_knows_10 : decode mX10_knows.1 10 = .ok (.if_icmp .lt 10, 3) := by decide +kernel
theorem dX10_knows_13 : decode mX10_knows.1 13 = .ok (.aload_n 0, 1) := by decide +kernel
theorem dX10_knows_14 : decode mX10_knows.1 14 = .ok (.getfield 36, 3) := by decide +kernel
theorem dX10_knows_17 : decode mX10_knows.1 17 = .ok (.goto 7, 3) := by decide +kernel
theorem dX10_knows_20 : decode mX10_knows.1 20 = .ok (.aload_n 0, 1) := by decide +kernel
theorem dX10_knows_21 : decode mX10_knows.1 21 = .ok (.getfield 140, 3) := by decide +kernel
theorem dX10_knows_24 : decode mX10_knows.1 24 = .ok (.ireturn, 1) := by decide +kernel
theorem X10_knows_0 (h : mm_M) (a1 : Int) : mm_ev mX10_knows 1 0 [some (vR 47), some (vI a1)] [] h = if 0 ≤ a1 ∧ a1 < 4 then if (h 53 a1) < (h 47 12) then some ([vI (h 47 10)], h) else some ([vI (h 47 11)], h) else none := (ev_aload_n 1 dX10_knows_0 rfl rfl).trans ((ev_getF 4 53 dX10_knows_1 fl_10_27 oc47 ak47 rfl rf_47_7 rfl).trans ((ev_iload_n 5 dX10_knows_4 rfl rfl).trans ((ev_iald 6 4 dX10_knows_5 ak53 an53 rfl).trans (mm_ite ((ev_aload_n 7 dX10_knows_6 rfl rfl).trans ((ev_getI 10 12 dX10_knows_7 fl_10_153 oc47 ak47 (by decide) rfl rfl).trans ((ev_ic_lt 20 13 dX10_knows_10 rfl rfl).trans (mm_ite ((ev_aload_n 21 dX10_knows_20 rfl rfl).trans ((ev_getI 24 10 dX10_knows_21 fl_10_140 oc47 ak47 (by decide) rfl rfl).trans (ev_iret dX10_knows_24 rfl))) ((ev_aload_n 14 dX10_knows_13 rfl rfl).trans ((ev_getI 17 11 dX10_knows_14 fl_10_36 oc47 ak47 (by decide) rfl rfl).trans ((ev_goto 24 dX10_knows_17 rfl).trans (ev_iret dX10_knows_24 rfl)))))))) (rfl)))))
theorem X10_knows_c (h : mm_M) (a1 : Int) : mm_call mX10_knows [vR 47, vI a1] h = if 0 ≤ a1 ∧ a1 < 4 then if (h 53 a1) < (h 47 12) then some ([vI (h 47 10)], h) else some ([vI (h 47 11)], h) else none := X10_knows_0 h a1
theorem dX10_isOldIn_0 : decode mX10_isOldIn.1 0 = .ok (.aload_n 0, 1) := by decide +kernel
theorem dX10_isOldIn_1 : decode mX10_isOldIn.1 1 = .ok (.getfield 84, 3) := by decide +kernel
theorem dX10_isOldIn_4 : decode mX10_isOldIn.1 4 = .ok (.iload_n 1, 1) := by decide +kernel
theorem dX10_isOldIn_5 : decode mX10_isOldIn.1 5 = .ok (.iaload, 1) := by decide +kernel
theorem dX10_isOldIn_6 : decode mX10_isOldIn.1 6 = .ok (.ifCond .lt 18, 3) := by decide +kernel
theorem dX10_isOldIn_9 : decode mX10_isOldIn.1 9 = .ok (.iload_n 2, 1) := by decide +kernel
theorem dX10_isOldIn_10 : decode mX10_isOldIn.1 10 = .ok (.aload_n 0, 1) := by decide +kernel
theorem dX10_isOldIn_11 : decode mX10_isOldIn.1 11 = .ok (.getfield 84, 3) := by decide +kernel
theorem dX10_isOldIn_14 : decode mX10_isOldIn.1 14 = .ok (.iload_n 1, 1) := by decide +kernel
theorem dX10_isOldIn_15 : decode mX10_isOldIn.1 15 = .ok (.iaload, 1) := by decide +kernel
theorem dX10_isOldIn_16 : decode mX10_isOldIn.1 16 = .ok (.aload_n 0, 1) := by decide +kernel
theorem dX10_isOldIn_17 : decode mX10_isOldIn.1 17 = .ok (.getfield 40, 3) := by decide +kernel
theorem dX10_isOldIn_20 : decode mX10_isOldIn.1 20 = .ok (.iadd, 1) := by decide +kernel
theorem dX10_isOldIn_21 : decode mX10_isOldIn.1 21 = .ok (.if_icmp .ge 7, 3) := by decide +kernel
theorem dX10_isOldIn_24 : decode mX10_isOldIn.1 24 = .ok (.iconst 1, 1) := by decide +kernel
theorem dX10_isOldIn_25 : decode mX10_isOldIn.1 25 = .ok (.goto 4, 3) := by decide +kernel
theorem dX10_isOldIn_28 : decode mX10_isOldIn.1 28 = .ok (.iconst 0, 1) := by decide +kernel
theorem dX10_isOldIn_29 : decode mX10_isOldIn.1 29 = .ok (.ireturn, 1) := by decide +kernel
theorem X10_isOldIn_0 (h : mm_M) (a1 : Int) (a2 : Int) : mm_ev mX10_isOldIn 1 0 [some (vR 47), some (vI a1), some (vI a2)] [] h = if 0 ≤ a1 ∧ a1 < 7 then if (h 69 a1) < 0 then some ([vI 1], h) else if 0 ≤ a1 ∧ a1 < 7 then if (w32 ((h 69 a1) + (h 47 13))) ≤ a2 then some ([vI 0], h) else some ([vI 1], h) else none else none := (ev_aload_n 1 dX10_isOldIn_0 rfl rfl).trans ((ev_getF 4 69 dX10_isOldIn_1 fl_10_84 oc47 ak47 rfl rf_47_36 rfl).trans ((ev_iload_n 5 dX10_isOldIn_4 rfl rfl).trans ((ev_iald 6 7 dX10_isOldIn_5 ak69 an69 rfl).trans (mm_ite ((ev_if_lt 24 9 dX10_isOldIn_6 rfl rfl).trans (mm_ite ((ev_iconst 25 (v := 1) dX10_isOldIn_24 rfl rfl).trans ((ev_goto 29 dX10_isOldIn_25 rfl).trans (ev_zret1 dX10_isOldIn_29 rfl))) ((ev_iload_n 10 dX10_isOldIn_9 rfl rfl).trans ((ev_aload_n 11 dX10_isOldIn_10 rfl rfl).trans ((ev_getF 14 69 dX10_isOldIn_11 fl_10_84 oc47 ak47 rfl rf_47_36 rfl).trans ((ev_iload_n 15 dX10_isOldIn_14 rfl rfl).trans ((ev_iald 16 7 dX10_isOldIn_15 ak69 an69 rfl).trans (mm_ite ((ev_aload_n 17 dX10_isOldIn_16 rfl rfl).trans ((ev_getI 20 13 dX10_isOldIn_17 fl_10_40 oc47 ak47 (by decide) rfl rfl).trans ((ev_iadd 21 dX10_isOldIn_20 rfl).trans ((ev_ic_ge 28 24 dX10_isOldIn_21 rfl rfl).trans (mm_ite ((ev_iconst 29 (v := 0) dX10_isOldIn_28 rfl rfl).trans (ev_zret0 dX10_isOldIn_29 rfl)) ((ev_iconst 25 (v := 1) dX10_isOldIn_24 rfl rfl).trans ((ev_goto 29 dX10_isOldIn_25 rfl).trans (ev_zret1 dX10_isOldIn_29 rfl)))))))) (rfl))))))))) (rfl)))))
theorem X10_isOldIn_c (h : mm_M) (a1 : Int) (a2 : Int) : mm_call mX10_isOldIn [vR 47, vI a1, vI a2] h = if 0 ≤ a1 ∧ a1 < 7 then if (h 69 a1) < 0 then some ([vI 1], h) else if 0 ≤ a1 ∧ a1 < 7 then if (w32 ((h 69 a1) + (h 47 13))) ≤ a2 then some ([vI 0], h) else some ([vI 1], h) else none else none := X10_isOldIn_0 h a1 a2
theorem dX10_isNewIn_0 : decode mX10_isNewIn.1 0 = .ok (.aload_n 0, 1) := by decide +kernel
theorem dX10_isNewIn_1 : decode mX10_isNewIn.1 1 = .ok (.getfield 84, 3) := by decide +kernel
theorem dX10_isNewIn_4 : decode mX10_isNewIn.1 4 = .ok (.iload_n 1, 1) := by decide +kernel
theorem dX10_isNewIn_5 : decode mX10_isNewIn.1 5 = .ok (.iaload, 1) := by decide +kernel
theorem dX10_isNewIn_6 : decode mX10_isNewIn.1 6 = .ok (.ifCond .lt 17, 3) := by decide +kernel
theorem dX10_isNewIn_9 : decode mX10_isNewIn.1 9 = .ok (.iload_n 2, 1) := by decide +kernel
theorem dX10_isNewIn_10 : decode mX10_isNewIn.1 10 = .ok (.aload_n 0, 1) := by decide +kernel
theorem dX10_isNewIn_11 : decode mX10_isNewIn.1 11 = .ok (.getfield 84, 3) := by decide +kernel
theorem dX10_isNewIn_14 : decode mX10_isNewIn.1 14 = .ok (.iload_n 1, 1) := by decide +kernel
theorem dX10_isNewIn_15 : decode mX10_isNewIn.1 15 = .ok (.iaload, 1) := by decide +kernel
theorem dX10_isNewIn_16 : decode mX10_isNewIn.1 16 = .ok (.if_icmp .lt 7, 3) := by decide +kernel
theorem dX10_isNewIn_19 : decode mX10_isNewIn.1 19 = .ok (.iconst 1, 1) := by decide +kernel
theorem dX10_isNewIn_20 : decode mX10_isNewIn.1 20 = .ok (.goto 4, 3) := by decide +kernel
theorem dX10_isNewIn_23 : decode mX10_isNewIn.1 23 = .ok (.iconst 0, 1) := by decide +kernel
theorem dX10_isNewIn_24 : decode mX10_isNewIn.1 24 = .ok (.ireturn, 1) := by decide +kernel
theorem X10_isNewIn_0 (h : mm_M) (a1 : Int) (a2 : Int) : mm_ev mX10_isNewIn 1 0 [some (vR 47), some (vI a1), some (vI a2)] [] h = if 0 ≤ a1 ∧ a1 < 7 then if (h 69 a1) < 0 then some ([vI 0], h) else if 0 ≤ a1 ∧ a1 < 7 then if a2 < (h 69 a1) then some ([vI 0], h) else some ([vI 1], h) else none else none := (ev_aload_n 1 dX10_isNewIn_0 rfl rfl).trans ((ev_getF 4 69 dX10_isNewIn_1 fl_10_84 oc47 ak47 rfl rf_47_36 rfl).trans ((ev_iload_n 5 dX10_isNewIn_4 rfl rfl).trans ((ev_iald 6 7 dX10_isNewIn_5 ak69 an69 rfl).trans (mm_ite ((ev_if_lt 23 9 dX10_isNewIn_6 rfl rfl).trans (mm_ite ((ev_iconst 24 (v := 0) dX10_isNewIn_23 rfl rfl).trans (ev_zret0 dX10_isNewIn_24 rfl)) ((ev_iload_n 10 dX10_isNewIn_9 rfl rfl).trans ((ev_aload_n 11 dX10_isNewIn_10 rfl rfl).trans ((ev_getF 14 69 dX10_isNewIn_11 fl_10_84 oc47 ak47 rfl rf_47_36 rfl).trans ((ev_iload_n 15 dX10_isNewIn_14 rfl rfl).trans ((ev_iald 16 7 dX10_isNewIn_15 ak69 an69 rfl).trans (mm_ite ((ev_ic_lt 23 19 dX10_isNewIn_16 rfl rfl).trans (mm_ite ((ev_iconst 24 (v := 0) dX10_isNewIn_23 rfl rfl).trans (ev_zret0 dX10_isNewIn_24 rfl)) ((ev_iconst 20 (v := 1) dX10_isNewIn_19 rfl rfl).trans ((ev_goto 24 dX10_isNewIn_20 rfl).trans (ev_zret1 dX10_isNewIn_24 rfl))))) (rfl))))))))) (rfl)))))
theorem X10_isNewIn_c (h : mm_M) (a1 : Int) (a2 : Int) : mm_call mX10_isNewIn [vR 47, vI a1, vI a2] h = if 0 ≤ a1 ∧ a1 < 7 then if (h 69 a1) < 0 then some ([vI 0], h) else if 0 ≤ a1 ∧ a1 < 7 then if a2 < (h 69 a1) then some ([vI 0], h) else some ([vI 1], h) else none else none := X10_isNewIn_0 h a1 a2
theorem dX10_oddWord_0 : decode mX10_oddWord.1 0 = .ok (.iload_n 1, 1) := by decide +kernel
theorem dX10_oddWord_1 : decode mX10_oddWord.1 1 = .ok (.invokestatic 385, 3) := by decide +kernel
theorem dX10_oddWord_4 : decode mX10_oddWord.1 4 = .ok (.ifCond .ne 5, 3) := by decide +kernel
theorem dX10_oddWord_7 : decode mX10_oddWord.1 7 = .ok (.iconst (-1), 1) := by decide +kernel
theorem dX10_oddWord_8 : decode mX10_oddWord.1 8 = .ok (.ireturn, 1) := by decide +kernel
theorem dX10_oddWord_9 : decode mX10_oddWord.1 9 = .ok (.aload_n 0, 1) := by decide +kernel
theorem dX10_oddWord_10 : decode mX10_oddWord.1 10 = .ok (.iload_n 1, 1) := by decide +kernel
theorem dX10_oddWord_11 : decode mX10_oddWord.1 11 = .ok (.invokevirtual 388, 3) := by decide +kernel
theorem dX10_oddWord_14 : decode mX10_oddWord.1 14 = .ok (.istore_n 2, 1) := by decide +kernel
theorem dX10_oddWord_15 : decode mX10_oddWord.1 15 = .ok (.iload_n 2, 1) := by decide +kernel
theorem dX10_oddWord_16 : decode mX10_oddWord.1 16 = .ok (.ifCond .ge 5, 3) := by decide +kernel
theorem dX10_oddWord_19 : decode mX10_oddWord.1 19 = .ok (.iload_n 2, 1) := by decide +kernel
theorem dX10_oddWord_20 : decode mX10_oddWord.1 20 = .ok (.ireturn, 1) := by decide +kernel
theorem dX10_oddWord_21 : decode mX10_oddWord.1 21 = .ok (.aload_n 0, 1) := by decide +kernel
theorem dX10_oddWord_22 : decode mX10_oddWord.1 22 = .ok (.getfield 36, 3) := by decide +kernel
theorem dX10_oddWord_25 : decode mX10_oddWord.1 25 = .ok (.istore_n 3, 1) := by decide +kernel
theorem dX10_oddWord_26 : decode mX10_oddWord.1 26 = .ok (.bipush (-2), 2) := by decide +kernel
theorem dX10_oddWord_28 : decode mX10_oddWord.1 28 = .ok (.istore 4, 2) := by decide +kernel
theorem dX10_oddWord_30 : decode mX10_oddWord.1 30 = .ok (.iconst 0, 1) := by decide +kernel
theorem dX10_oddWord_31 : decode mX10_oddWord.1 31 = .ok (.istore 5, 2) := by decide +kernel
theorem dX10_oddWord_33 : decode mX10_oddWord.1 33 = .ok (.iload 5, 2) := by decide +kernel
theorem dX10_oddWord_35 : decode mX10_oddWord.1 35 = .ok (.bipush 10, 2) := by decide +kernel
theorem dX10_oddWord_37 : decode mX10_oddWord.1 37 = .ok (.if_icmp .ge 35, 3) := by decide +kernel
theorem dX10_oddWord_40 : decode mX10_oddWord.1 40 = .ok (.iload 4, 2) := by decide +kernel
theorem dX10_oddWord_42 : decode mX10_oddWord.1 42 = .ok (.ifCond .ge 30, 3) := by decide +kernel
theorem dX10_oddWord_45 : decode mX10_oddWord.1 45 = .ok (.aload_n 0, 1) := by decide +kernel
theorem dX10_oddWord_46 : decode mX10_oddWord.1 46 = .ok (.iload 5, 2) := by decide +kernel
theorem dX10_oddWord_48 : decode mX10_oddWord.1 48 = .ok (.putfield 36, 3) := by decide +kernel
theorem dX10_oddWord_51 : decode mX10_oddWord.1 51 = .ok (.aload_n 0, 1) := by decide +kernel
theorem dX10_oddWord_52 : decode mX10_oddWord.1 52 = .ok (.iload_n 1, 1) := by decide +kernel
theorem dX10_oddWord_53 : decode mX10_oddWord.1 53 = .ok (.bipush 10, 2) := by decide +kernel
theorem dX10_oddWord_55 : decode mX10_oddWord.1 55 = .ok (.irem, 1) := by decide +kernel
theorem dX10_oddWord_56 : decode mX10_oddWord.1 56 = .ok (.invokevirtual 297, 3) := by decide +kernel
theorem dX10_oddWord_59 : decode mX10_oddWord.1 59 = .ok (.ifCond .ge 7, 3) := by decide +kernel
theorem dX10_oddWord_62 : decode mX10_oddWord.1 62 = .ok (.iload 5, 2) := by decide +kernel
theorem dX10_oddWord_64 : decode mX10_oddWord.1 64 = .ok (.istore 4, 2) := by decide +kernel
theorem dX10_oddWord_66 : decode mX10_oddWord.1 66 = .ok (.iinc 5 1, 3) := by decide +kernel
theorem dX10_oddWord_69 : decode mX10_oddWord.1 69 = .ok (.goto (-36), 3) := by decide +kernel
theorem dX10_oddWord_72 : decode mX10_oddWord.1 72 = .ok (.aload_n 0, 1) := by decide +kernel
theorem dX10_oddWord_73 : decode mX10_oddWord.1 73 = .ok (.iload_n 3, 1) := by decide +kernel
theorem dX10_oddWord_74 : decode mX10_oddWord.1 74 = .ok (.putfield 36, 3) := by decide +kernel
theorem dX10_oddWord_77 : decode mX10_oddWord.1 77 = .ok (.iload 4, 2) := by decide +kernel
theorem dX10_oddWord_79 : decode mX10_oddWord.1 79 = .ok (.ireturn, 1) := by decide +kernel
theorem X10_oddWord_0 (h : mm_M) (a1 : Int) : mm_ev mX10_oddWord 6 0 [some (vR 47), some (vI a1), none, none, none, none] [] h = (mm_call mX10_areShelves [vI a1] h).bind (fun w => mm_ev mX10_oddWord 6 4 [some (vR 47), some (vI a1), none, none, none, none] (w.1 ++ []) w.2) := (ev_iload_n 1 dX10_oddWord_0 rfl rfl).trans ((ev_calls mX10_areShelves [vI a1] [] 4 dX10_oddWord_1 ml_10_385 k225 rfl rfl rfl (Nat.le_of_ble_eq_true rfl) (Nat.le_of_ble_eq_true rfl) rfl).trans (if_pos (show 3 < 6 from by decide)))
theorem X10_oddWord_c (h : mm_M) (a1 : Int) : mm_call mX10_oddWord [vR 47, vI a1] h = (mm_call mX10_areShelves [vI a1] h).bind (fun w => mm_ev mX10_oddWord 6 4 [some (vR 47), some (vI a1), none, none, none, none] (w.1 ++ []) w.2) := X10_oddWord_0 h a1
theorem X10_oddWord_4 (h : mm_M) (a1 : Int) (s0 : Int) : mm_ev mX10_oddWord 6 4 [some (vR 47), some (vI a1), none, none, none, none] [vI s0] h = if ¬ s0 = 0 then (mm_call mX10_layBoth [vR 47, vI a1] h).bind (fun w => mm_ev mX10_oddWord 6 14 [some (vR 47), some (vI a1), none, none, none, none] (w.1 ++ []) w.2) else some ([vI (-1)], h) := (ev_if_ne 9 7 dX10_oddWord_4 rfl rfl).trans (mm_ite ((ev_aload_n 10 dX10_oddWord_9 rfl rfl).trans ((ev_iload_n 11 dX10_oddWord_10 rfl rfl).trans ((ev_callv mX10_layBoth [vR 47, vI a1] [] 14 dX10_oddWord_11 ml_10_388 k226 rfl oc47 ak47 rfl rfl (Nat.le_of_ble_eq_true rfl) (Nat.le_of_ble_eq_true rfl) rfl).trans (if_pos (show 5 < 6 from by decide))))) ((ev_iconst 8 (v := (-1)) dX10_oddWord_7 rfl rfl).trans (ev_iret dX10_oddWord_8 rfl)))
theorem X10_oddWord_14 (h : mm_M) (a1 : Int) (s0 : Int) : mm_ev mX10_oddWord 6 14 [some (vR 47), some (vI a1), none, none, none, none] [vI s0] h = if 0 ≤ s0 then mm_ev mX10_oddWord 6 33 [some (vR 47), some (vI a1), some (vI s0), some (vI (h 47 11)), some (vI (-2)), some (vI 0)] [] h else some ([vI s0], h) := (ev_istore_n 15 [some (vR 47), some (vI a1), some (vI s0), none, none, none] dX10_oddWord_14 rfl rfl).trans ((ev_iload_n 16 dX10_oddWord_15 rfl rfl).trans ((ev_if_ge 21 19 dX10_oddWord_16 rfl rfl).trans (mm_ite ((ev_aload_n 22 dX10_oddWord_21 rfl rfl).trans ((ev_getI 25 11 dX10_oddWord_22 fl_10_36 oc47 ak47 (by decide) rfl rfl).trans ((ev_istore_n 26 [some (vR 47), some (vI a1), some (vI s0), some (vI (h 47 11)), none, none] dX10_oddWord_25 rfl rfl).trans ((ev_bipush 28 (v := (-2)) dX10_oddWord_26 rfl rfl).trans ((ev_istore 30 [some (vR 47), some (vI a1), some (vI s0), some (vI (h 47 11)), some (vI (-2)), none] dX10_oddWord_28 rfl rfl).trans ((ev_iconst 31 (v := 0) dX10_oddWord_30 rfl rfl).trans (ev_istore 33 [some (vR 47), some (vI a1), some (vI s0), some (vI (h 47 11)), some (vI (-2)), some (vI 0)] dX10_oddWord_31 rfl rfl))))))) ((ev_iload_n 20 dX10_oddWord_19 rfl rfl).trans (ev_iret dX10_oddWord_20 rfl)))))
theorem X10_oddWord_33 (h : mm_M) (a1 : Int) (a2 : Int) (a3 : Int) (a4 : Int) (a5 : Int) : mm_ev mX10_oddWord 6 33 [some (vR 47), some (vI a1), some (vI a2), some (vI a3), some (vI a4), some (vI a5)] [] h = if 10 ≤ a5 then some ([vI a4], mUp h 47 11 a3) else if 0 ≤ a4 then some ([vI a4], mUp h 47 11 a3) else (mm_call mX10_wrongSaid [vR 47, vI (a1.tmod 10)] (mUp h 47 11 a5)).bind (fun w => mm_ev mX10_oddWord 6 59 [some (vR 47), some (vI a1), some (vI a2), some (vI a3), some (vI a4), some (vI a5)] (w.1 ++ []) w.2) := (ev_iload 35 dX10_oddWord_33 rfl rfl).trans ((ev_bipush 37 (v := 10) dX10_oddWord_35 rfl rfl).trans ((ev_ic_ge 72 40 dX10_oddWord_37 rfl rfl).trans (mm_ite ((ev_aload_n 73 dX10_oddWord_72 rfl rfl).trans ((ev_iload_n 74 dX10_oddWord_73 rfl rfl).trans ((ev_putI 77 11 dX10_oddWord_74 fl_10_36 oc47 ak47 rfl rfl rfl).trans ((ev_iload 79 dX10_oddWord_77 rfl rfl).trans (ev_iret dX10_oddWord_79 rfl))))) ((ev_iload 42 dX10_oddWord_40 rfl rfl).trans ((ev_if_ge 72 45 dX10_oddWord_42 rfl rfl).trans (mm_ite ((ev_aload_n 73 dX10_oddWord_72 rfl rfl).trans ((ev_iload_n 74 dX10_oddWord_73 rfl rfl).trans ((ev_putI 77 11 dX10_oddWord_74 fl_10_36 oc47 ak47 rfl rfl rfl).trans ((ev_iload 79 dX10_oddWord_77 rfl rfl).trans (ev_iret dX10_oddWord_79 rfl))))) ((ev_aload_n 46 dX10_oddWord_45 rfl rfl).trans ((ev_iload 48 dX10_oddWord_46 rfl rfl).trans ((ev_putI 51 11 dX10_oddWord_48 fl_10_36 oc47 ak47 rfl rfl rfl).trans ((ev_aload_n 52 dX10_oddWord_51 rfl rfl).trans ((ev_iload_n 53 dX10_oddWord_52 rfl rfl).trans ((ev_bipush 55 (v := 10) dX10_oddWord_53 rfl rfl).trans (((ev_irem 56 dX10_oddWord_55 rfl).trans (if_neg (by decide))).trans ((ev_callv mX10_wrongSaid [vR 47, vI (a1.tmod 10)] [] 59 dX10_oddWord_56 ml_10_297 k224 rfl oc47 ak47 rfl rfl (Nat.le_of_ble_eq_true rfl) (Nat.le_of_ble_eq_true rfl) rfl).trans (if_pos (show 4 < 6 from by decide))))))))))))))))
theorem X10_oddWord_59 (h : mm_M) (a1 : Int) (a2 : Int) (a3 : Int) (a4 : Int) (a5 : Int) (s0 : Int) : mm_ev mX10_oddWord 6 59 [some (vR 47), some (vI a1), some (vI a2), some (vI a3), some (vI a4), some (vI a5)] [vI s0] h = if 0 ≤ s0 then mm_ev mX10_oddWord 6 33 [some (vR 47), some (vI a1), some (vI a2), some (vI a3), some (vI a4), some (vI (w32 (a5 + 1)))] [] h else mm_ev mX10_oddWord 6 33 [some (vR 47), some (vI a1), some (vI a2), some (vI a3), some (vI a5), some (vI (w32 (a5 + 1)))] [] h := (ev_if_ge 66 62 dX10_oddWord_59 rfl rfl).trans (mm_ite ((ev_iinc 69 [some (vR 47), some (vI a1), some (vI a2), some (vI a3), some (vI a4), some (vI (w32 (a5 + 1)))] dX10_oddWord_66 rfl rfl rfl).trans (ev_goto 33 dX10_oddWord_69 rfl)) ((ev_iload 64 dX10_oddWord_62 rfl rfl).trans ((ev_istore 66 [some (vR 47), some (vI a1), some (vI a2), some (vI a3), some (vI a5), some (vI a5)] dX10_oddWord_64 rfl rfl).trans ((ev_iinc 69 [some (vR 47), some (vI a1), some (vI a2), some (vI a3), some (vI a5), some (vI (w32 (a5 + 1)))] dX10_oddWord_66 rfl rfl rfl).trans (ev_goto 33 dX10_oddWord_69 rfl)))))
theorem dX10_areShelves_0 : decode mX10_areShelves.1 0 = .ok (.iload_n 0, 1) := by decide +kernel
theorem dX10_areShelves_1 : decode mX10_areShelves.1 1 = .ok (.ifCond .lt 27, 3) := by decide +kernel
theorem dX10_areShelves_4 : decode mX10_areShelves.1 4 = .ok (.iload_n 0, 1) := by decide +kernel
theorem dX10_areShelves_5 : decode mX10_areShelves.1 5 = .ok (.bipush 10, 2) := by decide +kernel
theorem dX10_areShelves_7 : decode mX10_areShelves.1 7 = .ok (.idiv, 1) := by decide +kernel
theorem dX10_areShelves_8 : decode mX10_areShelves.1 8 = .ok (.invokestatic 147, 3) := by decide +kernel
theorem dX10_areShelves_11 : decode mX10_areShelves.1 11 = .ok (.ifCond .eq 17, 3) := by decide +kernel
theorem dX10_areShelves_14 : decode mX10_areShelves.1 14 = .ok (.iload_n 0, 1) := by decide +kernel
theorem dX10_areShelves_15 : decode mX10_areShelves.1 15 = .ok (.bipush 10, 2) := by decide +kernel
theorem dX10_areShelves_17 : decode mX10_areShelves.1 17 = .ok (.irem, 1) := by decide +kernel
theorem dX10_areShelves_18 : decode mX10_areShelves.1 18 = .ok (.invokestatic 147, 3) := by decide +kernel
theorem dX10_areShelves_21 : decode mX10_areShelves.1 21 = .ok (.ifCond .eq 7, 3) := by decide +kernel
theorem dX10_areShelves_24 : decode mX10_areShelves.1 24 = .ok (.iconst 1, 1) := by decide +kernel
theorem dX10_areShelves_25 : decode mX10_areShelves.1 25 = .ok (.goto 4, 3) := by decide +kernel
theorem dX10_areShelves_28 : decode mX10_areShelves.1 28 = .ok (.iconst 0, 1) := by decide +kernel
theorem dX10_areShelves_29 : decode mX10_areShelves.1 29 = .ok (.ireturn, 1) := by decide +kernel
theorem X10_areShelves_0 (h : mm_M) (a0 : Int) : mm_ev mX10_areShelves 3 0 [some (vI a0)] [] h = if a0 < 0 then some ([vI 0], h) else (mm_call mX10_isShelf [vI (w32 (a0.tdiv 10))] h).bind (fun w => mm_ev mX10_areShelves 3 11 [some (vI a0)] (w.1 ++ []) w.2) := (ev_iload_n 1 dX10_areShelves_0 rfl rfl).trans ((ev_if_lt 28 4 dX10_areShelves_1 rfl rfl).trans (mm_ite ((ev_iconst 29 (v := 0) dX10_areShelves_28 rfl rfl).trans (ev_zret0 dX10_areShelves_29 rfl)) ((ev_iload_n 5 dX10_areShelves_4 rfl rfl).trans ((ev_bipush 7 (v := 10) dX10_areShelves_5 rfl rfl).trans (((ev_idiv 8 dX10_areShelves_7 rfl).trans (if_neg (by decide))).trans ((ev_calls mX10_isShelf [vI (w32 (a0.tdiv 10))] [] 11 dX10_areShelves_8 ml_10_147 k258 rfl rfl rfl (Nat.le_of_ble_eq_true rfl) (Nat.le_of_ble_eq_true rfl) rfl).trans (if_pos (show 2 < 3 from by decide))))))))
theorem X10_areShelves_c (h : mm_M) (a0 : Int) : mm_call mX10_areShelves [vI a0] h = if a0 < 0 then some ([vI 0], h) else (mm_call mX10_isShelf [vI (w32 (a0.tdiv 10))] h).bind (fun w => mm_ev mX10_areShelves 3 11 [some (vI a0)] (w.1 ++ []) w.2) := X10_areShelves_0 h a0
theorem X10_areShelves_11 (h : mm_M) (a0 : Int) (s0 : Int) : mm_ev mX10_areShelves 3 11 [some (vI a0)] [vI s0] h = if s0 = 0 then some ([vI 0], h) else (mm_call mX10_isShelf [vI (a0.tmod 10)] h).bind (fun w => mm_ev mX10_areShelves 3 21 [some (vI a0)] (w.1 ++ []) w.2) := (ev_if_eq 28 14 dX10_areShelves_11 rfl rfl).trans (mm_ite ((ev_iconst 29 (v := 0) dX10_areShelves_28 rfl rfl).trans (ev_zret0 dX10_areShelves_29 rfl)) ((ev_iload_n 15 dX10_areShelves_14 rfl rfl).trans ((ev_bipush 17 (v := 10) dX10_areShelves_15 rfl rfl).trans (((ev_irem 18 dX10_areShelves_17 rfl).trans (if_neg (by decide))).trans ((ev_calls mX10_isShelf [vI (a0.tmod 10)] [] 21 dX10_areShelves_18 ml_10_147 k258 rfl rfl rfl (Nat.le_of_ble_eq_true rfl) (Nat.le_of_ble_eq_true rfl) rfl).trans (if_pos (show 2 < 3 from by decide)))))))
theorem X10_areShelves_21 (h : mm_M) (a0 : Int) (s0 : Int) : mm_ev mX10_areShelves 3 21 [some (vI a0)] [vI s0] h = if s0 = 0 then some ([vI 0], h) else some ([vI 1], h) := (ev_if_eq 28 24 dX10_areShelves_21 rfl rfl).trans (mm_ite ((ev_iconst 29 (v := 0) dX10_areShelves_28 rfl rfl).trans (ev_zret0 dX10_areShelves_29 rfl)) ((ev_iconst 25 (v := 1) dX10_areShelves_24 rfl rfl).trans ((ev_goto 29 dX10_areShelves_25 rfl).trans (ev_zret1 dX10_areShelves_29 rfl))))
theorem dX10_layBoth_0 : decode mX10_layBoth.1 0 = .ok (.aload_n 0, 1) := by decide +kernel
theorem dX10_layBoth_1 : decode mX10_layBoth.1 1 = .ok (.getfield 117, 3) := by decide +kernel
theorem dX10_layBoth_4 : decode mX10_layBoth.1 4 = .ok (.iload_n 1, 1) := by decide +kernel
theorem dX10_layBoth_5 : decode mX10_layBoth.1 5 = .ok (.bipush 10, 2) := by decide +kernel
theorem dX10_layBoth_7 : decode mX10_layBoth.1 7 = .ok (.idiv, 1) := by decide +kernel
theorem dX10_layBoth_8 : decode mX10_layBoth.1 8 = .ok (.iaload, 1) := by decide +kernel
theorem dX10_layBoth_9 : decode mX10_layBoth.1 9 = .ok (.iconst (-1), 1) := by decide +kernel
theorem dX10_layBoth_10 : decode mX10_layBoth.1 10 = .ok (.if_icmp .eq 16, 3) := by decide +kernel
theorem dX10_layBoth_13 : decode mX10_layBoth.1 13 = .ok (.aload_n 0, 1) := by decide +kernel
theorem dX10_layBoth_14 : decode mX10_layBoth.1 14 = .ok (.getfield 117, 3) := by decide +kernel
theorem dX10_layBoth_17 : decode mX10_layBoth.1 17 = .ok (.iload_n 1, 1) := by decide +kernel
theorem dX10_layBoth_18 : decode mX10_layBoth.1 18 = .ok (.bipush 10, 2) := by decide +kernel
theorem dX10_layBoth_20 : decode mX10_layBoth.1 20 = .ok (.irem, 1) := by decide +kernel
theorem dX10_layBoth_21 : decode mX10_layBoth.1 21 = .ok (.iaload, 1) := by decide +kernel
theorem dX10_layBoth_22 : decode mX10_layBoth.1 22 = .ok (.iconst (-1), 1) := by decide +kernel
theorem dX10_layBoth_23 : decode mX10_layBoth.1 23 = .ok (.if_icmp .ne 6, 3) := by decide +kernel
theorem dX10_layBoth_26 : decode mX10_layBoth.1 26 = .ok (.bipush (-11), 2) := by decide +kernel
theorem dX10_layBoth_28 : decode mX10_layBoth.1 28 = .ok (.ireturn, 1) := by decide +kernel
theorem dX10_layBoth_29 : decode mX10_layBoth.1 29 = .ok (.aload_n 0, 1) := by decide +kernel
theorem dX10_layBoth_30 : decode mX10_layBoth.1 30 = .ok (.iload_n 1, 1) := by decide +kernel
theorem dX10_layBoth_31 : decode mX10_layBoth.1 31 = .ok (.bipush 10, 2) := by decide +kernel
theorem dX10_layBoth_33 : decode mX10_layBoth.1 33 = .ok (.idiv, 1) := by decide +kernel
theorem dX10_layBoth_34 : decode mX10_layBoth.1 34 = .ok (.iconst 0, 1) := by decide +kernel
theorem dX10_layBoth_35 : decode mX10_layBoth.1 35 = .ok (.invokevirtual 284, 3) := by decide +kernel
theorem dX10_layBoth_38 : decode mX10_layBoth.1 38 = .ok (.ifCond .lt 15, 3) := by decide +kernel
theorem dX10_layBoth_41 : decode mX10_layBoth.1 41 = .ok (.aload_n 0, 1) := by decide +kernel
theorem dX10_layBoth_42 : decode mX10_layBoth.1 42 = .ok (.iload_n 1, 1) := by decide +kernel
theorem dX10_layBoth_43 : decode mX10_layBoth.1 43 = .ok (.bipush 10, 2) := by decide +kernel
theorem dX10_layBoth_45 : decode mX10_layBoth.1 45 = .ok (.irem, 1) := by decide +kernel
theorem dX10_layBoth_46 : decode mX10_layBoth.1 46 = .ok (.iconst 1, 1) := by decide +kernel
theorem dX10_layBoth_47 : decode mX10_layBoth.1 47 = .ok (.invokevirtual 284, 3) := by decide +kernel
theorem dX10_layBoth_50 : decode mX10_layBoth.1 50 = .ok (.ifCond .ge 6, 3) := by decide +kernel
theorem dX10_layBoth_53 : decode mX10_layBoth.1 53 = .ok (.bipush (-12), 2) := by decide +kernel
theorem dX10_layBoth_55 : decode mX10_layBoth.1 55 = .ok (.ireturn, 1) := by decide +kernel
theorem dX10_layBoth_56 : decode mX10_layBoth.1 56 = .ok (.aload_n 0, 1) := by decide +kernel
theorem dX10_layBoth_57 : decode mX10_layBoth.1 57 = .ok (.iload_n 1, 1) := by decide +kernel
theorem dX10_layBoth_58 : decode mX10_layBoth.1 58 = .ok (.bipush 10, 2) := by decide +kernel
theorem dX10_layBoth_60 : decode mX10_layBoth.1 60 = .ok (.idiv, 1) := by decide +kernel
theorem dX10_layBoth_61 : decode mX10_layBoth.1 61 = .ok (.invokevirtual 287, 3) := by decide +kernel
theorem dX10_layBoth_64 : decode mX10_layBoth.1 64 = .ok (.iconst 0, 1) := by decide +kernel
theorem dX10_layBoth_65 : decode mX10_layBoth.1 65 = .ok (.ireturn, 1) := by decide +kernel
theorem X10_layBoth_0 (h : mm_M) (a1 : Int) : mm_ev mX10_layBoth 5 0 [some (vR 47), some (vI a1)] [] h = if 0 ≤ (w32 (a1.tdiv 10)) ∧ (w32 (a1.tdiv 10)) < 6 then if (h 79 (w32 (a1.tdiv 10))) = (-1) then some ([vI (-11)], h) else if 0 ≤ (a1.tmod 10) ∧ (a1.tmod 10) < 6 then if ¬ (h 79 (a1.tmod 10)) = (-1) then (mm_call mX10_rowFault [vR 47, vI (w32 (a1.tdiv 10)), vI 0] h).bind (fun w => mm_ev mX10_layBoth 5 38 [some (vR 47), some (vI a1)] (w.1 ++ []) w.2) else some ([vI (-11)], h) else none else none := (ev_aload_n 1 dX10_layBoth_0 rfl rfl).trans ((ev_getF 4 79 dX10_layBoth_1 fl_10_117 oc47 ak47 rfl rf_47_53 rfl).trans ((ev_iload_n 5 dX10_layBoth_4 rfl rfl).trans ((ev_bipush 7 (v := 10) dX10_layBoth_5 rfl rfl).trans (((ev_idiv 8 dX10_layBoth_7 rfl).trans (if_neg (by decide))).trans ((ev_iald 9 6 dX10_layBoth_8 ak79 an79 rfl).trans (mm_ite ((ev_iconst 10 (v := (-1)) dX10_layBoth_9 rfl rfl).trans ((ev_ic_eq 26 13 dX10_layBoth_10 rfl rfl).trans (mm_ite ((ev_bipush 28 (v := (-11)) dX10_layBoth_26 rfl rfl).trans (ev_iret dX10_layBoth_28 rfl)) ((ev_aload_n 14 dX10_layBoth_13 rfl rfl).trans ((ev_getF 17 79 dX10_layBoth_14 fl_10_117 oc47 ak47 rfl rf_47_53 rfl).trans ((ev_iload_n 18 dX10_layBoth_17 rfl rfl).trans ((ev_bipush 20 (v := 10) dX10_layBoth_18 rfl rfl).trans (((ev_irem 21 dX10_layBoth_20 rfl).trans (if_neg (by decide))).trans ((ev_iald 22 6 dX10_layBoth_21 ak79 an79 rfl).trans (mm_ite ((ev_iconst 23 (v := (-1)) dX10_layBoth_22 rfl rfl).trans ((ev_ic_ne 29 26 dX10_layBoth_23 rfl rfl).trans (mm_ite ((ev_aload_n 30 dX10_layBoth_29 rfl rfl).trans ((ev_iload_n 31 dX10_layBoth_30 rfl rfl).trans ((ev_bipush 33 (v := 10) dX10_layBoth_31 rfl rfl).trans (((ev_idiv 34 dX10_layBoth_33 rfl).trans (if_neg (by decide))).trans ((ev_iconst 35 (v := 0) dX10_layBoth_34 rfl rfl).trans ((ev_callv mX10_rowFault [vR 47, vI (w32 (a1.tdiv 10)), vI 0] [] 38 dX10_layBoth_35 ml_10_284 k181 rfl oc47 ak47 rfl rfl (Nat.le_of_ble_eq_true rfl) (Nat.le_of_ble_eq_true rfl) rfl).trans (if_pos (show 1 < 5 from by decide)))))))) ((ev_bipush 28 (v := (-11)) dX10_layBoth_26 rfl rfl).trans (ev_iret dX10_layBoth_28 rfl))))) (rfl))))))))))) (rfl)))))))
theorem X10_layBoth_c (h : mm_M) (a1 : Int) : mm_call mX10_layBoth [vR 47, vI a1] h = if 0 ≤ (w32 (a1.tdiv 10)) ∧ (w32 (a1.tdiv 10)) < 6 then if (h 79 (w32 (a1.tdiv 10))) = (-1) then some ([vI (-11)], h) else if 0 ≤ (a1.tmod 10) ∧ (a1.tmod 10) < 6 then if ¬ (h 79 (a1.tmod 10)) = (-1) then (mm_call mX10_rowFault [vR 47, vI (w32 (a1.tdiv 10)), vI 0] h).bind (fun w => mm_ev mX10_layBoth 5 38 [some (vR 47), some (vI a1)] (w.1 ++ []) w.2) else some ([vI (-11)], h) else none else none := X10_layBoth_0 h a1
theorem X10_layBoth_38 (h : mm_M) (a1 : Int) (s0 : Int) : mm_ev mX10_layBoth 5 38 [some (vR 47), some (vI a1)] [vI s0] h = if s0 < 0 then some ([vI (-12)], h) else (mm_call mX10_rowFault [vR 47, vI (a1.tmod 10), vI 1] h).bind (fun w => mm_ev mX10_layBoth 5 50 [some (vR 47), some (vI a1)] (w.1 ++ []) w.2) := (ev_if_lt 53 41 dX10_layBoth_38 rfl rfl).trans (mm_ite ((ev_bipush 55 (v := (-12)) dX10_layBoth_53 rfl rfl).trans (ev_iret dX10_layBoth_55 rfl)) ((ev_aload_n 42 dX10_layBoth_41 rfl rfl).trans ((ev_iload_n 43 dX10_layBoth_42 rfl rfl).trans ((ev_bipush 45 (v := 10) dX10_layBoth_43 rfl rfl).trans (((ev_irem 46 dX10_layBoth_45 rfl).trans (if_neg (by decide))).trans ((ev_iconst 47 (v := 1) dX10_layBoth_46 rfl rfl).trans ((ev_callv mX10_rowFault [vR 47, vI (a1.tmod 10), vI 1] [] 50 dX10_layBoth_47 ml_10_284 k181 rfl oc47 ak47 rfl rfl (Nat.le_of_ble_eq_true rfl) (Nat.le_of_ble_eq_true rfl) rfl).trans (if_pos (show 1 < 5 from by decide)))))))))
theorem X10_layBoth_50 (h : mm_M) (a1 : Int) (s0 : Int) : mm_ev mX10_layBoth 5 50 [some (vR 47), some (vI a1)] [vI s0] h = if 0 ≤ s0 then (mm_call mX10_layRoute [vR 47, vI (w32 (a1.tdiv 10))] h).bind (fun w => mm_ev mX10_layBoth 5 64 [some (vR 47), some (vI a1)] (w.1 ++ []) w.2) else some ([vI (-12)], h) := (ev_if_ge 56 53 dX10_layBoth_50 rfl rfl).trans (mm_ite ((ev_aload_n 57 dX10_layBoth_56 rfl rfl).trans ((ev_iload_n 58 dX10_layBoth_57 rfl rfl).trans ((ev_bipush 60 (v := 10) dX10_layBoth_58 rfl rfl).trans (((ev_idiv 61 dX10_layBoth_60 rfl).trans (if_neg (by decide))).trans ((ev_callv mX10_layRoute [vR 47, vI (w32 (a1.tdiv 10))] [] 64 dX10_layBoth_61 ml_10_287 k185 rfl oc47 ak47 rfl rfl (Nat.le_of_ble_eq_true rfl) (Nat.le_of_ble_eq_true rfl) rfl).trans (if_pos (show 4 < 5 from by decide))))))) ((ev_bipush 55 (v := (-12)) dX10_layBoth_53 rfl rfl).trans (ev_iret dX10_layBoth_55 rfl)))
theorem X10_layBoth_64 (h : mm_M) (a1 : Int) : mm_ev mX10_layBoth 5 64 [some (vR 47), some (vI a1)] [] h = some ([vI 0], h) := (ev_iconst 65 (v := 0) dX10_layBoth_64 rfl rfl).trans (ev_iret dX10_layBoth_65 rfl)
theorem dX10_wrongSaid_0 : decode mX10_wrongSaid.1 0 = .ok (.iconst 0, 1) := by decide +kernel
theorem dX10_wrongSaid_1 : decode mX10_wrongSaid.1 1 = .ok (.istore_n 2, 1) := by decide +kernel
theorem dX10_wrongSaid_2 : decode mX10_wrongSaid.1 2 = .ok (.iconst 3, 1) := by decide +kernel
theorem dX10_wrongSaid_3 : decode mX10_wrongSaid.1 3 = .ok (.iload_n 2, 1) := by decide +kernel
theorem dX10_wrongSaid_4 : decode mX10_wrongSaid.1 4 = .ok (.imul, 1) := by decide +kernel
theorem dX10_wrongSaid_5 : decode mX10_wrongSaid.1 5 = .ok (.aload_n 0, 1) := by decide +kernel
theorem dX10_wrongSaid_6 : decode mX10_wrongSaid.1 6 = .ok (.getfield 120, 3) := by decide +kernel
theorem dX10_wrongSaid_9 : decode mX10_wrongSaid.1 9 = .ok (.iload_n 1, 1) := by decide +kernel
theorem dX10_wrongSaid_10 : decode mX10_wrongSaid.1 10 = .ok (.iaload, 1) := by decide +kernel
theorem dX10_wrongSaid_11 : decode mX10_wrongSaid.1 11 = .ok (.if_icmp .ge 97, 3) := by decide +kernel
theorem dX10_wrongSaid_14 : decode mX10_wrongSaid.1 14 = .ok (.iconst 3, 1) := by decide +kernel
theorem dX10_wrongSaid_15 : decode mX10_wrongSaid.1 15 = .ok (.iload_n 2, 1) := by decide +kernel
theorem dX10_wrongSaid_16 : decode mX10_wrongSaid.1 16 = .ok (.imul, 1) := by decide +kernel
theorem dX10_wrongSaid_17 : decode mX10_wrongSaid.1 17 = .ok (.iconst 2, 1) := by decide +kernel
theorem dX10_wrongSaid_18 : decode mX10_wrongSaid.1 18 = .ok (.iadd, 1) := by decide +kernel
theorem dX10_wrongSaid_19 : decode mX10_wrongSaid.1 19 = .ok (.aload_n 0, 1) := by decide +kernel
theorem dX10_wrongSaid_20 : decode mX10_wrongSaid.1 20 = .ok (.getfield 120, 3) := by decide +kernel
theorem dX10_wrongSaid_23 : decode mX10_wrongSaid.1 23 = .ok (.iload_n 1, 1) := by decide +kernel
theorem dX10_wrongSaid_24 : decode mX10_wrongSaid.1 24 = .ok (.iaload, 1) := by decide +kernel
theorem dX10_wrongSaid_25 : decode mX10_wrongSaid.1 25 = .ok (.if_icmp .lt 5, 3) := by decide +kernel
theorem dX10_wrongSaid_28 : decode mX10_wrongSaid.1 28 = .ok (.iload_n 2, 1) := by decide +kernel
theorem dX10_wrongSaid_29 : decode mX10_wrongSaid.1 29 = .ok (.ireturn, 1) := by decide +kernel
theorem dX10_wrongSaid_30 : decode mX10_wrongSaid.1 30 = .ok (.aload_n 0, 1) := by decide +kernel
theorem dX10_wrongSaid_31 : decode mX10_wrongSaid.1 31 = .ok (.iload_n 1, 1) := by decide +kernel
theorem dX10_wrongSaid_32 : decode mX10_wrongSaid.1 32 = .ok (.iconst 3, 1) := by decide +kernel
theorem dX10_wrongSaid_33 : decode mX10_wrongSaid.1 33 = .ok (.iload_n 2, 1) := by decide +kernel
theorem dX10_wrongSaid_34 : decode mX10_wrongSaid.1 34 = .ok (.imul, 1) := by decide +kernel
theorem dX10_wrongSaid_35 : decode mX10_wrongSaid.1 35 = .ok (.invokevirtual 275, 3) := by decide +kernel
theorem dX10_wrongSaid_38 : decode mX10_wrongSaid.1 38 = .ok (.istore_n 3, 1) := by decide +kernel
theorem dX10_wrongSaid_39 : decode mX10_wrongSaid.1 39 = .ok (.aload_n 0, 1) := by decide +kernel
theorem dX10_wrongSaid_40 : decode mX10_wrongSaid.1 40 = .ok (.iload_n 1, 1) := by decide +kernel
theorem dX10_wrongSaid_41 : decode mX10_wrongSaid.1 41 = .ok (.iconst 3, 1) := by decide +kernel
theorem dX10_wrongSaid_42 : decode mX10_wrongSaid.1 42 = .ok (.iload_n 2, 1) := by decide +kernel
theorem dX10_wrongSaid_43 : decode mX10_wrongSaid.1 43 = .ok (.imul, 1) := by decide +kernel
theorem dX10_wrongSaid_44 : decode mX10_wrongSaid.1 44 = .ok (.iconst 1, 1) := by decide +kernel
theorem dX10_wrongSaid_45 : decode mX10_wrongSaid.1 45 = .ok (.iadd, 1) := by decide +kernel
theorem dX10_wrongSaid_46 : decode mX10_wrongSaid.1 46 = .ok (.invokevirtual 275, 3) := by decide +kernel
theorem dX10_wrongSaid_49 : decode mX10_wrongSaid.1 49 = .ok (.istore 4, 2) := by decide +kernel
theorem dX10_wrongSaid_51 : decode mX10_wrongSaid.1 51 = .ok (.aload_n 0, 1) := by decide +kernel
theorem dX10_wrongSaid_52 : decode mX10_wrongSaid.1 52 = .ok (.iload_n 3, 1) := by decide +kernel
theorem dX10_wrongSaid_53 : decode mX10_wrongSaid.1 53 = .ok (.invokevirtual 170, 3) := by decide +kernel
theorem dX10_wrongSaid_56 : decode mX10_wrongSaid.1 56 = .ok (.ifCond .eq 44, 3) := by decide +kernel
theorem dX10_wrongSaid_59 : decode mX10_wrongSaid.1 59 = .ok (.iload 4, 2) := by decide +kernel
theorem dX10_wrongSaid_61 : decode mX10_wrongSaid.1 61 = .ok (.ifCond .lt 39, 3) := by decide +kernel
theorem dX10_wrongSaid_64 : decode mX10_wrongSaid.1 64 = .ok (.aload_n 0, 1) := by decide +kernel
theorem dX10_wrongSaid_65 : decode mX10_wrongSaid.1 65 = .ok (.iload_n 1, 1) := by decide +kernel
theorem dX10_wrongSaid_66 : decode mX10_wrongSaid.1 66 = .ok (.iconst 3, 1) := by decide +kernel
theorem dX10_wrongSaid_67 : decode mX10_wrongSaid.1 67 = .ok (.iload_n 2, 1) := by decide +kernel
theorem dX10_wrongSaid_68 : decode mX10_wrongSaid.1 68 = .ok (.imul, 1) := by decide +kernel
theorem dX10_wrongSaid_69 : decode mX10_wrongSaid.1 69 = .ok (.iconst 2, 1) := by decide +kernel
theorem dX10_wrongSaid_70 : decode mX10_wrongSaid.1 70 = .ok (.iadd, 1) := by decide +kernel
theorem dX10_wrongSaid_71 : decode mX10_wrongSaid.1 71 = .ok (.invokevirtual 275, 3) := by decide +kernel
theorem dX10_wrongSaid_74 : decode mX10_wrongSaid.1 74 = .ok (.invokestatic 173, 3) := by decide +kernel
theorem dX10_wrongSaid_77 : decode mX10_wrongSaid.1 77 = .ok (.ifCond .eq 23, 3) := by decide +kernel
theorem dX10_wrongSaid_80 : decode mX10_wrongSaid.1 80 = .ok (.aload_n 0, 1) := by decide +kernel
theorem dX10_wrongSaid_81 : decode mX10_wrongSaid.1 81 = .ok (.iload_n 3, 1) := by decide +kernel
theorem dX10_wrongSaid_82 : decode mX10_wrongSaid.1 82 = .ok (.iload 4, 2) := by decide +kernel
theorem dX10_wrongSaid_84 : decode mX10_wrongSaid.1 84 = .ok (.aload_n 0, 1) := by decide +kernel
theorem dX10_wrongSaid_85 : decode mX10_wrongSaid.1 85 = .ok (.iload_n 1, 1) := by decide +kernel
theorem dX10_wrongSaid_86 : decode mX10_wrongSaid.1 86 = .ok (.iconst 3, 1) := by decide +kernel
theorem dX10_wrongSaid_87 : decode mX10_wrongSaid.1 87 = .ok (.iload_n 2, 1) := by decide +kernel
theorem dX10_wrongSaid_88 : decode mX10_wrongSaid.1 88 = .ok (.imul, 1) := by decide +kernel
theorem dX10_wrongSaid_89 : decode mX10_wrongSaid.1 89 = .ok (.iconst 2, 1) := by decide +kernel
theorem dX10_wrongSaid_90 : decode mX10_wrongSaid.1 90 = .ok (.iadd, 1) := by decide +kernel
theorem dX10_wrongSaid_91 : decode mX10_wrongSaid.1 91 = .ok (.invokevirtual 275, 3) := by decide +kernel
theorem dX10_wrongSaid_94 : decode mX10_wrongSaid.1 94 = .ok (.invokevirtual 336, 3) := by decide +kernel
theorem dX10_wrongSaid_97 : decode mX10_wrongSaid.1 97 = .ok (.ifCond .ne 5, 3) := by decide +kernel
theorem dX10_wrongSaid_100 : decode mX10_wrongSaid.1 100 = .ok (.iload_n 2, 1) := by decide +kernel
theorem dX10_wrongSaid_101 : decode mX10_wrongSaid.1 101 = .ok (.ireturn, 1) := by decide +kernel
theorem dX10_wrongSaid_102 : decode mX10_wrongSaid.1 102 = .ok (.iinc 2 1, 3) := by decide +kernel
theorem dX10_wrongSaid_105 : decode mX10_wrongSaid.1 105 = .ok (.goto (-103), 3) := by decide +kernel
theorem dX10_wrongSaid_108 : decode mX10_wrongSaid.1 108 = .ok (.bipush (-2), 2) := by decide +kernel
theorem dX10_wrongSaid_110 : decode mX10_wrongSaid.1 110 = .ok (.ireturn, 1) := by decide +kernel
theorem X10_wrongSaid_0 (h : mm_M) (a1 : Int) : mm_ev mX10_wrongSaid 4 0 [some (vR 47), some (vI a1), none, none, none] [] h = mm_ev mX10_wrongSaid 4 2 [some (vR 47), some (vI a1), some (vI 0), none, none] [] h := (ev_iconst 1 (v := 0) dX10_wrongSaid_0 rfl rfl).trans (ev_istore_n 2 [some (vR 47), some (vI a1), some (vI 0), none, none] dX10_wrongSaid_1 rfl rfl)
theorem X10_wrongSaid_c (h : mm_M) (a1 : Int) : mm_call mX10_wrongSaid [vR 47, vI a1] h = mm_ev mX10_wrongSaid 4 2 [some (vR 47), some (vI a1), some (vI 0), none, none] [] h := X10_wrongSaid_0 h a1
theorem X10_wrongSaid_2 (h : mm_M) (a1 : Int) (a2 : Int) (o3 : Option mm_V) (o4 : Option mm_V) : mm_ev mX10_wrongSaid 4 2 [some (vR 47), some (vI a1), some (vI a2), o3, o4] [] h = if 0 ≤ a1 ∧ a1 < 6 then if (h 80 a1) ≤ (w32 (3 * a2)) then some ([vI (-2)], h) else if 0 ≤ a1 ∧ a1 < 6 then if (w32 ((w32 (3 * a2)) + 2)) < (h 80 a1) then (mm_call mX10_at [vR 47, vI a1, vI (w32 (3 * a2))] h).bind (fun w => mm_ev mX10_wrongSaid 4 38 [some (vR 47), some (vI a1), some (vI a2), o3, o4] (w.1 ++ []) w.2) else some ([vI a2], h) else none else none := (ev_iconst 3 (v := 3) dX10_wrongSaid_2 rfl rfl).trans ((ev_iload_n 4 dX10_wrongSaid_3 rfl rfl).trans ((ev_imul 5 dX10_wrongSaid_4 rfl).trans ((ev_aload_n 6 dX10_wrongSaid_5 rfl rfl).trans ((ev_getF 9 80 dX10_wrongSaid_6 fl_10_120 oc47 ak47 rfl rf_47_54 rfl).trans ((ev_iload_n 10 dX10_wrongSaid_9 rfl rfl).trans ((ev_iald 11 6 dX10_wrongSaid_10 ak80 an80 rfl).trans (mm_ite ((ev_ic_ge 108 14 dX10_wrongSaid_11 rfl rfl).trans (mm_ite ((ev_bipush 110 (v := (-2)) dX10_wrongSaid_108 rfl rfl).trans (ev_iret dX10_wrongSaid_110 rfl)) ((ev_iconst 15 (v := 3) dX10_wrongSaid_14 rfl rfl).trans ((ev_iload_n 16 dX10_wrongSaid_15 rfl rfl).trans ((ev_imul 17 dX10_wrongSaid_16 rfl).trans ((ev_iconst 18 (v := 2) dX10_wrongSaid_17 rfl rfl).trans ((ev_iadd 19 dX10_wrongSaid_18 rfl).trans ((ev_aload_n 20 dX10_wrongSaid_19 rfl rfl).trans ((ev_getF 23 80 dX10_wrongSaid_20 fl_10_120 oc47 ak47 rfl rf_47_54 rfl).trans ((ev_iload_n 24 dX10_wrongSaid_23 rfl rfl).trans ((ev_iald 25 6 dX10_wrongSaid_24 ak80 an80 rfl).trans (mm_ite ((ev_ic_lt 30 28 dX10_wrongSaid_25 rfl rfl).trans (mm_ite ((ev_aload_n 31 dX10_wrongSaid_30 rfl rfl).trans ((ev_iload_n 32 dX10_wrongSaid_31 rfl rfl).trans ((ev_iconst 33 (v := 3) dX10_wrongSaid_32 rfl rfl).trans ((ev_iload_n 34 dX10_wrongSaid_33 rfl rfl).trans ((ev_imul 35 dX10_wrongSaid_34 rfl).trans ((ev_callv mX10_at [vR 47, vI a1, vI (w32 (3 * a2))] [] 38 dX10_wrongSaid_35 ml_10_275 k182 rfl oc47 ak47 rfl rfl (Nat.le_of_ble_eq_true rfl) (Nat.le_of_ble_eq_true rfl) rfl).trans (if_pos (show 1 < 4 from by decide)))))))) ((ev_iload_n 29 dX10_wrongSaid_28 rfl rfl).trans (ev_iret dX10_wrongSaid_29 rfl)))) (rfl))))))))))))) (rfl))))))))
theorem X10_wrongSaid_38 (h : mm_M) (a1 : Int) (a2 : Int) (o3 : Option mm_V) (o4 : Option mm_V) (s0 : Int) : mm_ev mX10_wrongSaid 4 38 [some (vR 47), some (vI a1), some (vI a2), o3, o4] [vI s0] h = (mm_call mX10_at [vR 47, vI a1, vI (w32 ((w32 (3 * a2)) + 1))] h).bind (fun w => mm_ev mX10_wrongSaid 4 49 [some (vR 47), some (vI a1), some (vI a2), some (vI s0), o4] (w.1 ++ []) w.2) := (ev_istore_n 39 [some (vR 47), some (vI a1), some (vI a2), some (vI s0), o4] dX10_wrongSaid_38 rfl rfl).trans ((ev_aload_n 40 dX10_wrongSaid_39 rfl rfl).trans ((ev_iload_n 41 dX10_wrongSaid_40 rfl rfl).trans ((ev_iconst 42 (v := 3) dX10_wrongSaid_41 rfl rfl).trans ((ev_iload_n 43 dX10_wrongSaid_42 rfl rfl).trans ((ev_imul 44 dX10_wrongSaid_43 rfl).trans ((ev_iconst 45 (v := 1) dX10_wrongSaid_44 rfl rfl).trans ((ev_iadd 46 dX10_wrongSaid_45 rfl).trans ((ev_callv mX10_at [vR 47, vI a1, vI (w32 ((w32 (3 * a2)) + 1))] [] 49 dX10_wrongSaid_46 ml_10_275 k182 rfl oc47 ak47 rfl rfl (Nat.le_of_ble_eq_true rfl) (Nat.le_of_ble_eq_true rfl) rfl).trans (if_pos (show 1 < 4 from by decide))))))))))
theorem X10_wrongSaid_49 (h : mm_M) (a1 : Int) (a2 : Int) (a3 : Int) (o4 : Option mm_V) (s0 : Int) : mm_ev mX10_wrongSaid 4 49 [some (vR 47), some (vI a1), some (vI a2), some (vI a3), o4] [vI s0] h = (mm_call mX10_isPost [vR 47, vI a3] h).bind (fun w => mm_ev mX10_wrongSaid 4 56 [some (vR 47), some (vI a1), some (vI a2), some (vI a3), some (vI s0)] (w.1 ++ []) w.2) := (ev_istore 51 [some (vR 47), some (vI a1), some (vI a2), some (vI a3), some (vI s0)] dX10_wrongSaid_49 rfl rfl).trans ((ev_aload_n 52 dX10_wrongSaid_51 rfl rfl).trans ((ev_iload_n 53 dX10_wrongSaid_52 rfl rfl).trans ((ev_callv mX10_isPost [vR 47, vI a3] [] 56 dX10_wrongSaid_53 ml_10_170 k145 rfl oc47 ak47 rfl rfl (Nat.le_of_ble_eq_true rfl) (Nat.le_of_ble_eq_true rfl) rfl).trans (if_pos (show 2 < 4 from by decide)))))
theorem X10_wrongSaid_56 (h : mm_M) (a1 : Int) (a2 : Int) (a3 : Int) (a4 : Int) (s0 : Int) : mm_ev mX10_wrongSaid 4 56 [some (vR 47), some (vI a1), some (vI a2), some (vI a3), some (vI a4)] [vI s0] h = if s0 = 0 then some ([vI a2], h) else if a4 < 0 then some ([vI a2], h) else (mm_call mX10_at [vR 47, vI a1, vI (w32 ((w32 (3 * a2)) + 2))] h).bind (fun w => mm_ev mX10_wrongSaid 4 74 [some (vR 47), some (vI a1), some (vI a2), some (vI a3), some (vI a4)] (w.1 ++ []) w.2) := (ev_if_eq 100 59 dX10_wrongSaid_56 rfl rfl).trans (mm_ite ((ev_iload_n 101 dX10_wrongSaid_100 rfl rfl).trans (ev_iret dX10_wrongSaid_101 rfl)) ((ev_iload 61 dX10_wrongSaid_59 rfl rfl).trans ((ev_if_lt 100 64 dX10_wrongSaid_61 rfl rfl).trans (mm_ite ((ev_iload_n 101 dX10_wrongSaid_100 rfl rfl).trans (ev_iret dX10_wrongSaid_101 rfl)) ((ev_aload_n 65 dX10_wrongSaid_64 rfl rfl).trans ((ev_iload_n 66 dX10_wrongSaid_65 rfl rfl).trans ((ev_iconst 67 (v := 3) dX10_wrongSaid_66 rfl rfl).trans ((ev_iload_n 68 dX10_wrongSaid_67 rfl rfl).trans ((ev_imul 69 dX10_wrongSaid_68 rfl).trans ((ev_iconst 70 (v := 2) dX10_wrongSaid_69 rfl rfl).trans ((ev_iadd 71 dX10_wrongSaid_70 rfl).trans ((ev_callv mX10_at [vR 47, vI a1, vI (w32 ((w32 (3 * a2)) + 2))] [] 74 dX10_wrongSaid_71 ml_10_275 k182 rfl oc47 ak47 rfl rfl (Nat.le_of_ble_eq_true rfl) (Nat.le_of_ble_eq_true rfl) rfl).trans (if_pos (show 1 < 4 from by decide))))))))))))))
theorem X10_wrongSaid_74 (h : mm_M) (a1 : Int) (a2 : Int) (a3 : Int) (a4 : Int) (s0 : Int) : mm_ev mX10_wrongSaid 4 74 [some (vR 47), some (vI a1), some (vI a2), some (vI a3), some (vI a4)] [vI s0] h = (mm_call mX10_isWord [vI s0] h).bind (fun w => mm_ev mX10_wrongSaid 4 77 [some (vR 47), some (vI a1), some (vI a2), some (vI a3), some (vI a4)] (w.1 ++ []) w.2) := (ev_calls mX10_isWord [vI s0] [] 77 dX10_wrongSaid_74 ml_10_173 k146 rfl rfl rfl (Nat.le_of_ble_eq_true rfl) (Nat.le_of_ble_eq_true rfl) rfl).trans (if_pos (show 2 < 4 from by decide))
theorem X10_wrongSaid_77 (h : mm_M) (a1 : Int) (a2 : Int) (a3 : Int) (a4 : Int) (s0 : Int) : mm_ev mX10_wrongSaid 4 77 [some (vR 47), some (vI a1), some (vI a2), some (vI a3), some (vI a4)] [vI s0] h = if s0 = 0 then some ([vI a2], h) else (mm_call mX10_at [vR 47, vI a1, vI (w32 ((w32 (3 * a2)) + 2))] h).bind (fun w => mm_ev mX10_wrongSaid 4 94 [some (vR 47), some (vI a1), some (vI a2), some (vI a3), some (vI a4)] (w.1 ++ [vI a4, vI a3, vR 47]) w.2) := (ev_if_eq 100 80 dX10_wrongSaid_77 rfl rfl).trans (mm_ite ((ev_iload_n 101 dX10_wrongSaid_100 rfl rfl).trans (ev_iret dX10_wrongSaid_101 rfl)) ((ev_aload_n 81 dX10_wrongSaid_80 rfl rfl).trans ((ev_iload_n 82 dX10_wrongSaid_81 rfl rfl).trans ((ev_iload 84 dX10_wrongSaid_82 rfl rfl).trans ((ev_aload_n 85 dX10_wrongSaid_84 rfl rfl).trans ((ev_iload_n 86 dX10_wrongSaid_85 rfl rfl).trans ((ev_iconst 87 (v := 3) dX10_wrongSaid_86 rfl rfl).trans ((ev_iload_n 88 dX10_wrongSaid_87 rfl rfl).trans ((ev_imul 89 dX10_wrongSaid_88 rfl).trans ((ev_iconst 90 (v := 2) dX10_wrongSaid_89 rfl rfl).trans ((ev_iadd 91 dX10_wrongSaid_90 rfl).trans ((ev_callv mX10_at [vR 47, vI a1, vI (w32 ((w32 (3 * a2)) + 2))] [vI a4, vI a3, vR 47] 94 dX10_wrongSaid_91 ml_10_275 k182 rfl oc47 ak47 rfl rfl (Nat.le_of_ble_eq_true rfl) (Nat.le_of_ble_eq_true rfl) rfl).trans (if_pos (show 1 < 4 from by decide))))))))))))))
theorem X10_wrongSaid_94 (h : mm_M) (a1 : Int) (a2 : Int) (a3 : Int) (a4 : Int) (s0 : Int) (s1 : Int) (s2 : Int) : mm_ev mX10_wrongSaid 4 94 [some (vR 47), some (vI a1), some (vI a2), some (vI a3), some (vI a4)] [vI s0, vI s1, vI s2, vR 47] h = (mm_call mX10_isLetIn [vR 47, vI s2, vI s1, vI s0] h).bind (fun w => mm_ev mX10_wrongSaid 4 97 [some (vR 47), some (vI a1), some (vI a2), some (vI a3), some (vI a4)] (w.1 ++ []) w.2) := (ev_callv mX10_isLetIn [vR 47, vI s2, vI s1, vI s0] [] 97 dX10_wrongSaid_94 ml_10_336 k200 rfl oc47 ak47 rfl rfl (Nat.le_of_ble_eq_true rfl) (Nat.le_of_ble_eq_true rfl) rfl).trans (if_pos (show 3 < 4 from by decide))
theorem X10_wrongSaid_97 (h : mm_M) (a1 : Int) (a2 : Int) (a3 : Int) (a4 : Int) (s0 : Int) : mm_ev mX10_wrongSaid 4 97 [some (vR 47), some (vI a1), some (vI a2), some (vI a3), some (vI a4)] [vI s0] h = if ¬ s0 = 0 then mm_ev mX10_wrongSaid 4 2 [some (vR 47), some (vI a1), some (vI (w32 (a2 + 1))), some (vI a3), some (vI a4)] [] h else some ([vI a2], h) := (ev_if_ne 102 100 dX10_wrongSaid_97 rfl rfl).trans (mm_ite ((ev_iinc 105 [some (vR 47), some (vI a1), some (vI (w32 (a2 + 1))), some (vI a3), some (vI a4)] dX10_wrongSaid_102 rfl rfl rfl).trans (ev_goto 2 dX10_wrongSaid_105 rfl)) ((ev_iload_n 101 dX10_wrongSaid_100 rfl rfl).trans (ev_iret dX10_wrongSaid_101 rfl)))
