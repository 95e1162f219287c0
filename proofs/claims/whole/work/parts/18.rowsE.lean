/-! rows of the methods, by program (wip/whole/gen13.py): X9 -/
theorem dX9_count_0 : decode mX9_count.1 0 = .ok (.iload_n 1, 1) := by decide +kernel
theorem dX9_count_1 : decode mX9_count.1 1 = .ok (.tableswitch 75 0 4 #[35, 43, 51, 59, 67], 35) := by decide +kernel
theorem dX9_count_36 : decode mX9_count.1 36 = .ok (.aload_n 0, 1) := by decide +kernel
theorem dX9_count_37 : decode mX9_count.1 37 = .ok (.getfield 10, 3) := by decide +kernel
theorem dX9_count_40 : decode mX9_count.1 40 = .ok (.getfield 79, 3) := by decide +kernel
theorem dX9_count_43 : decode mX9_count.1 43 = .ok (.ireturn, 1) := by decide +kernel
theorem dX9_count_44 : decode mX9_count.1 44 = .ok (.aload_n 0, 1) := by decide +kernel
theorem dX9_count_45 : decode mX9_count.1 45 = .ok (.getfield 19, 3) := by decide +kernel
theorem dX9_count_48 : decode mX9_count.1 48 = .ok (.getfield 370, 3) := by decide +kernel
theorem dX9_count_51 : decode mX9_count.1 51 = .ok (.ireturn, 1) := by decide +kernel
theorem dX9_count_52 : decode mX9_count.1 52 = .ok (.aload_n 0, 1) := by decide +kernel
theorem dX9_count_53 : decode mX9_count.1 53 = .ok (.getfield 10, 3) := by decide +kernel
theorem dX9_count_56 : decode mX9_count.1 56 = .ok (.getfield 373, 3) := by decide +kernel
theorem dX9_count_59 : decode mX9_count.1 59 = .ok (.ireturn, 1) := by decide +kernel
theorem dX9_count_60 : decode mX9_count.1 60 = .ok (.aload_n 0, 1) := by decide +kernel
theorem dX9_count_61 : decode mX9_count.1 61 = .ok (.getfield 71, 3) := by decide +kernel
theorem dX9_count_64 : decode mX9_count.1 64 = .ok (.getfield 333, 3) := by decide +kernel
theorem dX9_count_67 : decode mX9_count.1 67 = .ok (.ireturn, 1) := by decide +kernel
theorem dX9_count_68 : decode mX9_count.1 68 = .ok (.aload_n 0, 1) := by decide +kernel
theorem dX9_count_69 : decode mX9_count.1 69 = .ok (.getfield 71, 3) := by decide +kernel
theorem dX9_count_72 : decode mX9_count.1 72 = .ok (.getfield 324, 3) := by decide +kernel
theorem dX9_count_75 : decode mX9_count.1 75 = .ok (.ireturn, 1) := by decide +kernel
theorem dX9_count_76 : decode mX9_count.1 76 = .ok (.iconst (-1), 1) := by decide +kernel
theorem dX9_count_77 : decode mX9_count.1 77 = .ok (.ireturn, 1) := by decide +kernel
theorem X9_count_0 (h : mm_M) (a1 : Int) : mm_ev mX9_count 1 0 [some (vR 0), some (vI a1)] [] h = if a1 = 0 then some ([vI (h 1 1)], h) else if a1 = 1 then some ([vI (h 2 0)], h) else if a1 = 2 then some ([vI (h 1 2)], h) else if a1 = 3 then some ([vI (h 10 0)], h) else if a1 = 4 then some ([vI (h 10 1)], h) else some ([vI (-1)], h) := (ev_iload_n 1 dX9_count_0 rfl rfl).trans (ev_tabC (k := 0) dX9_count_1 (fun z0 => (ev_tabK 36 (k := 0) dX9_count_1 z0 (by decide) rfl rfl).trans ((ev_aload_n 37 dX9_count_36 rfl rfl).trans ((ev_getF 40 1 dX9_count_37 fl_9_10 oc0 ak0 rfl rf_0_0 rfl).trans ((ev_getI 43 1 dX9_count_40 fl_9_79 oc1 ak1 (by decide) rfl rfl).trans (ev_iret dX9_count_43 rfl))))) (fun n0 => ev_tabC (k := 1) dX9_count_1 (fun z1 => (ev_tabK 44 (k := 1) dX9_count_1 z1 (by decide) rfl rfl).trans ((ev_aload_n 45 dX9_count_44 rfl rfl).trans ((ev_getF 48 2 dX9_count_45 fl_9_19 oc0 ak0 rfl rf_0_1 rfl).trans ((ev_getI 51 0 dX9_count_48 fl_9_370 oc2 ak2 (by decide) rfl rfl).trans (ev_iret dX9_count_51 rfl))))) (fun n1 => ev_tabC (k := 2) dX9_count_1 (fun z2 => (ev_tabK 52 (k := 2) dX9_count_1 z2 (by decide) rfl rfl).trans ((ev_aload_n 53 dX9_count_52 rfl rfl).trans ((ev_getF 56 1 dX9_count_53 fl_9_10 oc0 ak0 rfl rf_0_0 rfl).trans ((ev_getI 59 2 dX9_count_56 fl_9_373 oc1 ak1 (by decide) rfl rfl).trans (ev_iret dX9_count_59 rfl))))) (fun n2 => ev_tabC (k := 3) dX9_count_1 (fun z3 => (ev_tabK 60 (k := 3) dX9_count_1 z3 (by decide) rfl rfl).trans ((ev_aload_n 61 dX9_count_60 rfl rfl).trans ((ev_getF 64 10 dX9_count_61 fl_9_71 oc0 ak0 rfl rf_0_9 rfl).trans ((ev_getI 67 0 dX9_count_64 fl_9_333 oc10 ak10 (by decide) rfl rfl).trans (ev_iret dX9_count_67 rfl))))) (fun n3 => ev_tabC (k := 4) dX9_count_1 (fun z4 => (ev_tabK 68 (k := 4) dX9_count_1 z4 (by decide) rfl rfl).trans ((ev_aload_n 69 dX9_count_68 rfl rfl).trans ((ev_getF 72 10 dX9_count_69 fl_9_71 oc0 ak0 rfl rf_0_9 rfl).trans ((ev_getI 75 1 dX9_count_72 fl_9_324 oc10 ak10 (by decide) rfl rfl).trans (ev_iret dX9_count_75 rfl))))) (fun n4 => (ev_tabD 76 dX9_count_1 (by omega) rfl).trans ((ev_iconst 77 (v := (-1)) dX9_count_76 rfl rfl).trans (ev_iret dX9_count_77 rfl))))))))
theorem X9_count_c (h : mm_M) (a1 : Int) : mm_call mX9_count [vR 0, vI a1] h = if a1 = 0 then some ([vI (h 1 1)], h) else if a1 = 1 then some ([vI (h 2 0)], h) else if a1 = 2 then some ([vI (h 1 2)], h) else if a1 = 3 then some ([vI (h 10 0)], h) else if a1 = 4 then some ([vI (h 10 1)], h) else some ([vI (-1)], h) := X9_count_0 h a1
theorem dX9_taken_0 : decode mX9_taken.1 0 = .ok (.aload_n 0, 1) := by decide +kernel
theorem dX9_taken_1 : decode mX9_taken.1 1 = .ok (.getfield 26, 3) := by decide +kernel
theorem dX9_taken_4 : decode mX9_taken.1 4 = .ok (.iload_n 1, 1) := by decide +kernel
theorem dX9_taken_5 : decode mX9_taken.1 5 = .ok (.invokevirtual 330, 3) := by decide +kernel
theorem dX9_taken_8 : decode mX9_taken.1 8 = .ok (.ifCond .eq 13, 3) := by decide +kernel
theorem dX9_taken_11 : decode mX9_taken.1 11 = .ok (.iload_n 2, 1) := by decide +kernel
theorem dX9_taken_12 : decode mX9_taken.1 12 = .ok (.ifCond .lt 9, 3) := by decide +kernel
theorem dX9_taken_15 : decode mX9_taken.1 15 = .ok (.iload_n 2, 1) := by decide +kernel
theorem dX9_taken_16 : decode mX9_taken.1 16 = .ok (.bipush 8, 2) := by decide +kernel
theorem dX9_taken_18 : decode mX9_taken.1 18 = .ok (.if_icmp .lt 5, 3) := by decide +kernel
theorem dX9_taken_21 : decode mX9_taken.1 21 = .ok (.iconst (-1), 1) := by decide +kernel
theorem dX9_taken_22 : decode mX9_taken.1 22 = .ok (.ireturn, 1) := by decide +kernel
theorem dX9_taken_23 : decode mX9_taken.1 23 = .ok (.aload_n 0, 1) := by decide +kernel
theorem dX9_taken_24 : decode mX9_taken.1 24 = .ok (.getfield 26, 3) := by decide +kernel
theorem dX9_taken_27 : decode mX9_taken.1 27 = .ok (.getfield 358, 3) := by decide +kernel
theorem dX9_taken_30 : decode mX9_taken.1 30 = .ok (.iload_n 1, 1) := by decide +kernel
theorem dX9_taken_31 : decode mX9_taken.1 31 = .ok (.iaload, 1) := by decide +kernel
theorem dX9_taken_32 : decode mX9_taken.1 32 = .ok (.iconst (-1), 1) := by decide +kernel
theorem dX9_taken_33 : decode mX9_taken.1 33 = .ok (.if_icmp .ne 6, 3) := by decide +kernel
theorem dX9_taken_36 : decode mX9_taken.1 36 = .ok (.bipush (-11), 2) := by decide +kernel
theorem dX9_taken_38 : decode mX9_taken.1 38 = .ok (.ireturn, 1) := by decide +kernel
theorem dX9_taken_39 : decode mX9_taken.1 39 = .ok (.aload_n 0, 1) := by decide +kernel
theorem dX9_taken_40 : decode mX9_taken.1 40 = .ok (.getfield 26, 3) := by decide +kernel
theorem dX9_taken_43 : decode mX9_taken.1 43 = .ok (.getfield 358, 3) := by decide +kernel
theorem dX9_taken_46 : decode mX9_taken.1 46 = .ok (.iload_n 1, 1) := by decide +kernel
theorem dX9_taken_47 : decode mX9_taken.1 47 = .ok (.iaload, 1) := by decide +kernel
theorem dX9_taken_48 : decode mX9_taken.1 48 = .ok (.bipush (-2), 2) := by decide +kernel
theorem dX9_taken_50 : decode mX9_taken.1 50 = .ok (.if_icmp .ne 22, 3) := by decide +kernel
theorem dX9_taken_53 : decode mX9_taken.1 53 = .ok (.aload_n 0, 1) := by decide +kernel
theorem dX9_taken_54 : decode mX9_taken.1 54 = .ok (.getfield 71, 3) := by decide +kernel
theorem dX9_taken_57 : decode mX9_taken.1 57 = .ok (.aload_n 0, 1) := by decide +kernel
theorem dX9_taken_58 : decode mX9_taken.1 58 = .ok (.getfield 26, 3) := by decide +kernel
theorem dX9_taken_61 : decode mX9_taken.1 61 = .ok (.getfield 361, 3) := by decide +kernel
theorem dX9_taken_64 : decode mX9_taken.1 64 = .ok (.iload_n 1, 1) := by decide +kernel
theorem dX9_taken_65 : decode mX9_taken.1 65 = .ok (.iaload, 1) := by decide +kernel
theorem dX9_taken_66 : decode mX9_taken.1 66 = .ok (.invokevirtual 364, 3) := by decide +kernel
theorem dX9_taken_69 : decode mX9_taken.1 69 = .ok (.goto 4, 3) := by decide +kernel
theorem dX9_taken_72 : decode mX9_taken.1 72 = .ok (.iconst (-1), 1) := by decide +kernel
theorem dX9_taken_73 : decode mX9_taken.1 73 = .ok (.istore_n 3, 1) := by decide +kernel
theorem dX9_taken_74 : decode mX9_taken.1 74 = .ok (.iload_n 3, 1) := by decide +kernel
theorem dX9_taken_75 : decode mX9_taken.1 75 = .ok (.iload_n 2, 1) := by decide +kernel
theorem dX9_taken_76 : decode mX9_taken.1 76 = .ok (.invokestatic 367, 3) := by decide +kernel
theorem dX9_taken_79 : decode mX9_taken.1 79 = .ok (.ifCond .eq 7, 3) := by decide +kernel
theorem dX9_taken_82 : decode mX9_taken.1 82 = .ok (.iload_n 3, 1) := by decide +kernel
theorem dX9_taken_83 : decode mX9_taken.1 83 = .ok (.goto 5, 3) := by decide +kernel
theorem dX9_taken_86 : decode mX9_taken.1 86 = .ok (.bipush (-12), 2) := by decide +kernel
theorem dX9_taken_88 : decode mX9_taken.1 88 = .ok (.ireturn, 1) := by decide +kernel
theorem X9_taken_0 (h : mm_M) (a1 : Int) (a2 : Int) : mm_ev mX9_taken 2 0 [some (vR 0), some (vI a1), some (vI a2), none] [] h = (mm_call mX7_isShelf [vR 3, vI a1] h).bind (fun w => mm_ev mX9_taken 2 8 [some (vR 0), some (vI a1), some (vI a2), none] (w.1 ++ []) w.2) := (ev_aload_n 1 dX9_taken_0 rfl rfl).trans ((ev_getF 4 3 dX9_taken_1 fl_9_26 oc0 ak0 rfl rf_0_2 rfl).trans ((ev_iload_n 5 dX9_taken_4 rfl rfl).trans ((ev_callv mX7_isShelf [vR 3, vI a1] [] 8 dX9_taken_5 ml_9_330 k64 rfl oc3 ak3 rfl rfl (Nat.le_of_ble_eq_true rfl) (Nat.le_of_ble_eq_true rfl) rfl).trans (if_pos (show 1 < 2 from by decide)))))
theorem X9_taken_c (h : mm_M) (a1 : Int) (a2 : Int) : mm_call mX9_taken [vR 0, vI a1, vI a2] h = (mm_call mX7_isShelf [vR 3, vI a1] h).bind (fun w => mm_ev mX9_taken 2 8 [some (vR 0), some (vI a1), some (vI a2), none] (w.1 ++ []) w.2) := X9_taken_0 h a1 a2
theorem X9_taken_8 (h : mm_M) (a1 : Int) (a2 : Int) (s0 : Int) : mm_ev mX9_taken 2 8 [some (vR 0), some (vI a1), some (vI a2), none] [vI s0] h = if s0 = 0 then some ([vI (-1)], h) else if a2 < 0 then some ([vI (-1)], h) else if a2 < 8 then if 0 ≤ a1 ∧ a1 < 6 then if ¬ (h 19 a1) = (-1) then if 0 ≤ a1 ∧ a1 < 6 then if ¬ (h 19 a1) = (-2) then (mm_call mX0_isUnder [vI (-1), vI a2] h).bind (fun w => mm_ev mX9_taken 2 79 [some (vR 0), some (vI a1), some (vI a2), some (vI (-1))] (w.1 ++ []) w.2) else if 0 ≤ a1 ∧ a1 < 6 then (mm_call mX0_kindOf [vR 10, vI (h 21 a1)] h).bind (fun w => mm_ev mX9_taken 2 69 [some (vR 0), some (vI a1), some (vI a2), none] (w.1 ++ []) w.2) else none else none else some ([vI (-11)], h) else none else some ([vI (-1)], h) := (ev_if_eq 21 11 dX9_taken_8 rfl rfl).trans (mm_ite ((ev_iconst 22 (v := (-1)) dX9_taken_21 rfl rfl).trans (ev_iret dX9_taken_22 rfl)) ((ev_iload_n 12 dX9_taken_11 rfl rfl).trans ((ev_if_lt 21 15 dX9_taken_12 rfl rfl).trans (mm_ite ((ev_iconst 22 (v := (-1)) dX9_taken_21 rfl rfl).trans (ev_iret dX9_taken_22 rfl)) ((ev_iload_n 16 dX9_taken_15 rfl rfl).trans ((ev_bipush 18 (v := 8) dX9_taken_16 rfl rfl).trans ((ev_ic_lt 23 21 dX9_taken_18 rfl rfl).trans (mm_ite ((ev_aload_n 24 dX9_taken_23 rfl rfl).trans ((ev_getF 27 3 dX9_taken_24 fl_9_26 oc0 ak0 rfl rf_0_2 rfl).trans ((ev_getF 30 19 dX9_taken_27 fl_9_358 oc3 ak3 rfl rf_3_0 rfl).trans ((ev_iload_n 31 dX9_taken_30 rfl rfl).trans ((ev_iald 32 6 dX9_taken_31 ak19 an19 rfl).trans (mm_ite ((ev_iconst 33 (v := (-1)) dX9_taken_32 rfl rfl).trans ((ev_ic_ne 39 36 dX9_taken_33 rfl rfl).trans (mm_ite ((ev_aload_n 40 dX9_taken_39 rfl rfl).trans ((ev_getF 43 3 dX9_taken_40 fl_9_26 oc0 ak0 rfl rf_0_2 rfl).trans ((ev_getF 46 19 dX9_taken_43 fl_9_358 oc3 ak3 rfl rf_3_0 rfl).trans ((ev_iload_n 47 dX9_taken_46 rfl rfl).trans ((ev_iald 48 6 dX9_taken_47 ak19 an19 rfl).trans (mm_ite ((ev_bipush 50 (v := (-2)) dX9_taken_48 rfl rfl).trans ((ev_ic_ne 72 53 dX9_taken_50 rfl rfl).trans (mm_ite ((ev_iconst 73 (v := (-1)) dX9_taken_72 rfl rfl).trans ((ev_istore_n 74 [some (vR 0), some (vI a1), some (vI a2), some (vI (-1))] dX9_taken_73 rfl rfl).trans ((ev_iload_n 75 dX9_taken_74 rfl rfl).trans ((ev_iload_n 76 dX9_taken_75 rfl rfl).trans ((ev_calls mX0_isUnder [vI (-1), vI a2] [] 79 dX9_taken_76 ml_9_367 k2 rfl rfl rfl (Nat.le_of_ble_eq_true rfl) (Nat.le_of_ble_eq_true rfl) rfl).trans (if_pos (show 1 < 2 from by decide))))))) ((ev_aload_n 54 dX9_taken_53 rfl rfl).trans ((ev_getF 57 10 dX9_taken_54 fl_9_71 oc0 ak0 rfl rf_0_9 rfl).trans ((ev_aload_n 58 dX9_taken_57 rfl rfl).trans ((ev_getF 61 3 dX9_taken_58 fl_9_26 oc0 ak0 rfl rf_0_2 rfl).trans ((ev_getF 64 21 dX9_taken_61 fl_9_361 oc3 ak3 rfl rf_3_2 rfl).trans ((ev_iload_n 65 dX9_taken_64 rfl rfl).trans ((ev_iald 66 6 dX9_taken_65 ak21 an21 rfl).trans (mm_ite ((ev_callv mX0_kindOf [vR 10, vI (h 21 a1)] [] 69 dX9_taken_66 ml_9_364 k1 rfl oc10 ak10 rfl rfl (Nat.le_of_ble_eq_true rfl) (Nat.le_of_ble_eq_true rfl) rfl).trans (if_pos (show 1 < 2 from by decide))) (rfl)))))))))))) (rfl))))))) ((ev_bipush 38 (v := (-11)) dX9_taken_36 rfl rfl).trans (ev_iret dX9_taken_38 rfl))))) (rfl))))))) ((ev_iconst 22 (v := (-1)) dX9_taken_21 rfl rfl).trans (ev_iret dX9_taken_22 rfl))))))))))
theorem X9_taken_69 (h : mm_M) (a1 : Int) (a2 : Int) (s0 : Int) : mm_ev mX9_taken 2 69 [some (vR 0), some (vI a1), some (vI a2), none] [vI s0] h = (mm_call mX0_isUnder [vI s0, vI a2] h).bind (fun w => mm_ev mX9_taken 2 79 [some (vR 0), some (vI a1), some (vI a2), some (vI s0)] (w.1 ++ []) w.2) := (ev_goto 73 dX9_taken_69 rfl).trans ((ev_istore_n 74 [some (vR 0), some (vI a1), some (vI a2), some (vI s0)] dX9_taken_73 rfl rfl).trans ((ev_iload_n 75 dX9_taken_74 rfl rfl).trans ((ev_iload_n 76 dX9_taken_75 rfl rfl).trans ((ev_calls mX0_isUnder [vI s0, vI a2] [] 79 dX9_taken_76 ml_9_367 k2 rfl rfl rfl (Nat.le_of_ble_eq_true rfl) (Nat.le_of_ble_eq_true rfl) rfl).trans (if_pos (show 1 < 2 from by decide))))))
theorem X9_taken_79 (h : mm_M) (a1 : Int) (a2 : Int) (a3 : Int) (s0 : Int) : mm_ev mX9_taken 2 79 [some (vR 0), some (vI a1), some (vI a2), some (vI a3)] [vI s0] h = if s0 = 0 then some ([vI (-12)], h) else some ([vI a3], h) := (ev_if_eq 86 82 dX9_taken_79 rfl rfl).trans (mm_ite ((ev_bipush 88 (v := (-12)) dX9_taken_86 rfl rfl).trans (ev_iret dX9_taken_88 rfl)) ((ev_iload_n 83 dX9_taken_82 rfl rfl).trans ((ev_goto 88 dX9_taken_83 rfl).trans (ev_iret dX9_taken_88 rfl))))
theorem dX9_shift_0 : decode mX9_shift.1 0 = .ok (.aload_n 0, 1) := by decide +kernel
theorem dX9_shift_1 : decode mX9_shift.1 1 = .ok (.getfield 26, 3) := by decide +kernel
theorem dX9_shift_4 : decode mX9_shift.1 4 = .ok (.iload_n 1, 1) := by decide +kernel
theorem dX9_shift_5 : decode mX9_shift.1 5 = .ok (.invokevirtual 330, 3) := by decide +kernel
theorem dX9_shift_8 : decode mX9_shift.1 8 = .ok (.ifCond .eq 14, 3) := by decide +kernel
theorem dX9_shift_11 : decode mX9_shift.1 11 = .ok (.aload_n 0, 1) := by decide +kernel
theorem dX9_shift_12 : decode mX9_shift.1 12 = .ok (.getfield 26, 3) := by decide +kernel
theorem dX9_shift_15 : decode mX9_shift.1 15 = .ok (.iload_n 3, 1) := by decide +kernel
theorem dX9_shift_16 : decode mX9_shift.1 16 = .ok (.invokevirtual 330, 3) := by decide +kernel
theorem dX9_shift_19 : decode mX9_shift.1 19 = .ok (.ifCond .ne 5, 3) := by decide +kernel
theorem dX9_shift_22 : decode mX9_shift.1 22 = .ok (.iconst (-1), 1) := by decide +kernel
theorem dX9_shift_23 : decode mX9_shift.1 23 = .ok (.ireturn, 1) := by decide +kernel
theorem dX9_shift_24 : decode mX9_shift.1 24 = .ok (.aload_n 0, 1) := by decide +kernel
theorem dX9_shift_25 : decode mX9_shift.1 25 = .ok (.getfield 26, 3) := by decide +kernel
theorem dX9_shift_28 : decode mX9_shift.1 28 = .ok (.iload_n 1, 1) := by decide +kernel
theorem dX9_shift_29 : decode mX9_shift.1 29 = .ok (.iload_n 2, 1) := by decide +kernel
theorem dX9_shift_30 : decode mX9_shift.1 30 = .ok (.iload_n 3, 1) := by decide +kernel
theorem dX9_shift_31 : decode mX9_shift.1 31 = .ok (.iload 4, 2) := by decide +kernel
theorem dX9_shift_33 : decode mX9_shift.1 33 = .ok (.iload 5, 2) := by decide +kernel
theorem dX9_shift_35 : decode mX9_shift.1 35 = .ok (.invokevirtual 354, 3) := by decide +kernel
theorem dX9_shift_38 : decode mX9_shift.1 38 = .ok (.ireturn, 1) := by decide +kernel
theorem X9_shift_0 (h : mm_M) (a1 : Int) (a2 : Int) (a3 : Int) (a4 : Int) (a5 : Int) : mm_ev mX9_shift 2 0 [some (vR 0), some (vI a1), some (vI a2), some (vI a3), some (vI a4), some (vI a5)] [] h = (mm_call mX7_isShelf [vR 3, vI a1] h).bind (fun w => mm_ev mX9_shift 2 8 [some (vR 0), some (vI a1), some (vI a2), some (vI a3), some (vI a4), some (vI a5)] (w.1 ++ []) w.2) := (ev_aload_n 1 dX9_shift_0 rfl rfl).trans ((ev_getF 4 3 dX9_shift_1 fl_9_26 oc0 ak0 rfl rf_0_2 rfl).trans ((ev_iload_n 5 dX9_shift_4 rfl rfl).trans ((ev_callv mX7_isShelf [vR 3, vI a1] [] 8 dX9_shift_5 ml_9_330 k64 rfl oc3 ak3 rfl rfl (Nat.le_of_ble_eq_true rfl) (Nat.le_of_ble_eq_true rfl) rfl).trans (if_pos (show 1 < 2 from by decide)))))
theorem X9_shift_c (h : mm_M) (a1 : Int) (a2 : Int) (a3 : Int) (a4 : Int) (a5 : Int) : mm_call mX9_shift [vR 0, vI a1, vI a2, vI a3, vI a4, vI a5] h = (mm_call mX7_isShelf [vR 3, vI a1] h).bind (fun w => mm_ev mX9_shift 2 8 [some (vR 0), some (vI a1), some (vI a2), some (vI a3), some (vI a4), some (vI a5)] (w.1 ++ []) w.2) := X9_shift_0 h a1 a2 a3 a4 a5
theorem X9_shift_8 (h : mm_M) (a1 : Int) (a2 : Int) (a3 : Int) (a4 : Int) (a5 : Int) (s0 : Int) : mm_ev mX9_shift 2 8 [some (vR 0), some (vI a1), some (vI a2), some (vI a3), some (vI a4), some (vI a5)] [vI s0] h = if s0 = 0 then some ([vI (-1)], h) else (mm_call mX7_isShelf [vR 3, vI a3] h).bind (fun w => mm_ev mX9_shift 2 19 [some (vR 0), some (vI a1), some (vI a2), some (vI a3), some (vI a4), some (vI a5)] (w.1 ++ []) w.2) := (ev_if_eq 22 11 dX9_shift_8 rfl rfl).trans (mm_ite ((ev_iconst 23 (v := (-1)) dX9_shift_22 rfl rfl).trans (ev_iret dX9_shift_23 rfl)) ((ev_aload_n 12 dX9_shift_11 rfl rfl).trans ((ev_getF 15 3 dX9_shift_12 fl_9_26 oc0 ak0 rfl rf_0_2 rfl).trans ((ev_iload_n 16 dX9_shift_15 rfl rfl).trans ((ev_callv mX7_isShelf [vR 3, vI a3] [] 19 dX9_shift_16 ml_9_330 k64 rfl oc3 ak3 rfl rfl (Nat.le_of_ble_eq_true rfl) (Nat.le_of_ble_eq_true rfl) rfl).trans (if_pos (show 1 < 2 from by decide)))))))
theorem X9_shift_19 (h : mm_M) (a1 : Int) (a2 : Int) (a3 : Int) (a4 : Int) (a5 : Int) (s0 : Int) : mm_ev mX9_shift 2 19 [some (vR 0), some (vI a1), some (vI a2), some (vI a3), some (vI a4), some (vI a5)] [vI s0] h = if ¬ s0 = 0 then (mm_call mX7_move [vR 3, vI a1, vI a2, vI a3, vI a4, vI a5] h).bind (fun w => mm_ev mX9_shift 2 38 [some (vR 0), some (vI a1), some (vI a2), some (vI a3), some (vI a4), some (vI a5)] (w.1 ++ []) w.2) else some ([vI (-1)], h) := (ev_if_ne 24 22 dX9_shift_19 rfl rfl).trans (mm_ite ((ev_aload_n 25 dX9_shift_24 rfl rfl).trans ((ev_getF 28 3 dX9_shift_25 fl_9_26 oc0 ak0 rfl rf_0_2 rfl).trans ((ev_iload_n 29 dX9_shift_28 rfl rfl).trans ((ev_iload_n 30 dX9_shift_29 rfl rfl).trans ((ev_iload_n 31 dX9_shift_30 rfl rfl).trans ((ev_iload 33 dX9_shift_31 rfl rfl).trans ((ev_iload 35 dX9_shift_33 rfl rfl).trans ((ev_callv mX7_move [vR 3, vI a1, vI a2, vI a3, vI a4, vI a5] [] 38 dX9_shift_35 ml_9_354 k72 rfl oc3 ak3 rfl rfl (Nat.le_of_ble_eq_true rfl) (Nat.le_of_ble_eq_true rfl) rfl).trans (if_pos (show 1 < 2 from by decide)))))))))) ((ev_iconst 23 (v := (-1)) dX9_shift_22 rfl rfl).trans (ev_iret dX9_shift_23 rfl)))
theorem X9_shift_38 (h : mm_M) (a1 : Int) (a2 : Int) (a3 : Int) (a4 : Int) (a5 : Int) (s0 : Int) : mm_ev mX9_shift 2 38 [some (vR 0), some (vI a1), some (vI a2), some (vI a3), some (vI a4), some (vI a5)] [vI s0] h = some ([vI s0], h) := ev_iret dX9_shift_38 rfl
theorem dX9_element_0 : decode mX9_element.1 0 = .ok (.aload_n 0, 1) := by decide +kernel
theorem dX9_element_1 : decode mX9_element.1 1 = .ok (.getfield 26, 3) := by decide +kernel
theorem dX9_element_4 : decode mX9_element.1 4 = .ok (.iload_n 1, 1) := by decide +kernel
theorem dX9_element_5 : decode mX9_element.1 5 = .ok (.iload_n 2, 1) := by decide +kernel
theorem dX9_element_6 : decode mX9_element.1 6 = .ok (.invokevirtual 344, 3) := by decide +kernel
theorem dX9_element_9 : decode mX9_element.1 9 = .ok (.ifCond .eq 9, 3) := by decide +kernel
theorem dX9_element_12 : decode mX9_element.1 12 = .ok (.ldc2_w 202, 3) := by decide +kernel
theorem dX9_element_15 : decode mX9_element.1 15 = .ok (.goto 12, 3) := by decide +kernel
theorem dX9_element_18 : decode mX9_element.1 18 = .ok (.aload_n 0, 1) := by decide +kernel
theorem dX9_element_19 : decode mX9_element.1 19 = .ok (.getfield 26, 3) := by decide +kernel
theorem dX9_element_22 : decode mX9_element.1 22 = .ok (.iload_n 1, 1) := by decide +kernel
theorem dX9_element_23 : decode mX9_element.1 23 = .ok (.iload_n 2, 1) := by decide +kernel
theorem dX9_element_24 : decode mX9_element.1 24 = .ok (.invokevirtual 351, 3) := by decide +kernel
theorem dX9_element_27 : decode mX9_element.1 27 = .ok (.lreturn, 1) := by decide +kernel
theorem X9_element_0 (h : mm_M) (a1 : Int) (a2 : Int) : mm_ev mX9_element 4 0 [some (vR 0), some (vI a1), some (vI a2)] [] h = (mm_call mX7_refusalOfPlace [vR 3, vI a1, vI a2] h).bind (fun w => mm_ev mX9_element 4 9 [some (vR 0), some (vI a1), some (vI a2)] (w.1 ++ []) w.2) := (ev_aload_n 1 dX9_element_0 rfl rfl).trans ((ev_getF 4 3 dX9_element_1 fl_9_26 oc0 ak0 rfl rf_0_2 rfl).trans ((ev_iload_n 5 dX9_element_4 rfl rfl).trans ((ev_iload_n 6 dX9_element_5 rfl rfl).trans ((ev_callv mX7_refusalOfPlace [vR 3, vI a1, vI a2] [] 9 dX9_element_6 ml_9_344 k66 rfl oc3 ak3 rfl rfl (Nat.le_of_ble_eq_true rfl) (Nat.le_of_ble_eq_true rfl) rfl).trans (if_pos (show 2 < 4 from by decide))))))
theorem X9_element_c (h : mm_M) (a1 : Int) (a2 : Int) : mm_call mX9_element [vR 0, vI a1, vI a2] h = (mm_call mX7_refusalOfPlace [vR 3, vI a1, vI a2] h).bind (fun w => mm_ev mX9_element 4 9 [some (vR 0), some (vI a1), some (vI a2)] (w.1 ++ []) w.2) := X9_element_0 h a1 a2
theorem X9_element_9 (h : mm_M) (a1 : Int) (a2 : Int) (s0 : Int) : mm_ev mX9_element 4 9 [some (vR 0), some (vI a1), some (vI a2)] [vI s0] h = if s0 = 0 then (mm_call mX7_read [vR 3, vI a1, vI a2] h).bind (fun w => mm_ev mX9_element 4 27 [some (vR 0), some (vI a1), some (vI a2)] (w.1 ++ []) w.2) else mm_ev mX9_element 4 27 [some (vR 0), some (vI a1), some (vI a2)] [vL (-9223372036854775808)] h := (ev_if_eq 18 12 dX9_element_9 rfl rfl).trans (mm_ite ((ev_aload_n 19 dX9_element_18 rfl rfl).trans ((ev_getF 22 3 dX9_element_19 fl_9_26 oc0 ak0 rfl rf_0_2 rfl).trans ((ev_iload_n 23 dX9_element_22 rfl rfl).trans ((ev_iload_n 24 dX9_element_23 rfl rfl).trans ((ev_callv mX7_read [vR 3, vI a1, vI a2] [] 27 dX9_element_24 ml_9_351 k69 rfl oc3 ak3 rfl rfl (Nat.le_of_ble_eq_true rfl) (Nat.le_of_ble_eq_true rfl) rfl).trans (if_pos (show 3 < 4 from by decide))))))) ((ev_ldc2_w 15 dX9_element_12 cL_9_202 rfl).trans (ev_goto 27 dX9_element_15 rfl)))
theorem X9_element_27 (h : mm_M) (a1 : Int) (a2 : Int) (s0 : Int) : mm_ev mX9_element 4 27 [some (vR 0), some (vI a1), some (vI a2)] [vL s0] h = some ([vL s0], h) := ev_lret dX9_element_27 rfl
theorem dX9_put_0 : decode mX9_put.1 0 = .ok (.aload_n 0, 1) := by decide +kernel
theorem dX9_put_1 : decode mX9_put.1 1 = .ok (.getfield 26, 3) := by decide +kernel
theorem dX9_put_4 : decode mX9_put.1 4 = .ok (.iload_n 1, 1) := by decide +kernel
theorem dX9_put_5 : decode mX9_put.1 5 = .ok (.iload_n 2, 1) := by decide +kernel
theorem dX9_put_6 : decode mX9_put.1 6 = .ok (.invokevirtual 344, 3) := by decide +kernel
theorem dX9_put_9 : decode mX9_put.1 9 = .ok (.istore 5, 2) := by decide +kernel
theorem dX9_put_11 : decode mX9_put.1 11 = .ok (.iload 5, 2) := by decide +kernel
theorem dX9_put_13 : decode mX9_put.1 13 = .ok (.ifCond .eq 6, 3) := by decide +kernel
theorem dX9_put_16 : decode mX9_put.1 16 = .ok (.iload 5, 2) := by decide +kernel
theorem dX9_put_18 : decode mX9_put.1 18 = .ok (.ireturn, 1) := by decide +kernel
theorem dX9_put_19 : decode mX9_put.1 19 = .ok (.aload_n 0, 1) := by decide +kernel
theorem dX9_put_20 : decode mX9_put.1 20 = .ok (.getfield 26, 3) := by decide +kernel
theorem dX9_put_23 : decode mX9_put.1 23 = .ok (.iload_n 1, 1) := by decide +kernel
theorem dX9_put_24 : decode mX9_put.1 24 = .ok (.iload_n 2, 1) := by decide +kernel
theorem dX9_put_25 : decode mX9_put.1 25 = .ok (.lload_n 3, 1) := by decide +kernel
theorem dX9_put_26 : decode mX9_put.1 26 = .ok (.invokevirtual 347, 3) := by decide +kernel
theorem dX9_put_29 : decode mX9_put.1 29 = .ok (.iconst 1, 1) := by decide +kernel
theorem dX9_put_30 : decode mX9_put.1 30 = .ok (.ireturn, 1) := by decide +kernel
theorem X9_put_0 (h : mm_M) (a1 : Int) (a2 : Int) (a3 : Int) : mm_ev mX9_put 4 0 [some (vR 0), some (vI a1), some (vI a2), some (vL a3), none, none] [] h = (mm_call mX7_refusalOfPlace [vR 3, vI a1, vI a2] h).bind (fun w => mm_ev mX9_put 4 9 [some (vR 0), some (vI a1), some (vI a2), some (vL a3), none, none] (w.1 ++ []) w.2) := (ev_aload_n 1 dX9_put_0 rfl rfl).trans ((ev_getF 4 3 dX9_put_1 fl_9_26 oc0 ak0 rfl rf_0_2 rfl).trans ((ev_iload_n 5 dX9_put_4 rfl rfl).trans ((ev_iload_n 6 dX9_put_5 rfl rfl).trans ((ev_callv mX7_refusalOfPlace [vR 3, vI a1, vI a2] [] 9 dX9_put_6 ml_9_344 k66 rfl oc3 ak3 rfl rfl (Nat.le_of_ble_eq_true rfl) (Nat.le_of_ble_eq_true rfl) rfl).trans (if_pos (show 2 < 4 from by decide))))))
theorem X9_put_c (h : mm_M) (a1 : Int) (a2 : Int) (a3 : Int) : mm_call mX9_put [vR 0, vI a1, vI a2, vL a3] h = (mm_call mX7_refusalOfPlace [vR 3, vI a1, vI a2] h).bind (fun w => mm_ev mX9_put 4 9 [some (vR 0), some (vI a1), some (vI a2), some (vL a3), none, none] (w.1 ++ []) w.2) := X9_put_0 h a1 a2 a3
theorem X9_put_9 (h : mm_M) (a1 : Int) (a2 : Int) (a3 : Int) (s0 : Int) : mm_ev mX9_put 4 9 [some (vR 0), some (vI a1), some (vI a2), some (vL a3), none, none] [vI s0] h = if s0 = 0 then (mm_call mX7_write [vR 3, vI a1, vI a2, vL a3] h).bind (fun w => mm_ev mX9_put 4 29 [some (vR 0), some (vI a1), some (vI a2), some (vL a3), none, some (vI s0)] (w.1 ++ []) w.2) else some ([vI s0], h) := (ev_istore 11 [some (vR 0), some (vI a1), some (vI a2), some (vL a3), none, some (vI s0)] dX9_put_9 rfl rfl).trans ((ev_iload 13 dX9_put_11 rfl rfl).trans ((ev_if_eq 19 16 dX9_put_13 rfl rfl).trans (mm_ite ((ev_aload_n 20 dX9_put_19 rfl rfl).trans ((ev_getF 23 3 dX9_put_20 fl_9_26 oc0 ak0 rfl rf_0_2 rfl).trans ((ev_iload_n 24 dX9_put_23 rfl rfl).trans ((ev_iload_n 25 dX9_put_24 rfl rfl).trans ((ev_lload_n 26 dX9_put_25 rfl rfl).trans ((ev_callv mX7_write [vR 3, vI a1, vI a2, vL a3] [] 29 dX9_put_26 ml_9_347 k70 rfl oc3 ak3 rfl rfl (Nat.le_of_ble_eq_true rfl) (Nat.le_of_ble_eq_true rfl) rfl).trans (if_pos (show 3 < 4 from by decide)))))))) ((ev_iload 18 dX9_put_16 rfl rfl).trans (ev_iret dX9_put_18 rfl)))))
theorem X9_put_29 (h : mm_M) (a1 : Int) (a2 : Int) (a3 : Int) (a5 : Int) : mm_ev mX9_put 4 29 [some (vR 0), some (vI a1), some (vI a2), some (vL a3), none, some (vI a5)] [] h = some ([vI 1], h) := (ev_iconst 30 (v := 1) dX9_put_29 rfl rfl).trans (ev_iret dX9_put_30 rfl)
theorem dX9_row_0 : decode mX9_row.1 0 = .ok (.aload_n 0, 1) := by decide +kernel
theorem dX9_row_1 : decode mX9_row.1 1 = .ok (.getfield 26, 3) := by decide +kernel
theorem dX9_row_4 : decode mX9_row.1 4 = .ok (.iload_n 1, 1) := by decide +kernel
theorem dX9_row_5 : decode mX9_row.1 5 = .ok (.invokevirtual 330, 3) := by decide +kernel
theorem dX9_row_8 : decode mX9_row.1 8 = .ok (.ifCond .eq 18, 3) := by decide +kernel
theorem dX9_row_11 : decode mX9_row.1 11 = .ok (.iload_n 2, 1) := by decide +kernel
theorem dX9_row_12 : decode mX9_row.1 12 = .ok (.ifCond .lt 14, 3) := by decide +kernel
theorem dX9_row_15 : decode mX9_row.1 15 = .ok (.iload_n 2, 1) := by decide +kernel
theorem dX9_row_16 : decode mX9_row.1 16 = .ok (.iconst 5, 1) := by decide +kernel
theorem dX9_row_17 : decode mX9_row.1 17 = .ok (.if_icmp .ge 9, 3) := by decide +kernel
theorem dX9_row_20 : decode mX9_row.1 20 = .ok (.iload_n 3, 1) := by decide +kernel
theorem dX9_row_21 : decode mX9_row.1 21 = .ok (.bipush 60, 2) := by decide +kernel
theorem dX9_row_23 : decode mX9_row.1 23 = .ok (.if_icmp .le 5, 3) := by decide +kernel
theorem dX9_row_26 : decode mX9_row.1 26 = .ok (.iconst (-1), 1) := by decide +kernel
theorem dX9_row_27 : decode mX9_row.1 27 = .ok (.ireturn, 1) := by decide +kernel
theorem dX9_row_28 : decode mX9_row.1 28 = .ok (.iload_n 3, 1) := by decide +kernel
theorem dX9_row_29 : decode mX9_row.1 29 = .ok (.ifCond .ge 6, 3) := by decide +kernel
theorem dX9_row_32 : decode mX9_row.1 32 = .ok (.bipush (-14), 2) := by decide +kernel
theorem dX9_row_34 : decode mX9_row.1 34 = .ok (.ireturn, 1) := by decide +kernel
theorem dX9_row_35 : decode mX9_row.1 35 = .ok (.aload_n 0, 1) := by decide +kernel
theorem dX9_row_36 : decode mX9_row.1 36 = .ok (.getfield 26, 3) := by decide +kernel
theorem dX9_row_39 : decode mX9_row.1 39 = .ok (.iload_n 1, 1) := by decide +kernel
theorem dX9_row_40 : decode mX9_row.1 40 = .ok (.iload_n 2, 1) := by decide +kernel
theorem dX9_row_41 : decode mX9_row.1 41 = .ok (.iload_n 3, 1) := by decide +kernel
theorem dX9_row_42 : decode mX9_row.1 42 = .ok (.invokevirtual 340, 3) := by decide +kernel
theorem dX9_row_45 : decode mX9_row.1 45 = .ok (.iconst 1, 1) := by decide +kernel
theorem dX9_row_46 : decode mX9_row.1 46 = .ok (.ireturn, 1) := by decide +kernel
theorem X9_row_0 (h : mm_M) (a1 : Int) (a2 : Int) (a3 : Int) : mm_ev mX9_row 2 0 [some (vR 0), some (vI a1), some (vI a2), some (vI a3)] [] h = (mm_call mX7_isShelf [vR 3, vI a1] h).bind (fun w => mm_ev mX9_row 2 8 [some (vR 0), some (vI a1), some (vI a2), some (vI a3)] (w.1 ++ []) w.2) := (ev_aload_n 1 dX9_row_0 rfl rfl).trans ((ev_getF 4 3 dX9_row_1 fl_9_26 oc0 ak0 rfl rf_0_2 rfl).trans ((ev_iload_n 5 dX9_row_4 rfl rfl).trans ((ev_callv mX7_isShelf [vR 3, vI a1] [] 8 dX9_row_5 ml_9_330 k64 rfl oc3 ak3 rfl rfl (Nat.le_of_ble_eq_true rfl) (Nat.le_of_ble_eq_true rfl) rfl).trans (if_pos (show 1 < 2 from by decide)))))
theorem X9_row_c (h : mm_M) (a1 : Int) (a2 : Int) (a3 : Int) : mm_call mX9_row [vR 0, vI a1, vI a2, vI a3] h = (mm_call mX7_isShelf [vR 3, vI a1] h).bind (fun w => mm_ev mX9_row 2 8 [some (vR 0), some (vI a1), some (vI a2), some (vI a3)] (w.1 ++ []) w.2) := X9_row_0 h a1 a2 a3
theorem X9_row_8 (h : mm_M) (a1 : Int) (a2 : Int) (a3 : Int) (s0 : Int) : mm_ev mX9_row 2 8 [some (vR 0), some (vI a1), some (vI a2), some (vI a3)] [vI s0] h = if s0 = 0 then some ([vI (-1)], h) else if a2 < 0 then some ([vI (-1)], h) else if 5 ≤ a2 then some ([vI (-1)], h) else if a3 ≤ 60 then if 0 ≤ a3 then (mm_call mX7_layRow [vR 3, vI a1, vI a2, vI a3] h).bind (fun w => mm_ev mX9_row 2 45 [some (vR 0), some (vI a1), some (vI a2), some (vI a3)] (w.1 ++ []) w.2) else some ([vI (-14)], h) else some ([vI (-1)], h) := (ev_if_eq 26 11 dX9_row_8 rfl rfl).trans (mm_ite ((ev_iconst 27 (v := (-1)) dX9_row_26 rfl rfl).trans (ev_iret dX9_row_27 rfl)) ((ev_iload_n 12 dX9_row_11 rfl rfl).trans ((ev_if_lt 26 15 dX9_row_12 rfl rfl).trans (mm_ite ((ev_iconst 27 (v := (-1)) dX9_row_26 rfl rfl).trans (ev_iret dX9_row_27 rfl)) ((ev_iload_n 16 dX9_row_15 rfl rfl).trans ((ev_iconst 17 (v := 5) dX9_row_16 rfl rfl).trans ((ev_ic_ge 26 20 dX9_row_17 rfl rfl).trans (mm_ite ((ev_iconst 27 (v := (-1)) dX9_row_26 rfl rfl).trans (ev_iret dX9_row_27 rfl)) ((ev_iload_n 21 dX9_row_20 rfl rfl).trans ((ev_bipush 23 (v := 60) dX9_row_21 rfl rfl).trans ((ev_ic_le 28 26 dX9_row_23 rfl rfl).trans (mm_ite ((ev_iload_n 29 dX9_row_28 rfl rfl).trans ((ev_if_ge 35 32 dX9_row_29 rfl rfl).trans (mm_ite ((ev_aload_n 36 dX9_row_35 rfl rfl).trans ((ev_getF 39 3 dX9_row_36 fl_9_26 oc0 ak0 rfl rf_0_2 rfl).trans ((ev_iload_n 40 dX9_row_39 rfl rfl).trans ((ev_iload_n 41 dX9_row_40 rfl rfl).trans ((ev_iload_n 42 dX9_row_41 rfl rfl).trans ((ev_callv mX7_layRow [vR 3, vI a1, vI a2, vI a3] [] 45 dX9_row_42 ml_9_340 k68 rfl oc3 ak3 rfl rfl (Nat.le_of_ble_eq_true rfl) (Nat.le_of_ble_eq_true rfl) rfl).trans (if_pos (show 1 < 2 from by decide)))))))) ((ev_bipush 34 (v := (-14)) dX9_row_32 rfl rfl).trans (ev_iret dX9_row_34 rfl))))) ((ev_iconst 27 (v := (-1)) dX9_row_26 rfl rfl).trans (ev_iret dX9_row_27 rfl))))))))))))))
theorem X9_row_45 (h : mm_M) (a1 : Int) (a2 : Int) (a3 : Int) : mm_ev mX9_row 2 45 [some (vR 0), some (vI a1), some (vI a2), some (vI a3)] [] h = some ([vI 1], h) := (ev_iconst 46 (v := 1) dX9_row_45 rfl rfl).trans (ev_iret dX9_row_46 rfl)
theorem dX9_keep_0 : decode mX9_keep.1 0 = .ok (.aload_n 0, 1) := by decide +kernel
theorem dX9_keep_1 : decode mX9_keep.1 1 = .ok (.getfield 26, 3) := by decide +kernel
theorem dX9_keep_4 : decode mX9_keep.1 4 = .ok (.iload_n 1, 1) := by decide +kernel
theorem dX9_keep_5 : decode mX9_keep.1 5 = .ok (.invokevirtual 330, 3) := by decide +kernel
theorem dX9_keep_8 : decode mX9_keep.1 8 = .ok (.ifCond .eq 19, 3) := by decide +kernel
theorem dX9_keep_11 : decode mX9_keep.1 11 = .ok (.iload_n 2, 1) := by decide +kernel
theorem dX9_keep_12 : decode mX9_keep.1 12 = .ok (.iconst (-1), 1) := by decide +kernel
theorem dX9_keep_13 : decode mX9_keep.1 13 = .ok (.if_icmp .lt 14, 3) := by decide +kernel
theorem dX9_keep_16 : decode mX9_keep.1 16 = .ok (.iload_n 2, 1) := by decide +kernel
theorem dX9_keep_17 : decode mX9_keep.1 17 = .ok (.aload_n 0, 1) := by decide +kernel
theorem dX9_keep_18 : decode mX9_keep.1 18 = .ok (.getfield 71, 3) := by decide +kernel
theorem dX9_keep_21 : decode mX9_keep.1 21 = .ok (.getfield 333, 3) := by decide +kernel
theorem dX9_keep_24 : decode mX9_keep.1 24 = .ok (.if_icmp .lt 5, 3) := by decide +kernel
theorem dX9_keep_27 : decode mX9_keep.1 27 = .ok (.iconst (-1), 1) := by decide +kernel
theorem dX9_keep_28 : decode mX9_keep.1 28 = .ok (.ireturn, 1) := by decide +kernel
theorem dX9_keep_29 : decode mX9_keep.1 29 = .ok (.aload_n 0, 1) := by decide +kernel
theorem dX9_keep_30 : decode mX9_keep.1 30 = .ok (.getfield 26, 3) := by decide +kernel
theorem dX9_keep_33 : decode mX9_keep.1 33 = .ok (.iload_n 1, 1) := by decide +kernel
theorem dX9_keep_34 : decode mX9_keep.1 34 = .ok (.iload_n 2, 1) := by decide +kernel
theorem dX9_keep_35 : decode mX9_keep.1 35 = .ok (.invokevirtual 336, 3) := by decide +kernel
theorem dX9_keep_38 : decode mX9_keep.1 38 = .ok (.iconst 1, 1) := by decide +kernel
theorem dX9_keep_39 : decode mX9_keep.1 39 = .ok (.ireturn, 1) := by decide +kernel
theorem X9_keep_0 (h : mm_M) (a1 : Int) (a2 : Int) : mm_ev mX9_keep 2 0 [some (vR 0), some (vI a1), some (vI a2)] [] h = (mm_call mX7_isShelf [vR 3, vI a1] h).bind (fun w => mm_ev mX9_keep 2 8 [some (vR 0), some (vI a1), some (vI a2)] (w.1 ++ []) w.2) := (ev_aload_n 1 dX9_keep_0 rfl rfl).trans ((ev_getF 4 3 dX9_keep_1 fl_9_26 oc0 ak0 rfl rf_0_2 rfl).trans ((ev_iload_n 5 dX9_keep_4 rfl rfl).trans ((ev_callv mX7_isShelf [vR 3, vI a1] [] 8 dX9_keep_5 ml_9_330 k64 rfl oc3 ak3 rfl rfl (Nat.le_of_ble_eq_true rfl) (Nat.le_of_ble_eq_true rfl) rfl).trans (if_pos (show 1 < 2 from by decide)))))
theorem X9_keep_c (h : mm_M) (a1 : Int) (a2 : Int) : mm_call mX9_keep [vR 0, vI a1, vI a2] h = (mm_call mX7_isShelf [vR 3, vI a1] h).bind (fun w => mm_ev mX9_keep 2 8 [some (vR 0), some (vI a1), some (vI a2)] (w.1 ++ []) w.2) := X9_keep_0 h a1 a2
theorem X9_keep_8 (h : mm_M) (a1 : Int) (a2 : Int) (s0 : Int) : mm_ev mX9_keep 2 8 [some (vR 0), some (vI a1), some (vI a2)] [vI s0] h = if s0 = 0 then some ([vI (-1)], h) else if a2 < (-1) then some ([vI (-1)], h) else if a2 < (h 10 0) then (mm_call mX7_hold [vR 3, vI a1, vI a2] h).bind (fun w => mm_ev mX9_keep 2 38 [some (vR 0), some (vI a1), some (vI a2)] (w.1 ++ []) w.2) else some ([vI (-1)], h) := (ev_if_eq 27 11 dX9_keep_8 rfl rfl).trans (mm_ite ((ev_iconst 28 (v := (-1)) dX9_keep_27 rfl rfl).trans (ev_iret dX9_keep_28 rfl)) ((ev_iload_n 12 dX9_keep_11 rfl rfl).trans ((ev_iconst 13 (v := (-1)) dX9_keep_12 rfl rfl).trans ((ev_ic_lt 27 16 dX9_keep_13 rfl rfl).trans (mm_ite ((ev_iconst 28 (v := (-1)) dX9_keep_27 rfl rfl).trans (ev_iret dX9_keep_28 rfl)) ((ev_iload_n 17 dX9_keep_16 rfl rfl).trans ((ev_aload_n 18 dX9_keep_17 rfl rfl).trans ((ev_getF 21 10 dX9_keep_18 fl_9_71 oc0 ak0 rfl rf_0_9 rfl).trans ((ev_getI 24 0 dX9_keep_21 fl_9_333 oc10 ak10 (by decide) rfl rfl).trans ((ev_ic_lt 29 27 dX9_keep_24 rfl rfl).trans (mm_ite ((ev_aload_n 30 dX9_keep_29 rfl rfl).trans ((ev_getF 33 3 dX9_keep_30 fl_9_26 oc0 ak0 rfl rf_0_2 rfl).trans ((ev_iload_n 34 dX9_keep_33 rfl rfl).trans ((ev_iload_n 35 dX9_keep_34 rfl rfl).trans ((ev_callv mX7_hold [vR 3, vI a1, vI a2] [] 38 dX9_keep_35 ml_9_336 k67 rfl oc3 ak3 rfl rfl (Nat.le_of_ble_eq_true rfl) (Nat.le_of_ble_eq_true rfl) rfl).trans (if_pos (show 1 < 2 from by decide))))))) ((ev_iconst 28 (v := (-1)) dX9_keep_27 rfl rfl).trans (ev_iret dX9_keep_28 rfl)))))))))))))
theorem X9_keep_38 (h : mm_M) (a1 : Int) (a2 : Int) : mm_ev mX9_keep 2 38 [some (vR 0), some (vI a1), some (vI a2)] [] h = some ([vI 1], h) := (ev_iconst 39 (v := 1) dX9_keep_38 rfl rfl).trans (ev_iret dX9_keep_39 rfl)
theorem dX9_trace_0 : decode mX9_trace.1 0 = .ok (.iload_n 1, 1) := by decide +kernel
theorem dX9_trace_1 : decode mX9_trace.1 1 = .ok (.ifCond .lt 20, 3) := by decide +kernel
theorem dX9_trace_4 : decode mX9_trace.1 4 = .ok (.iload_n 1, 1) := by decide +kernel
theorem dX9_trace_5 : decode mX9_trace.1 5 = .ok (.aload_n 0, 1) := by decide +kernel
theorem dX9_trace_6 : decode mX9_trace.1 6 = .ok (.getfield 71, 3) := by decide +kernel
theorem dX9_trace_9 : decode mX9_trace.1 9 = .ok (.getfield 324, 3) := by decide +kernel
theorem dX9_trace_12 : decode mX9_trace.1 12 = .ok (.if_icmp .ge 9, 3) := by decide +kernel
theorem dX9_trace_15 : decode mX9_trace.1 15 = .ok (.iload_n 1, 1) := by decide +kernel
theorem dX9_trace_16 : decode mX9_trace.1 16 = .ok (.bipush 24, 2) := by decide +kernel
theorem dX9_trace_18 : decode mX9_trace.1 18 = .ok (.if_icmp .lt 7, 3) := by decide +kernel
theorem dX9_trace_21 : decode mX9_trace.1 21 = .ok (.iconst (-1), 1) := by decide +kernel
theorem dX9_trace_22 : decode mX9_trace.1 22 = .ok (.goto 12, 3) := by decide +kernel
theorem dX9_trace_25 : decode mX9_trace.1 25 = .ok (.aload_n 0, 1) := by decide +kernel
theorem dX9_trace_26 : decode mX9_trace.1 26 = .ok (.getfield 71, 3) := by decide +kernel
theorem dX9_trace_29 : decode mX9_trace.1 29 = .ok (.getfield 327, 3) := by decide +kernel
theorem dX9_trace_32 : decode mX9_trace.1 32 = .ok (.iload_n 1, 1) := by decide +kernel
theorem dX9_trace_33 : decode mX9_trace.1 33 = .ok (.iaload, 1) := by decide +kernel
theorem dX9_trace_34 : decode mX9_trace.1 34 = .ok (.ireturn, 1) := by decide +kernel
theorem X9_trace_0 (h : mm_M) (a1 : Int) : mm_ev mX9_trace 1 0 [some (vR 0), some (vI a1)] [] h = if a1 < 0 then some ([vI (-1)], h) else if (h 10 1) ≤ a1 then some ([vI (-1)], h) else if a1 < 24 then if 0 ≤ a1 ∧ a1 < 24 then some ([vI (h 45 a1)], h) else none else some ([vI (-1)], h) := (ev_iload_n 1 dX9_trace_0 rfl rfl).trans ((ev_if_lt 21 4 dX9_trace_1 rfl rfl).trans (mm_ite ((ev_iconst 22 (v := (-1)) dX9_trace_21 rfl rfl).trans ((ev_goto 34 dX9_trace_22 rfl).trans (ev_iret dX9_trace_34 rfl))) ((ev_iload_n 5 dX9_trace_4 rfl rfl).trans ((ev_aload_n 6 dX9_trace_5 rfl rfl).trans ((ev_getF 9 10 dX9_trace_6 fl_9_71 oc0 ak0 rfl rf_0_9 rfl).trans ((ev_getI 12 1 dX9_trace_9 fl_9_324 oc10 ak10 (by decide) rfl rfl).trans ((ev_ic_ge 21 15 dX9_trace_12 rfl rfl).trans (mm_ite ((ev_iconst 22 (v := (-1)) dX9_trace_21 rfl rfl).trans ((ev_goto 34 dX9_trace_22 rfl).trans (ev_iret dX9_trace_34 rfl))) ((ev_iload_n 16 dX9_trace_15 rfl rfl).trans ((ev_bipush 18 (v := 24) dX9_trace_16 rfl rfl).trans ((ev_ic_lt 25 21 dX9_trace_18 rfl rfl).trans (mm_ite ((ev_aload_n 26 dX9_trace_25 rfl rfl).trans ((ev_getF 29 10 dX9_trace_26 fl_9_71 oc0 ak0 rfl rf_0_9 rfl).trans ((ev_getF 32 45 dX9_trace_29 fl_9_327 oc10 ak10 rfl rf_10_2 rfl).trans ((ev_iload_n 33 dX9_trace_32 rfl rfl).trans ((ev_iald 34 24 dX9_trace_33 ak45 an45 rfl).trans (mm_ite (ev_iret dX9_trace_34 rfl) (rfl))))))) ((ev_iconst 22 (v := (-1)) dX9_trace_21 rfl rfl).trans ((ev_goto 34 dX9_trace_22 rfl).trans (ev_iret dX9_trace_34 rfl)))))))))))))))
theorem X9_trace_c (h : mm_M) (a1 : Int) : mm_call mX9_trace [vR 0, vI a1] h = if a1 < 0 then some ([vI (-1)], h) else if (h 10 1) ≤ a1 then some ([vI (-1)], h) else if a1 < 24 then if 0 ≤ a1 ∧ a1 < 24 then some ([vI (h 45 a1)], h) else none else some ([vI (-1)], h) := X9_trace_0 h a1
theorem dX9_act_0 : decode mX9_act.1 0 = .ok (.aload_n 0, 1) := by decide +kernel
theorem dX9_act_1 : decode mX9_act.1 1 = .ok (.getfield 71, 3) := by decide +kernel
theorem dX9_act_4 : decode mX9_act.1 4 = .ok (.iload_n 1, 1) := by decide +kernel
theorem dX9_act_5 : decode mX9_act.1 5 = .ok (.iload_n 2, 1) := by decide +kernel
theorem dX9_act_6 : decode mX9_act.1 6 = .ok (.iload_n 3, 1) := by decide +kernel
theorem dX9_act_7 : decode mX9_act.1 7 = .ok (.invokevirtual 321, 3) := by decide +kernel
theorem dX9_act_10 : decode mX9_act.1 10 = .ok (.ireturn, 1) := by decide +kernel
theorem X9_act_0 (h : mm_M) (a1 : Int) (a2 : Int) (a3 : Int) : mm_ev mX9_act 162 0 [some (vR 0), some (vI a1), some (vI a2), some (vI a3)] [] h = (mm_call mX0_perform [vR 10, vI a1, vI a2, vI a3] h).bind (fun w => mm_ev mX9_act 162 10 [some (vR 0), some (vI a1), some (vI a2), some (vI a3)] (w.1 ++ []) w.2) := (ev_aload_n 1 dX9_act_0 rfl rfl).trans ((ev_getF 4 10 dX9_act_1 fl_9_71 oc0 ak0 rfl rf_0_9 rfl).trans ((ev_iload_n 5 dX9_act_4 rfl rfl).trans ((ev_iload_n 6 dX9_act_5 rfl rfl).trans ((ev_iload_n 7 dX9_act_6 rfl rfl).trans ((ev_callv mX0_perform [vR 10, vI a1, vI a2, vI a3] [] 10 dX9_act_7 ml_9_321 k3 rfl oc10 ak10 rfl rfl (Nat.le_of_ble_eq_true rfl) (Nat.le_of_ble_eq_true rfl) rfl).trans (if_pos (show 161 < 162 from by decide)))))))
theorem X9_act_c (h : mm_M) (a1 : Int) (a2 : Int) (a3 : Int) : mm_call mX9_act [vR 0, vI a1, vI a2, vI a3] h = (mm_call mX0_perform [vR 10, vI a1, vI a2, vI a3] h).bind (fun w => mm_ev mX9_act 162 10 [some (vR 0), some (vI a1), some (vI a2), some (vI a3)] (w.1 ++ []) w.2) := X9_act_0 h a1 a2 a3
theorem X9_act_10 (h : mm_M) (a1 : Int) (a2 : Int) (a3 : Int) (s0 : Int) : mm_ev mX9_act 162 10 [some (vR 0), some (vI a1), some (vI a2), some (vI a3)] [vI s0] h = some ([vI s0], h) := ev_iret dX9_act_10 rfl
theorem dX9_body_0 : decode mX9_body.1 0 = .ok (.aload_n 0, 1) := by decide +kernel
theorem dX9_body_1 : decode mX9_body.1 1 = .ok (.getfield 71, 3) := by decide +kernel
theorem dX9_body_4 : decode mX9_body.1 4 = .ok (.iload_n 1, 1) := by decide +kernel
theorem dX9_body_5 : decode mX9_body.1 5 = .ok (.invokevirtual 318, 3) := by decide +kernel
theorem dX9_body_8 : decode mX9_body.1 8 = .ok (.ireturn, 1) := by decide +kernel
theorem X9_body_0 (h : mm_M) (a1 : Int) : mm_ev mX9_body 2 0 [some (vR 0), some (vI a1)] [] h = (mm_call mX0_add [vR 10, vI a1] h).bind (fun w => mm_ev mX9_body 2 8 [some (vR 0), some (vI a1)] (w.1 ++ []) w.2) := (ev_aload_n 1 dX9_body_0 rfl rfl).trans ((ev_getF 4 10 dX9_body_1 fl_9_71 oc0 ak0 rfl rf_0_9 rfl).trans ((ev_iload_n 5 dX9_body_4 rfl rfl).trans ((ev_callv mX0_add [vR 10, vI a1] [] 8 dX9_body_5 ml_9_318 k0 rfl oc10 ak10 rfl rfl (Nat.le_of_ble_eq_true rfl) (Nat.le_of_ble_eq_true rfl) rfl).trans (if_pos (show 1 < 2 from by decide)))))
theorem X9_body_c (h : mm_M) (a1 : Int) : mm_call mX9_body [vR 0, vI a1] h = (mm_call mX0_add [vR 10, vI a1] h).bind (fun w => mm_ev mX9_body 2 8 [some (vR 0), some (vI a1)] (w.1 ++ []) w.2) := X9_body_0 h a1
theorem X9_body_8 (h : mm_M) (a1 : Int) (s0 : Int) : mm_ev mX9_body 2 8 [some (vR 0), some (vI a1)] [vI s0] h = some ([vI s0], h) := ev_iret dX9_body_8 rfl
theorem dX9_redo_0 : decode mX9_redo.1 0 = .ok (.aload_n 0, 1) := by decide +kernel
theorem dX9_redo_1 : decode mX9_redo.1 1 = .ok (.getfield 10, 3) := by decide +kernel
theorem dX9_redo_4 : decode mX9_redo.1 4 = .ok (.invokevirtual 315, 3) := by decide +kernel
theorem dX9_redo_7 : decode mX9_redo.1 7 = .ok (.ireturn, 1) := by decide +kernel
theorem X9_redo_0 (h : mm_M) : mm_ev mX9_redo 2 0 [some (vR 0)] [] h = (mm_call mX4_doAgain [vR 1] h).bind (fun w => mm_ev mX9_redo 2 7 [some (vR 0)] (w.1 ++ []) w.2) := (ev_aload_n 1 dX9_redo_0 rfl rfl).trans ((ev_getF 4 1 dX9_redo_1 fl_9_10 oc0 ak0 rfl rf_0_0 rfl).trans ((ev_callv mX4_doAgain [vR 1] [] 7 dX9_redo_4 ml_9_315 k50 rfl oc1 ak1 rfl rfl (Nat.le_of_ble_eq_true rfl) (Nat.le_of_ble_eq_true rfl) rfl).trans (if_pos (show 1 < 2 from by decide))))
theorem X9_redo_c (h : mm_M) : mm_call mX9_redo [vR 0] h = (mm_call mX4_doAgain [vR 1] h).bind (fun w => mm_ev mX9_redo 2 7 [some (vR 0)] (w.1 ++ []) w.2) := X9_redo_0 h 
theorem X9_redo_7 (h : mm_M) (s0 : Int) : mm_ev mX9_redo 2 7 [some (vR 0)] [vI s0] h = some ([vI s0], h) := ev_iret dX9_redo_7 rfl
theorem dX9_undo_0 : decode mX9_undo.1 0 = .ok (.aload_n 0, 1) := by decide +kernel
theorem dX9_undo_1 : decode mX9_undo.1 1 = .ok (.getfield 10, 3) := by decide +kernel
theorem dX9_undo_4 : decode mX9_undo.1 4 = .ok (.invokevirtual 312, 3) := by decide +kernel
theorem dX9_undo_7 : decode mX9_undo.1 7 = .ok (.ireturn, 1) := by decide +kernel
theorem X9_undo_0 (h : mm_M) : mm_ev mX9_undo 2 0 [some (vR 0)] [] h = (mm_call mX4_takeBack [vR 1] h).bind (fun w => mm_ev mX9_undo 2 7 [some (vR 0)] (w.1 ++ []) w.2) := (ev_aload_n 1 dX9_undo_0 rfl rfl).trans ((ev_getF 4 1 dX9_undo_1 fl_9_10 oc0 ak0 rfl rf_0_0 rfl).trans ((ev_callv mX4_takeBack [vR 1] [] 7 dX9_undo_4 ml_9_312 k49 rfl oc1 ak1 rfl rfl (Nat.le_of_ble_eq_true rfl) (Nat.le_of_ble_eq_true rfl) rfl).trans (if_pos (show 1 < 2 from by decide))))
theorem X9_undo_c (h : mm_M) : mm_call mX9_undo [vR 0] h = (mm_call mX4_takeBack [vR 1] h).bind (fun w => mm_ev mX9_undo 2 7 [some (vR 0)] (w.1 ++ []) w.2) := X9_undo_0 h 
theorem X9_undo_7 (h : mm_M) (s0 : Int) : mm_ev mX9_undo 2 7 [some (vR 0)] [vI s0] h = some ([vI s0], h) := ev_iret dX9_undo_7 rfl
theorem dX9_back_0 : decode mX9_back.1 0 = .ok (.aload_n 0, 1) := by decide +kernel
theorem dX9_back_1 : decode mX9_back.1 1 = .ok (.getfield 64, 3) := by decide +kernel
theorem dX9_back_4 : decode mX9_back.1 4 = .ok (.getfield 306, 3) := by decide +kernel
theorem dX9_back_7 : decode mX9_back.1 7 = .ok (.ifCond .ge 6, 3) := by decide +kernel
theorem dX9_back_10 : decode mX9_back.1 10 = .ok (.bipush (-5), 2) := by decide +kernel
theorem dX9_back_12 : decode mX9_back.1 12 = .ok (.ireturn, 1) := by decide +kernel
theorem dX9_back_13 : decode mX9_back.1 13 = .ok (.aload_n 0, 1) := by decide +kernel
theorem dX9_back_14 : decode mX9_back.1 14 = .ok (.getfield 64, 3) := by decide +kernel
theorem dX9_back_17 : decode mX9_back.1 17 = .ok (.aload_n 0, 1) := by decide +kernel
theorem dX9_back_18 : decode mX9_back.1 18 = .ok (.getfield 10, 3) := by decide +kernel
theorem dX9_back_21 : decode mX9_back.1 21 = .ok (.bipush 8, 2) := by decide +kernel
theorem dX9_back_23 : decode mX9_back.1 23 = .ok (.invokevirtual 123, 3) := by decide +kernel
theorem dX9_back_26 : decode mX9_back.1 26 = .ok (.invokevirtual 309, 3) := by decide +kernel
theorem dX9_back_29 : decode mX9_back.1 29 = .ok (.aload_n 0, 1) := by decide +kernel
theorem dX9_back_30 : decode mX9_back.1 30 = .ok (.getfield 64, 3) := by decide +kernel
theorem dX9_back_33 : decode mX9_back.1 33 = .ok (.getfield 109, 3) := by decide +kernel
theorem dX9_back_36 : decode mX9_back.1 36 = .ok (.ireturn, 1) := by decide +kernel
theorem X9_back_0 (h : mm_M) : mm_ev mX9_back 3 0 [some (vR 0)] [] h = if 0 ≤ (h 9 5) then (mm_call mX4_the [vR 1, vI 8] h).bind (fun w => mm_ev mX9_back 3 26 [some (vR 0)] (w.1 ++ [vR 9]) w.2) else some ([vI (-5)], h) := (ev_aload_n 1 dX9_back_0 rfl rfl).trans ((ev_getF 4 9 dX9_back_1 fl_9_64 oc0 ak0 rfl rf_0_8 rfl).trans ((ev_getI 7 5 dX9_back_4 fl_9_306 oc9 ak9 (by decide) rfl rfl).trans ((ev_if_ge 13 10 dX9_back_7 rfl rfl).trans (mm_ite ((ev_aload_n 14 dX9_back_13 rfl rfl).trans ((ev_getF 17 9 dX9_back_14 fl_9_64 oc0 ak0 rfl rf_0_8 rfl).trans ((ev_aload_n 18 dX9_back_17 rfl rfl).trans ((ev_getF 21 1 dX9_back_18 fl_9_10 oc0 ak0 rfl rf_0_0 rfl).trans ((ev_bipush 23 (v := 8) dX9_back_21 rfl rfl).trans ((ev_callv mX4_the [vR 1, vI 8] [vR 9] 26 dX9_back_23 ml_9_123 k42 rfl oc1 ak1 rfl rfl (Nat.le_of_ble_eq_true rfl) (Nat.le_of_ble_eq_true rfl) rfl).trans (if_pos (show 1 < 3 from by decide)))))))) ((ev_bipush 12 (v := (-5)) dX9_back_10 rfl rfl).trans (ev_iret dX9_back_12 rfl))))))
theorem X9_back_c (h : mm_M) : mm_call mX9_back [vR 0] h = if 0 ≤ (h 9 5) then (mm_call mX4_the [vR 1, vI 8] h).bind (fun w => mm_ev mX9_back 3 26 [some (vR 0)] (w.1 ++ [vR 9]) w.2) else some ([vI (-5)], h) := X9_back_0 h 
theorem X9_back_26 (h : mm_M) (s0 : Int) : mm_ev mX9_back 3 26 [some (vR 0)] [vI s0, vR 9] h = (mm_call mX2_layBack [vR 9, vI s0] h).bind (fun w => mm_ev mX9_back 3 29 [some (vR 0)] (w.1 ++ []) w.2) := (ev_callv mX2_layBack [vR 9, vI s0] [] 29 dX9_back_26 ml_9_309 k19 rfl oc9 ak9 rfl rfl (Nat.le_of_ble_eq_true rfl) (Nat.le_of_ble_eq_true rfl) rfl).trans (if_pos (show 2 < 3 from by decide))
theorem X9_back_29 (h : mm_M) : mm_ev mX9_back 3 29 [some (vR 0)] [] h = some ([vI (h 9 0)], h) := (ev_aload_n 30 dX9_back_29 rfl rfl).trans ((ev_getF 33 9 dX9_back_30 fl_9_64 oc0 ak0 rfl rf_0_8 rfl).trans ((ev_getI 36 0 dX9_back_33 fl_9_109 oc9 ak9 (by decide) rfl rfl).trans (ev_iret dX9_back_36 rfl)))
theorem dX9_image_0 : decode mX9_image.1 0 = .ok (.aload_n 0, 1) := by decide +kernel
theorem dX9_image_1 : decode mX9_image.1 1 = .ok (.getfield 64, 3) := by decide +kernel
theorem dX9_image_4 : decode mX9_image.1 4 = .ok (.aload_n 0, 1) := by decide +kernel
theorem dX9_image_5 : decode mX9_image.1 5 = .ok (.getfield 10, 3) := by decide +kernel
theorem dX9_image_8 : decode mX9_image.1 8 = .ok (.getfield 79, 3) := by decide +kernel
theorem dX9_image_11 : decode mX9_image.1 11 = .ok (.invokevirtual 302, 3) := by decide +kernel
theorem dX9_image_14 : decode mX9_image.1 14 = .ok (.aload_n 0, 1) := by decide +kernel
theorem dX9_image_15 : decode mX9_image.1 15 = .ok (.getfield 64, 3) := by decide +kernel
theorem dX9_image_18 : decode mX9_image.1 18 = .ok (.getfield 109, 3) := by decide +kernel
theorem dX9_image_21 : decode mX9_image.1 21 = .ok (.ireturn, 1) := by decide +kernel
theorem X9_image_0 (h : mm_M) : mm_ev mX9_image 2 0 [some (vR 0)] [] h = (mm_call mX2_depict [vR 9, vI (h 1 1)] h).bind (fun w => mm_ev mX9_image 2 14 [some (vR 0)] (w.1 ++ []) w.2) := (ev_aload_n 1 dX9_image_0 rfl rfl).trans ((ev_getF 4 9 dX9_image_1 fl_9_64 oc0 ak0 rfl rf_0_8 rfl).trans ((ev_aload_n 5 dX9_image_4 rfl rfl).trans ((ev_getF 8 1 dX9_image_5 fl_9_10 oc0 ak0 rfl rf_0_0 rfl).trans ((ev_getI 11 1 dX9_image_8 fl_9_79 oc1 ak1 (by decide) rfl rfl).trans ((ev_callv mX2_depict [vR 9, vI (h 1 1)] [] 14 dX9_image_11 ml_9_302 k18 rfl oc9 ak9 rfl rfl (Nat.le_of_ble_eq_true rfl) (Nat.le_of_ble_eq_true rfl) rfl).trans (if_pos (show 1 < 2 from by decide)))))))
theorem X9_image_c (h : mm_M) : mm_call mX9_image [vR 0] h = (mm_call mX2_depict [vR 9, vI (h 1 1)] h).bind (fun w => mm_ev mX9_image 2 14 [some (vR 0)] (w.1 ++ []) w.2) := X9_image_0 h 
theorem X9_image_14 (h : mm_M) : mm_ev mX9_image 2 14 [some (vR 0)] [] h = some ([vI (h 9 0)], h) := (ev_aload_n 15 dX9_image_14 rfl rfl).trans ((ev_getF 18 9 dX9_image_15 fl_9_64 oc0 ak0 rfl rf_0_8 rfl).trans ((ev_getI 21 0 dX9_image_18 fl_9_109 oc9 ak9 (by decide) rfl rfl).trans (ev_iret dX9_image_21 rfl)))
theorem dX9_led_0 : decode mX9_led.1 0 = .ok (.iload_n 1, 1) := by decide +kernel
theorem dX9_led_1 : decode mX9_led.1 1 = .ok (.ifCond .lt 15, 3) := by decide +kernel
theorem dX9_led_4 : decode mX9_led.1 4 = .ok (.iload_n 1, 1) := by decide +kernel
theorem dX9_led_5 : decode mX9_led.1 5 = .ok (.aload_n 0, 1) := by decide +kernel
theorem dX9_led_6 : decode mX9_led.1 6 = .ok (.getfield 64, 3) := by decide +kernel
theorem dX9_led_9 : decode mX9_led.1 9 = .ok (.getfield 293, 3) := by decide +kernel
theorem dX9_led_12 : decode mX9_led.1 12 = .ok (.arraylength, 1) := by decide +kernel
theorem dX9_led_13 : decode mX9_led.1 13 = .ok (.if_icmp .le 5, 3) := by decide +kernel
theorem dX9_led_16 : decode mX9_led.1 16 = .ok (.iconst (-1), 1) := by decide +kernel
theorem dX9_led_17 : decode mX9_led.1 17 = .ok (.ireturn, 1) := by decide +kernel
theorem dX9_led_18 : decode mX9_led.1 18 = .ok (.iload_n 1, 1) := by decide +kernel
theorem dX9_led_19 : decode mX9_led.1 19 = .ok (.aload_n 0, 1) := by decide +kernel
theorem dX9_led_20 : decode mX9_led.1 20 = .ok (.getfield 64, 3) := by decide +kernel
theorem dX9_led_23 : decode mX9_led.1 23 = .ok (.getfield 293, 3) := by decide +kernel
theorem dX9_led_26 : decode mX9_led.1 26 = .ok (.arraylength, 1) := by decide +kernel
theorem dX9_led_27 : decode mX9_led.1 27 = .ok (.if_icmp .ne 13, 3) := by decide +kernel
theorem dX9_led_30 : decode mX9_led.1 30 = .ok (.aload_n 0, 1) := by decide +kernel
theorem dX9_led_31 : decode mX9_led.1 31 = .ok (.getfield 64, 3) := by decide +kernel
theorem dX9_led_34 : decode mX9_led.1 34 = .ok (.getfield 109, 3) := by decide +kernel
theorem dX9_led_37 : decode mX9_led.1 37 = .ok (.goto 12, 3) := by decide +kernel
theorem dX9_led_40 : decode mX9_led.1 40 = .ok (.aload_n 0, 1) := by decide +kernel
theorem dX9_led_41 : decode mX9_led.1 41 = .ok (.getfield 64, 3) := by decide +kernel
theorem dX9_led_44 : decode mX9_led.1 44 = .ok (.getfield 293, 3) := by decide +kernel
theorem dX9_led_47 : decode mX9_led.1 47 = .ok (.iload_n 1, 1) := by decide +kernel
theorem dX9_led_48 : decode mX9_led.1 48 = .ok (.iaload, 1) := by decide +kernel
theorem dX9_led_49 : decode mX9_led.1 49 = .ok (.ireturn, 1) := by decide +kernel
theorem X9_led_0 (h : mm_M) (a1 : Int) : mm_ev mX9_led 1 0 [some (vR 0), some (vI a1)] [] h = if a1 < 0 then some ([vI (-1)], h) else if a1 ≤ 4 then if ¬ a1 = 4 then if 0 ≤ a1 ∧ a1 < 4 then some ([vI (h 40 a1)], h) else none else some ([vI (h 9 0)], h) else some ([vI (-1)], h) := (ev_iload_n 1 dX9_led_0 rfl rfl).trans ((ev_if_lt 16 4 dX9_led_1 rfl rfl).trans (mm_ite ((ev_iconst 17 (v := (-1)) dX9_led_16 rfl rfl).trans (ev_iret dX9_led_17 rfl)) ((ev_iload_n 5 dX9_led_4 rfl rfl).trans ((ev_aload_n 6 dX9_led_5 rfl rfl).trans ((ev_getF 9 9 dX9_led_6 fl_9_64 oc0 ak0 rfl rf_0_8 rfl).trans ((ev_getF 12 40 dX9_led_9 fl_9_293 oc9 ak9 rfl rf_9_4 rfl).trans ((ev_alen 13 4 dX9_led_12 (by rw [ak40]; decide) an40 rfl).trans ((ev_ic_le 18 16 dX9_led_13 rfl rfl).trans (mm_ite ((ev_iload_n 19 dX9_led_18 rfl rfl).trans ((ev_aload_n 20 dX9_led_19 rfl rfl).trans ((ev_getF 23 9 dX9_led_20 fl_9_64 oc0 ak0 rfl rf_0_8 rfl).trans ((ev_getF 26 40 dX9_led_23 fl_9_293 oc9 ak9 rfl rf_9_4 rfl).trans ((ev_alen 27 4 dX9_led_26 (by rw [ak40]; decide) an40 rfl).trans ((ev_ic_ne 40 30 dX9_led_27 rfl rfl).trans (mm_ite ((ev_aload_n 41 dX9_led_40 rfl rfl).trans ((ev_getF 44 9 dX9_led_41 fl_9_64 oc0 ak0 rfl rf_0_8 rfl).trans ((ev_getF 47 40 dX9_led_44 fl_9_293 oc9 ak9 rfl rf_9_4 rfl).trans ((ev_iload_n 48 dX9_led_47 rfl rfl).trans ((ev_iald 49 4 dX9_led_48 ak40 an40 rfl).trans (mm_ite (ev_iret dX9_led_49 rfl) (rfl))))))) ((ev_aload_n 31 dX9_led_30 rfl rfl).trans ((ev_getF 34 9 dX9_led_31 fl_9_64 oc0 ak0 rfl rf_0_8 rfl).trans ((ev_getI 37 0 dX9_led_34 fl_9_109 oc9 ak9 (by decide) rfl rfl).trans ((ev_goto 49 dX9_led_37 rfl).trans (ev_iret dX9_led_49 rfl)))))))))))) ((ev_iconst 17 (v := (-1)) dX9_led_16 rfl rfl).trans (ev_iret dX9_led_17 rfl)))))))))))
theorem X9_led_c (h : mm_M) (a1 : Int) : mm_call mX9_led [vR 0, vI a1] h = if a1 < 0 then some ([vI (-1)], h) else if a1 ≤ 4 then if ¬ a1 = 4 then if 0 ≤ a1 ∧ a1 < 4 then some ([vI (h 40 a1)], h) else none else some ([vI (h 9 0)], h) else some ([vI (-1)], h) := X9_led_0 h a1
theorem dX9_ask_0 : decode mX9_ask.1 0 = .ok (.aload_n 0, 1) := by decide +kernel
theorem dX9_ask_1 : decode mX9_ask.1 1 = .ok (.getfield 10, 3) := by decide +kernel
theorem dX9_ask_4 : decode mX9_ask.1 4 = .ok (.iload_n 1, 1) := by decide +kernel
theorem dX9_ask_5 : decode mX9_ask.1 5 = .ok (.invokevirtual 101, 3) := by decide +kernel
theorem dX9_ask_8 : decode mX9_ask.1 8 = .ok (.ifCond .eq 16, 3) := by decide +kernel
theorem dX9_ask_11 : decode mX9_ask.1 11 = .ok (.aload_n 0, 1) := by decide +kernel
theorem dX9_ask_12 : decode mX9_ask.1 12 = .ok (.getfield 10, 3) := by decide +kernel
theorem dX9_ask_15 : decode mX9_ask.1 15 = .ok (.bipush 9, 2) := by decide +kernel
theorem dX9_ask_17 : decode mX9_ask.1 17 = .ok (.iload_n 2, 1) := by decide +kernel
theorem dX9_ask_18 : decode mX9_ask.1 18 = .ok (.invokevirtual 75, 3) := by decide +kernel
theorem dX9_ask_21 : decode mX9_ask.1 21 = .ok (.ifCond .ne 5, 3) := by decide +kernel
theorem dX9_ask_24 : decode mX9_ask.1 24 = .ok (.iconst (-1), 1) := by decide +kernel
theorem dX9_ask_25 : decode mX9_ask.1 25 = .ok (.ireturn, 1) := by decide +kernel
theorem dX9_ask_26 : decode mX9_ask.1 26 = .ok (.aload_n 0, 1) := by decide +kernel
theorem dX9_ask_27 : decode mX9_ask.1 27 = .ok (.getfield 64, 3) := by decide +kernel
theorem dX9_ask_30 : decode mX9_ask.1 30 = .ok (.iload_n 1, 1) := by decide +kernel
theorem dX9_ask_31 : decode mX9_ask.1 31 = .ok (.iload_n 2, 1) := by decide +kernel
theorem dX9_ask_32 : decode mX9_ask.1 32 = .ok (.aload_n 0, 1) := by decide +kernel
theorem dX9_ask_33 : decode mX9_ask.1 33 = .ok (.getfield 10, 3) := by decide +kernel
theorem dX9_ask_36 : decode mX9_ask.1 36 = .ok (.bipush 11, 2) := by decide +kernel
theorem dX9_ask_38 : decode mX9_ask.1 38 = .ok (.invokevirtual 123, 3) := by decide +kernel
theorem dX9_ask_41 : decode mX9_ask.1 41 = .ok (.invokevirtual 299, 3) := by decide +kernel
theorem dX9_ask_44 : decode mX9_ask.1 44 = .ok (.ireturn, 1) := by decide +kernel
theorem X9_ask_0 (h : mm_M) (a1 : Int) (a2 : Int) : mm_ev mX9_ask 2 0 [some (vR 0), some (vI a1), some (vI a2)] [] h = (mm_call mX4_isPost [vR 1, vI a1] h).bind (fun w => mm_ev mX9_ask 2 8 [some (vR 0), some (vI a1), some (vI a2)] (w.1 ++ []) w.2) := (ev_aload_n 1 dX9_ask_0 rfl rfl).trans ((ev_getF 4 1 dX9_ask_1 fl_9_10 oc0 ak0 rfl rf_0_0 rfl).trans ((ev_iload_n 5 dX9_ask_4 rfl rfl).trans ((ev_callv mX4_isPost [vR 1, vI a1] [] 8 dX9_ask_5 ml_9_101 k43 rfl oc1 ak1 rfl rfl (Nat.le_of_ble_eq_true rfl) (Nat.le_of_ble_eq_true rfl) rfl).trans (if_pos (show 1 < 2 from by decide)))))
theorem X9_ask_c (h : mm_M) (a1 : Int) (a2 : Int) : mm_call mX9_ask [vR 0, vI a1, vI a2] h = (mm_call mX4_isPost [vR 1, vI a1] h).bind (fun w => mm_ev mX9_ask 2 8 [some (vR 0), some (vI a1), some (vI a2)] (w.1 ++ []) w.2) := X9_ask_0 h a1 a2
theorem X9_ask_8 (h : mm_M) (a1 : Int) (a2 : Int) (s0 : Int) : mm_ev mX9_ask 2 8 [some (vR 0), some (vI a1), some (vI a2)] [vI s0] h = if s0 = 0 then some ([vI (-1)], h) else (mm_call mX4_mayBe [vR 1, vI 9, vI a2] h).bind (fun w => mm_ev mX9_ask 2 21 [some (vR 0), some (vI a1), some (vI a2)] (w.1 ++ []) w.2) := (ev_if_eq 24 11 dX9_ask_8 rfl rfl).trans (mm_ite ((ev_iconst 25 (v := (-1)) dX9_ask_24 rfl rfl).trans (ev_iret dX9_ask_25 rfl)) ((ev_aload_n 12 dX9_ask_11 rfl rfl).trans ((ev_getF 15 1 dX9_ask_12 fl_9_10 oc0 ak0 rfl rf_0_0 rfl).trans ((ev_bipush 17 (v := 9) dX9_ask_15 rfl rfl).trans ((ev_iload_n 18 dX9_ask_17 rfl rfl).trans ((ev_callv mX4_mayBe [vR 1, vI 9, vI a2] [] 21 dX9_ask_18 ml_9_75 k40 rfl oc1 ak1 rfl rfl (Nat.le_of_ble_eq_true rfl) (Nat.le_of_ble_eq_true rfl) rfl).trans (if_pos (show 1 < 2 from by decide))))))))
theorem X9_ask_21 (h : mm_M) (a1 : Int) (a2 : Int) (s0 : Int) : mm_ev mX9_ask 2 21 [some (vR 0), some (vI a1), some (vI a2)] [vI s0] h = if ¬ s0 = 0 then (mm_call mX4_the [vR 1, vI 11] h).bind (fun w => mm_ev mX9_ask 2 41 [some (vR 0), some (vI a1), some (vI a2)] (w.1 ++ [vI a2, vI a1, vR 9]) w.2) else some ([vI (-1)], h) := (ev_if_ne 26 24 dX9_ask_21 rfl rfl).trans (mm_ite ((ev_aload_n 27 dX9_ask_26 rfl rfl).trans ((ev_getF 30 9 dX9_ask_27 fl_9_64 oc0 ak0 rfl rf_0_8 rfl).trans ((ev_iload_n 31 dX9_ask_30 rfl rfl).trans ((ev_iload_n 32 dX9_ask_31 rfl rfl).trans ((ev_aload_n 33 dX9_ask_32 rfl rfl).trans ((ev_getF 36 1 dX9_ask_33 fl_9_10 oc0 ak0 rfl rf_0_0 rfl).trans ((ev_bipush 38 (v := 11) dX9_ask_36 rfl rfl).trans ((ev_callv mX4_the [vR 1, vI 11] [vI a2, vI a1, vR 9] 41 dX9_ask_38 ml_9_123 k42 rfl oc1 ak1 rfl rfl (Nat.le_of_ble_eq_true rfl) (Nat.le_of_ble_eq_true rfl) rfl).trans (if_pos (show 1 < 2 from by decide)))))))))) ((ev_iconst 25 (v := (-1)) dX9_ask_24 rfl rfl).trans (ev_iret dX9_ask_25 rfl)))
theorem X9_ask_41 (h : mm_M) (a1 : Int) (a2 : Int) (s0 : Int) (s1 : Int) (s2 : Int) : mm_ev mX9_ask 2 41 [some (vR 0), some (vI a1), some (vI a2)] [vI s0, vI s1, vI s2, vR 9] h = (mm_call mX2_answer [vR 9, vI s2, vI s1, vI s0] h).bind (fun w => mm_ev mX9_ask 2 44 [some (vR 0), some (vI a1), some (vI a2)] (w.1 ++ []) w.2) := (ev_callv mX2_answer [vR 9, vI s2, vI s1, vI s0] [] 44 dX9_ask_41 ml_9_299 k17 rfl oc9 ak9 rfl rfl (Nat.le_of_ble_eq_true rfl) (Nat.le_of_ble_eq_true rfl) rfl).trans (if_pos (show 1 < 2 from by decide))
theorem X9_ask_44 (h : mm_M) (a1 : Int) (a2 : Int) (s0 : Int) : mm_ev mX9_ask 2 44 [some (vR 0), some (vI a1), some (vI a2)] [vI s0] h = some ([vI s0], h) := ev_iret dX9_ask_44 rfl
theorem dX9_stay_0 : decode mX9_stay.1 0 = .ok (.iload_n 1, 1) := by decide +kernel
theorem dX9_stay_1 : decode mX9_stay.1 1 = .ok (.iconst 1, 1) := by decide +kernel
theorem dX9_stay_2 : decode mX9_stay.1 2 = .ok (.if_icmp .lt 10, 3) := by decide +kernel
theorem dX9_stay_5 : decode mX9_stay.1 5 = .ok (.iload_n 1, 1) := by decide +kernel
theorem dX9_stay_6 : decode mX9_stay.1 6 = .ok (.sipush 1000, 3) := by decide +kernel
theorem dX9_stay_9 : decode mX9_stay.1 9 = .ok (.if_icmp .lt 5, 3) := by decide +kernel
theorem dX9_stay_12 : decode mX9_stay.1 12 = .ok (.iconst (-1), 1) := by decide +kernel
theorem dX9_stay_13 : decode mX9_stay.1 13 = .ok (.ireturn, 1) := by decide +kernel
theorem dX9_stay_14 : decode mX9_stay.1 14 = .ok (.aload_n 0, 1) := by decide +kernel
theorem dX9_stay_15 : decode mX9_stay.1 15 = .ok (.getfield 64, 3) := by decide +kernel
theorem dX9_stay_18 : decode mX9_stay.1 18 = .ok (.getfield 109, 3) := by decide +kernel
theorem dX9_stay_21 : decode mX9_stay.1 21 = .ok (.iload_n 1, 1) := by decide +kernel
theorem dX9_stay_22 : decode mX9_stay.1 22 = .ok (.iadd, 1) := by decide +kernel
theorem dX9_stay_23 : decode mX9_stay.1 23 = .ok (.sipush 9999, 3) := by decide +kernel
theorem dX9_stay_26 : decode mX9_stay.1 26 = .ok (.if_icmp .le 6, 3) := by decide +kernel
theorem dX9_stay_29 : decode mX9_stay.1 29 = .ok (.bipush (-5), 2) := by decide +kernel
theorem dX9_stay_31 : decode mX9_stay.1 31 = .ok (.ireturn, 1) := by decide +kernel
theorem dX9_stay_32 : decode mX9_stay.1 32 = .ok (.aload_n 0, 1) := by decide +kernel
theorem dX9_stay_33 : decode mX9_stay.1 33 = .ok (.getfield 64, 3) := by decide +kernel
theorem dX9_stay_36 : decode mX9_stay.1 36 = .ok (.dup, 1) := by decide +kernel
theorem dX9_stay_37 : decode mX9_stay.1 37 = .ok (.getfield 109, 3) := by decide +kernel
theorem dX9_stay_40 : decode mX9_stay.1 40 = .ok (.iload_n 1, 1) := by decide +kernel
theorem dX9_stay_41 : decode mX9_stay.1 41 = .ok (.iadd, 1) := by decide +kernel
theorem dX9_stay_42 : decode mX9_stay.1 42 = .ok (.putfield 109, 3) := by decide +kernel
theorem dX9_stay_45 : decode mX9_stay.1 45 = .ok (.aload_n 0, 1) := by decide +kernel
theorem dX9_stay_46 : decode mX9_stay.1 46 = .ok (.getfield 64, 3) := by decide +kernel
theorem dX9_stay_49 : decode mX9_stay.1 49 = .ok (.getfield 109, 3) := by decide +kernel
theorem dX9_stay_52 : decode mX9_stay.1 52 = .ok (.ireturn, 1) := by decide +kernel
theorem X9_stay_0 (h : mm_M) (a1 : Int) : mm_ev mX9_stay 1 0 [some (vR 0), some (vI a1)] [] h = if a1 < 1 then some ([vI (-1)], h) else if a1 < 1000 then if (w32 ((h 9 0) + a1)) ≤ 9999 then some ([vI ((mUp h 9 0 (w32 ((h 9 0) + a1))) 9 0)], mUp h 9 0 (w32 ((h 9 0) + a1))) else some ([vI (-5)], h) else some ([vI (-1)], h) := (ev_iload_n 1 dX9_stay_0 rfl rfl).trans ((ev_iconst 2 (v := 1) dX9_stay_1 rfl rfl).trans ((ev_ic_lt 12 5 dX9_stay_2 rfl rfl).trans (mm_ite ((ev_iconst 13 (v := (-1)) dX9_stay_12 rfl rfl).trans (ev_iret dX9_stay_13 rfl)) ((ev_iload_n 6 dX9_stay_5 rfl rfl).trans ((ev_sipush 9 (v := 1000) dX9_stay_6 rfl rfl).trans ((ev_ic_lt 14 12 dX9_stay_9 rfl rfl).trans (mm_ite ((ev_aload_n 15 dX9_stay_14 rfl rfl).trans ((ev_getF 18 9 dX9_stay_15 fl_9_64 oc0 ak0 rfl rf_0_8 rfl).trans ((ev_getI 21 0 dX9_stay_18 fl_9_109 oc9 ak9 (by decide) rfl rfl).trans ((ev_iload_n 22 dX9_stay_21 rfl rfl).trans ((ev_iadd 23 dX9_stay_22 rfl).trans ((ev_sipush 26 (v := 9999) dX9_stay_23 rfl rfl).trans ((ev_ic_le 32 29 dX9_stay_26 rfl rfl).trans (mm_ite ((ev_aload_n 33 dX9_stay_32 rfl rfl).trans ((ev_getF 36 9 dX9_stay_33 fl_9_64 oc0 ak0 rfl rf_0_8 rfl).trans ((ev_dup 37 dX9_stay_36 rfl rfl).trans ((ev_getI 40 0 dX9_stay_37 fl_9_109 oc9 ak9 (by decide) rfl rfl).trans ((ev_iload_n 41 dX9_stay_40 rfl rfl).trans ((ev_iadd 42 dX9_stay_41 rfl).trans ((ev_putI 45 0 dX9_stay_42 fl_9_109 oc9 ak9 rfl rfl rfl).trans ((ev_aload_n 46 dX9_stay_45 rfl rfl).trans ((ev_getF 49 9 dX9_stay_46 fl_9_64 oc0 ak0 rfl rf_0_8 rfl).trans ((ev_getI 52 0 dX9_stay_49 fl_9_109 oc9 ak9 (by decide) rfl rfl).trans (ev_iret dX9_stay_52 rfl))))))))))) ((ev_bipush 31 (v := (-5)) dX9_stay_29 rfl rfl).trans (ev_iret dX9_stay_31 rfl)))))))))) ((ev_iconst 13 (v := (-1)) dX9_stay_12 rfl rfl).trans (ev_iret dX9_stay_13 rfl)))))))))
theorem X9_stay_c (h : mm_M) (a1 : Int) : mm_call mX9_stay [vR 0, vI a1] h = if a1 < 1 then some ([vI (-1)], h) else if a1 < 1000 then if (w32 ((h 9 0) + a1)) ≤ 9999 then some ([vI ((mUp h 9 0 (w32 ((h 9 0) + a1))) 9 0)], mUp h 9 0 (w32 ((h 9 0) + a1))) else some ([vI (-5)], h) else some ([vI (-1)], h) := X9_stay_0 h a1
theorem dX9_tell_0 : decode mX9_tell.1 0 = .ok (.iload_n 1, 1) := by decide +kernel
theorem dX9_tell_1 : decode mX9_tell.1 1 = .ok (.ifCond .eq 14, 3) := by decide +kernel
theorem dX9_tell_4 : decode mX9_tell.1 4 = .ok (.aload_n 0, 1) := by decide +kernel
theorem dX9_tell_5 : decode mX9_tell.1 5 = .ok (.getfield 10, 3) := by decide +kernel
theorem dX9_tell_8 : decode mX9_tell.1 8 = .ok (.iload_n 1, 1) := by decide +kernel
theorem dX9_tell_9 : decode mX9_tell.1 9 = .ok (.invokevirtual 101, 3) := by decide +kernel
theorem dX9_tell_12 : decode mX9_tell.1 12 = .ok (.ifCond .ne 5, 3) := by decide +kernel
theorem dX9_tell_15 : decode mX9_tell.1 15 = .ok (.iconst (-1), 1) := by decide +kernel
theorem dX9_tell_16 : decode mX9_tell.1 16 = .ok (.ireturn, 1) := by decide +kernel
theorem dX9_tell_17 : decode mX9_tell.1 17 = .ok (.aload_n 0, 1) := by decide +kernel
theorem dX9_tell_18 : decode mX9_tell.1 18 = .ok (.getfield 64, 3) := by decide +kernel
theorem dX9_tell_21 : decode mX9_tell.1 21 = .ok (.getfield 293, 3) := by decide +kernel
theorem dX9_tell_24 : decode mX9_tell.1 24 = .ok (.iconst 1, 1) := by decide +kernel
theorem dX9_tell_25 : decode mX9_tell.1 25 = .ok (.dup2, 1) := by decide +kernel
theorem dX9_tell_26 : decode mX9_tell.1 26 = .ok (.iaload, 1) := by decide +kernel
theorem dX9_tell_27 : decode mX9_tell.1 27 = .ok (.iconst 1, 1) := by decide +kernel
theorem dX9_tell_28 : decode mX9_tell.1 28 = .ok (.iadd, 1) := by decide +kernel
theorem dX9_tell_29 : decode mX9_tell.1 29 = .ok (.iastore, 1) := by decide +kernel
theorem dX9_tell_30 : decode mX9_tell.1 30 = .ok (.aload_n 0, 1) := by decide +kernel
theorem dX9_tell_31 : decode mX9_tell.1 31 = .ok (.getfield 64, 3) := by decide +kernel
theorem dX9_tell_34 : decode mX9_tell.1 34 = .ok (.iload_n 1, 1) := by decide +kernel
theorem dX9_tell_35 : decode mX9_tell.1 35 = .ok (.aload_n 0, 1) := by decide +kernel
theorem dX9_tell_36 : decode mX9_tell.1 36 = .ok (.getfield 64, 3) := by decide +kernel
theorem dX9_tell_39 : decode mX9_tell.1 39 = .ok (.getfield 105, 3) := by decide +kernel
theorem dX9_tell_42 : decode mX9_tell.1 42 = .ok (.iconst 0, 1) := by decide +kernel
theorem dX9_tell_43 : decode mX9_tell.1 43 = .ok (.iaload, 1) := by decide +kernel
theorem dX9_tell_44 : decode mX9_tell.1 44 = .ok (.invokevirtual 296, 3) := by decide +kernel
theorem dX9_tell_47 : decode mX9_tell.1 47 = .ok (.ireturn, 1) := by decide +kernel
theorem X9_tell_0 (h : mm_M) (a1 : Int) : mm_ev mX9_tell 2 0 [some (vR 0), some (vI a1)] [] h = if a1 = 0 then some ([vI (-1)], h) else (mm_call mX4_isPost [vR 1, vI a1] h).bind (fun w => mm_ev mX9_tell 2 12 [some (vR 0), some (vI a1)] (w.1 ++ []) w.2) := (ev_iload_n 1 dX9_tell_0 rfl rfl).trans ((ev_if_eq 15 4 dX9_tell_1 rfl rfl).trans (mm_ite ((ev_iconst 16 (v := (-1)) dX9_tell_15 rfl rfl).trans (ev_iret dX9_tell_16 rfl)) ((ev_aload_n 5 dX9_tell_4 rfl rfl).trans ((ev_getF 8 1 dX9_tell_5 fl_9_10 oc0 ak0 rfl rf_0_0 rfl).trans ((ev_iload_n 9 dX9_tell_8 rfl rfl).trans ((ev_callv mX4_isPost [vR 1, vI a1] [] 12 dX9_tell_9 ml_9_101 k43 rfl oc1 ak1 rfl rfl (Nat.le_of_ble_eq_true rfl) (Nat.le_of_ble_eq_true rfl) rfl).trans (if_pos (show 1 < 2 from by decide))))))))
theorem X9_tell_c (h : mm_M) (a1 : Int) : mm_call mX9_tell [vR 0, vI a1] h = if a1 = 0 then some ([vI (-1)], h) else (mm_call mX4_isPost [vR 1, vI a1] h).bind (fun w => mm_ev mX9_tell 2 12 [some (vR 0), some (vI a1)] (w.1 ++ []) w.2) := X9_tell_0 h a1
theorem X9_tell_12 (h : mm_M) (a1 : Int) (s0 : Int) : mm_ev mX9_tell 2 12 [some (vR 0), some (vI a1)] [vI s0] h = if ¬ s0 = 0 then if 0 ≤ 1 ∧ 1 < 4 then if 0 ≤ 1 ∧ 1 < 4 then if 0 ≤ 0 ∧ 0 < 7 then (mm_call mX2_give [vR 9, vI a1, vI ((mUp h 40 1 (w32 ((h 40 1) + 1))) 37 0)] (mUp h 40 1 (w32 ((h 40 1) + 1)))).bind (fun w => mm_ev mX9_tell 2 47 [some (vR 0), some (vI a1)] (w.1 ++ []) w.2) else none else none else none else some ([vI (-1)], h) := (ev_if_ne 17 15 dX9_tell_12 rfl rfl).trans (mm_ite ((ev_aload_n 18 dX9_tell_17 rfl rfl).trans ((ev_getF 21 9 dX9_tell_18 fl_9_64 oc0 ak0 rfl rf_0_8 rfl).trans ((ev_getF 24 40 dX9_tell_21 fl_9_293 oc9 ak9 rfl rf_9_4 rfl).trans ((ev_iconst 25 (v := 1) dX9_tell_24 rfl rfl).trans ((ev_dup2 26 dX9_tell_25 rfl rfl).trans ((ev_iald 27 4 dX9_tell_26 ak40 an40 rfl).trans (mm_ite ((ev_iconst 28 (v := 1) dX9_tell_27 rfl rfl).trans ((ev_iadd 29 dX9_tell_28 rfl).trans ((ev_iast 30 4 dX9_tell_29 ak40 an40 rfl).trans (mm_ite ((ev_aload_n 31 dX9_tell_30 rfl rfl).trans ((ev_getF 34 9 dX9_tell_31 fl_9_64 oc0 ak0 rfl rf_0_8 rfl).trans ((ev_iload_n 35 dX9_tell_34 rfl rfl).trans ((ev_aload_n 36 dX9_tell_35 rfl rfl).trans ((ev_getF 39 9 dX9_tell_36 fl_9_64 oc0 ak0 rfl rf_0_8 rfl).trans ((ev_getF 42 37 dX9_tell_39 fl_9_105 oc9 ak9 rfl rf_9_1 rfl).trans ((ev_iconst 43 (v := 0) dX9_tell_42 rfl rfl).trans ((ev_iald 44 7 dX9_tell_43 ak37 an37 rfl).trans (mm_ite ((ev_callv mX2_give [vR 9, vI a1, vI ((mUp h 40 1 (w32 ((h 40 1) + 1))) 37 0)] [] 47 dX9_tell_44 ml_9_296 k16 rfl oc9 ak9 rfl rfl (Nat.le_of_ble_eq_true rfl) (Nat.le_of_ble_eq_true rfl) rfl).trans (if_pos (show 1 < 2 from by decide))) (rfl)))))))))) (rfl))))) (rfl)))))))) ((ev_iconst 16 (v := (-1)) dX9_tell_15 rfl rfl).trans (ev_iret dX9_tell_16 rfl)))
theorem X9_tell_47 (h : mm_M) (a1 : Int) (s0 : Int) : mm_ev mX9_tell 2 47 [some (vR 0), some (vI a1)] [vI s0] h = some ([vI s0], h) := ev_iret dX9_tell_47 rfl
theorem dX9_change_0 : decode mX9_change.1 0 = .ok (.aload_n 0, 1) := by decide +kernel
theorem dX9_change_1 : decode mX9_change.1 1 = .ok (.getfield 10, 3) := by decide +kernel
theorem dX9_change_4 : decode mX9_change.1 4 = .ok (.bipush 9, 2) := by decide +kernel
theorem dX9_change_6 : decode mX9_change.1 6 = .ok (.iload_n 1, 1) := by decide +kernel
theorem dX9_change_7 : decode mX9_change.1 7 = .ok (.invokevirtual 75, 3) := by decide +kernel
theorem dX9_change_10 : decode mX9_change.1 10 = .ok (.ifCond .ne 5, 3) := by decide +kernel
theorem dX9_change_13 : decode mX9_change.1 13 = .ok (.iconst (-1), 1) := by decide +kernel
theorem dX9_change_14 : decode mX9_change.1 14 = .ok (.ireturn, 1) := by decide +kernel
theorem dX9_change_15 : decode mX9_change.1 15 = .ok (.aload_n 0, 1) := by decide +kernel
theorem dX9_change_16 : decode mX9_change.1 16 = .ok (.getfield 10, 3) := by decide +kernel
theorem dX9_change_19 : decode mX9_change.1 19 = .ok (.getfield 79, 3) := by decide +kernel
theorem dX9_change_22 : decode mX9_change.1 22 = .ok (.ifCond .ne 6, 3) := by decide +kernel
theorem dX9_change_25 : decode mX9_change.1 25 = .ok (.bipush (-5), 2) := by decide +kernel
theorem dX9_change_27 : decode mX9_change.1 27 = .ok (.ireturn, 1) := by decide +kernel
theorem dX9_change_28 : decode mX9_change.1 28 = .ok (.aload_n 0, 1) := by decide +kernel
theorem dX9_change_29 : decode mX9_change.1 29 = .ok (.getfield 64, 3) := by decide +kernel
theorem dX9_change_32 : decode mX9_change.1 32 = .ok (.getfield 293, 3) := by decide +kernel
theorem dX9_change_35 : decode mX9_change.1 35 = .ok (.iconst 0, 1) := by decide +kernel
theorem dX9_change_36 : decode mX9_change.1 36 = .ok (.dup2, 1) := by decide +kernel
theorem dX9_change_37 : decode mX9_change.1 37 = .ok (.iaload, 1) := by decide +kernel
theorem dX9_change_38 : decode mX9_change.1 38 = .ok (.iconst 1, 1) := by decide +kernel
theorem dX9_change_39 : decode mX9_change.1 39 = .ok (.iadd, 1) := by decide +kernel
theorem dX9_change_40 : decode mX9_change.1 40 = .ok (.iastore, 1) := by decide +kernel
theorem dX9_change_41 : decode mX9_change.1 41 = .ok (.aload_n 0, 1) := by decide +kernel
theorem dX9_change_42 : decode mX9_change.1 42 = .ok (.getfield 64, 3) := by decide +kernel
theorem dX9_change_45 : decode mX9_change.1 45 = .ok (.iconst 0, 1) := by decide +kernel
theorem dX9_change_46 : decode mX9_change.1 46 = .ok (.iload_n 1, 1) := by decide +kernel
theorem dX9_change_47 : decode mX9_change.1 47 = .ok (.invokevirtual 296, 3) := by decide +kernel
theorem dX9_change_50 : decode mX9_change.1 50 = .ok (.ireturn, 1) := by decide +kernel
theorem X9_change_0 (h : mm_M) (a1 : Int) : mm_ev mX9_change 2 0 [some (vR 0), some (vI a1)] [] h = (mm_call mX4_mayBe [vR 1, vI 9, vI a1] h).bind (fun w => mm_ev mX9_change 2 10 [some (vR 0), some (vI a1)] (w.1 ++ []) w.2) := (ev_aload_n 1 dX9_change_0 rfl rfl).trans ((ev_getF 4 1 dX9_change_1 fl_9_10 oc0 ak0 rfl rf_0_0 rfl).trans ((ev_bipush 6 (v := 9) dX9_change_4 rfl rfl).trans ((ev_iload_n 7 dX9_change_6 rfl rfl).trans ((ev_callv mX4_mayBe [vR 1, vI 9, vI a1] [] 10 dX9_change_7 ml_9_75 k40 rfl oc1 ak1 rfl rfl (Nat.le_of_ble_eq_true rfl) (Nat.le_of_ble_eq_true rfl) rfl).trans (if_pos (show 1 < 2 from by decide))))))
theorem X9_change_c (h : mm_M) (a1 : Int) : mm_call mX9_change [vR 0, vI a1] h = (mm_call mX4_mayBe [vR 1, vI 9, vI a1] h).bind (fun w => mm_ev mX9_change 2 10 [some (vR 0), some (vI a1)] (w.1 ++ []) w.2) := X9_change_0 h a1
theorem X9_change_10 (h : mm_M) (a1 : Int) (s0 : Int) : mm_ev mX9_change 2 10 [some (vR 0), some (vI a1)] [vI s0] h = if ¬ s0 = 0 then if ¬ (h 1 1) = 0 then if 0 ≤ 0 ∧ 0 < 4 then if 0 ≤ 0 ∧ 0 < 4 then (mm_call mX2_give [vR 9, vI 0, vI a1] (mUp h 40 0 (w32 ((h 40 0) + 1)))).bind (fun w => mm_ev mX9_change 2 50 [some (vR 0), some (vI a1)] (w.1 ++ []) w.2) else none else none else some ([vI (-5)], h) else some ([vI (-1)], h) := (ev_if_ne 15 13 dX9_change_10 rfl rfl).trans (mm_ite ((ev_aload_n 16 dX9_change_15 rfl rfl).trans ((ev_getF 19 1 dX9_change_16 fl_9_10 oc0 ak0 rfl rf_0_0 rfl).trans ((ev_getI 22 1 dX9_change_19 fl_9_79 oc1 ak1 (by decide) rfl rfl).trans ((ev_if_ne 28 25 dX9_change_22 rfl rfl).trans (mm_ite ((ev_aload_n 29 dX9_change_28 rfl rfl).trans ((ev_getF 32 9 dX9_change_29 fl_9_64 oc0 ak0 rfl rf_0_8 rfl).trans ((ev_getF 35 40 dX9_change_32 fl_9_293 oc9 ak9 rfl rf_9_4 rfl).trans ((ev_iconst 36 (v := 0) dX9_change_35 rfl rfl).trans ((ev_dup2 37 dX9_change_36 rfl rfl).trans ((ev_iald 38 4 dX9_change_37 ak40 an40 rfl).trans (mm_ite ((ev_iconst 39 (v := 1) dX9_change_38 rfl rfl).trans ((ev_iadd 40 dX9_change_39 rfl).trans ((ev_iast 41 4 dX9_change_40 ak40 an40 rfl).trans (mm_ite ((ev_aload_n 42 dX9_change_41 rfl rfl).trans ((ev_getF 45 9 dX9_change_42 fl_9_64 oc0 ak0 rfl rf_0_8 rfl).trans ((ev_iconst 46 (v := 0) dX9_change_45 rfl rfl).trans ((ev_iload_n 47 dX9_change_46 rfl rfl).trans ((ev_callv mX2_give [vR 9, vI 0, vI a1] [] 50 dX9_change_47 ml_9_296 k16 rfl oc9 ak9 rfl rfl (Nat.le_of_ble_eq_true rfl) (Nat.le_of_ble_eq_true rfl) rfl).trans (if_pos (show 1 < 2 from by decide))))))) (rfl))))) (rfl)))))))) ((ev_bipush 27 (v := (-5)) dX9_change_25 rfl rfl).trans (ev_iret dX9_change_27 rfl))))))) ((ev_iconst 14 (v := (-1)) dX9_change_13 rfl rfl).trans (ev_iret dX9_change_14 rfl)))
theorem X9_change_50 (h : mm_M) (a1 : Int) (s0 : Int) : mm_ev mX9_change 2 50 [some (vR 0), some (vI a1)] [vI s0] h = some ([vI s0], h) := ev_iret dX9_change_50 rfl
theorem dX9_drawn_0 : decode mX9_drawn.1 0 = .ok (.iload_n 3, 1) := by decide +kernel
theorem dX9_drawn_1 : decode mX9_drawn.1 1 = .ok (.iconst 1, 1) := by decide +kernel
theorem dX9_drawn_2 : decode mX9_drawn.1 2 = .ok (.if_icmp .lt 20, 3) := by decide +kernel
theorem dX9_drawn_5 : decode mX9_drawn.1 5 = .ok (.iload_n 3, 1) := by decide +kernel
theorem dX9_drawn_6 : decode mX9_drawn.1 6 = .ok (.bipush 30, 2) := by decide +kernel
theorem dX9_drawn_8 : decode mX9_drawn.1 8 = .ok (.if_icmp .gt 14, 3) := by decide +kernel
theorem dX9_drawn_11 : decode mX9_drawn.1 11 = .ok (.iload 4, 2) := by decide +kernel
theorem dX9_drawn_13 : decode mX9_drawn.1 13 = .ok (.ifCond .lt 9, 3) := by decide +kernel
theorem dX9_drawn_16 : decode mX9_drawn.1 16 = .ok (.iload 4, 2) := by decide +kernel
theorem dX9_drawn_18 : decode mX9_drawn.1 18 = .ok (.iconst 1, 1) := by decide +kernel
theorem dX9_drawn_19 : decode mX9_drawn.1 19 = .ok (.if_icmp .le 5, 3) := by decide +kernel
theorem dX9_drawn_22 : decode mX9_drawn.1 22 = .ok (.iconst (-1), 1) := by decide +kernel
theorem dX9_drawn_23 : decode mX9_drawn.1 23 = .ok (.ireturn, 1) := by decide +kernel
theorem dX9_drawn_24 : decode mX9_drawn.1 24 = .ok (.aload_n 0, 1) := by decide +kernel
theorem dX9_drawn_25 : decode mX9_drawn.1 25 = .ok (.iload_n 1, 1) := by decide +kernel
theorem dX9_drawn_26 : decode mX9_drawn.1 26 = .ok (.invokevirtual 130, 3) := by decide +kernel
theorem dX9_drawn_29 : decode mX9_drawn.1 29 = .ok (.istore 5, 2) := by decide +kernel
theorem dX9_drawn_31 : decode mX9_drawn.1 31 = .ok (.iload 5, 2) := by decide +kernel
theorem dX9_drawn_33 : decode mX9_drawn.1 33 = .ok (.ifCond .eq 6, 3) := by decide +kernel
theorem dX9_drawn_36 : decode mX9_drawn.1 36 = .ok (.iload 5, 2) := by decide +kernel
theorem dX9_drawn_38 : decode mX9_drawn.1 38 = .ok (.ireturn, 1) := by decide +kernel
theorem dX9_drawn_39 : decode mX9_drawn.1 39 = .ok (.aload_n 0, 1) := by decide +kernel
theorem dX9_drawn_40 : decode mX9_drawn.1 40 = .ok (.getfield 43, 3) := by decide +kernel
theorem dX9_drawn_43 : decode mX9_drawn.1 43 = .ok (.aload_n 0, 1) := by decide +kernel
theorem dX9_drawn_44 : decode mX9_drawn.1 44 = .ok (.getfield 10, 3) := by decide +kernel
theorem dX9_drawn_47 : decode mX9_drawn.1 47 = .ok (.aload_n 0, 1) := by decide +kernel
theorem dX9_drawn_48 : decode mX9_drawn.1 48 = .ok (.getfield 19, 3) := by decide +kernel
theorem dX9_drawn_51 : decode mX9_drawn.1 51 = .ok (.aload_n 0, 1) := by decide +kernel
theorem dX9_drawn_52 : decode mX9_drawn.1 52 = .ok (.getfield 33, 3) := by decide +kernel
theorem dX9_drawn_55 : decode mX9_drawn.1 55 = .ok (.aload_n 0, 1) := by decide +kernel
theorem dX9_drawn_56 : decode mX9_drawn.1 56 = .ok (.getfield 10, 3) := by decide +kernel
theorem dX9_drawn_59 : decode mX9_drawn.1 59 = .ok (.bipush 9, 2) := by decide +kernel
theorem dX9_drawn_61 : decode mX9_drawn.1 61 = .ok (.invokevirtual 123, 3) := by decide +kernel
theorem dX9_drawn_64 : decode mX9_drawn.1 64 = .ok (.invokevirtual 204, 3) := by decide +kernel
theorem dX9_drawn_67 : decode mX9_drawn.1 67 = .ok (.aload_n 0, 1) := by decide +kernel
theorem dX9_drawn_68 : decode mX9_drawn.1 68 = .ok (.getfield 43, 3) := by decide +kernel
theorem dX9_drawn_71 : decode mX9_drawn.1 71 = .ok (.iload_n 2, 1) := by decide +kernel
theorem dX9_drawn_72 : decode mX9_drawn.1 72 = .ok (.putfield 281, 3) := by decide +kernel
theorem dX9_drawn_75 : decode mX9_drawn.1 75 = .ok (.iconst 0, 1) := by decide +kernel
theorem dX9_drawn_76 : decode mX9_drawn.1 76 = .ok (.istore 6, 2) := by decide +kernel
theorem dX9_drawn_78 : decode mX9_drawn.1 78 = .ok (.iconst 0, 1) := by decide +kernel
theorem dX9_drawn_79 : decode mX9_drawn.1 79 = .ok (.istore 7, 2) := by decide +kernel
theorem dX9_drawn_81 : decode mX9_drawn.1 81 = .ok (.iload 7, 2) := by decide +kernel
theorem dX9_drawn_83 : decode mX9_drawn.1 83 = .ok (.iload_n 3, 1) := by decide +kernel
theorem dX9_drawn_84 : decode mX9_drawn.1 84 = .ok (.if_icmp .ge 61, 3) := by decide +kernel
theorem dX9_drawn_87 : decode mX9_drawn.1 87 = .ok (.aload_n 0, 1) := by decide +kernel
theorem dX9_drawn_88 : decode mX9_drawn.1 88 = .ok (.getfield 43, 3) := by decide +kernel
theorem dX9_drawn_91 : decode mX9_drawn.1 91 = .ok (.aload_n 0, 1) := by decide +kernel
theorem dX9_drawn_92 : decode mX9_drawn.1 92 = .ok (.getfield 33, 3) := by decide +kernel
theorem dX9_drawn_95 : decode mX9_drawn.1 95 = .ok (.invokevirtual 284, 3) := by decide +kernel
theorem dX9_drawn_98 : decode mX9_drawn.1 98 = .ok (.istore 8, 2) := by decide +kernel
theorem dX9_drawn_100 : decode mX9_drawn.1 100 = .ok (.iload 6, 2) := by decide +kernel
theorem dX9_drawn_102 : decode mX9_drawn.1 102 = .ok (.iload 4, 2) := by decide +kernel
theorem dX9_drawn_104 : decode mX9_drawn.1 104 = .ok (.ifCond .ne 19, 3) := by decide +kernel
theorem dX9_drawn_107 : decode mX9_drawn.1 107 = .ok (.aload_n 0, 1) := by decide +kernel
theorem dX9_drawn_108 : decode mX9_drawn.1 108 = .ok (.getfield 33, 3) := by decide +kernel
theorem dX9_drawn_111 : decode mX9_drawn.1 111 = .ok (.getfield 189, 3) := by decide +kernel
theorem dX9_drawn_114 : decode mX9_drawn.1 114 = .ok (.iload 8, 2) := by decide +kernel
theorem dX9_drawn_116 : decode mX9_drawn.1 116 = .ok (.invokestatic 288, 3) := by decide +kernel
theorem dX9_drawn_119 : decode mX9_drawn.1 119 = .ok (.isub, 1) := by decide +kernel
theorem dX9_drawn_120 : decode mX9_drawn.1 120 = .ok (.goto 16, 3) := by decide +kernel
theorem dX9_drawn_123 : decode mX9_drawn.1 123 = .ok (.aload_n 0, 1) := by decide +kernel
theorem dX9_drawn_124 : decode mX9_drawn.1 124 = .ok (.getfield 33, 3) := by decide +kernel
theorem dX9_drawn_127 : decode mX9_drawn.1 127 = .ok (.aload_n 0, 1) := by decide +kernel
theorem dX9_drawn_128 : decode mX9_drawn.1 128 = .ok (.getfield 10, 3) := by decide +kernel
theorem dX9_drawn_131 : decode mX9_drawn.1 131 = .ok (.iload 8, 2) := by decide +kernel
theorem dX9_drawn_133 : decode mX9_drawn.1 133 = .ok (.invokevirtual 161, 3) := by decide +kernel
theorem dX9_drawn_136 : decode mX9_drawn.1 136 = .ok (.iadd, 1) := by decide +kernel
theorem dX9_drawn_137 : decode mX9_drawn.1 137 = .ok (.istore 6, 2) := by decide +kernel
theorem dX9_drawn_139 : decode mX9_drawn.1 139 = .ok (.iinc 7 1, 3) := by decide +kernel
theorem dX9_drawn_142 : decode mX9_drawn.1 142 = .ok (.goto (-61), 3) := by decide +kernel
theorem dX9_drawn_145 : decode mX9_drawn.1 145 = .ok (.iload 6, 2) := by decide +kernel
theorem dX9_drawn_147 : decode mX9_drawn.1 147 = .ok (.ireturn, 1) := by decide +kernel
theorem X9_drawn_0 (h : mm_M) (a1 : Int) (a2 : Int) (a3 : Int) (a4 : Int) : mm_ev mX9_drawn 6 0 [some (vR 0), some (vI a1), some (vI a2), some (vI a3), some (vI a4), none, none, none, none] [] h = if a3 < 1 then some ([vI (-1)], h) else if 30 < a3 then some ([vI (-1)], h) else if a4 < 0 then some ([vI (-1)], h) else if a4 ≤ 1 then (mm_call mX9_layOut [vR 0, vI a1] h).bind (fun w => mm_ev mX9_drawn 6 29 [some (vR 0), some (vI a1), some (vI a2), some (vI a3), some (vI a4), none, none, none, none] (w.1 ++ []) w.2) else some ([vI (-1)], h) := (ev_iload_n 1 dX9_drawn_0 rfl rfl).trans ((ev_iconst 2 (v := 1) dX9_drawn_1 rfl rfl).trans ((ev_ic_lt 22 5 dX9_drawn_2 rfl rfl).trans (mm_ite ((ev_iconst 23 (v := (-1)) dX9_drawn_22 rfl rfl).trans (ev_iret dX9_drawn_23 rfl)) ((ev_iload_n 6 dX9_drawn_5 rfl rfl).trans ((ev_bipush 8 (v := 30) dX9_drawn_6 rfl rfl).trans ((ev_ic_gt 22 11 dX9_drawn_8 rfl rfl).trans (mm_ite ((ev_iconst 23 (v := (-1)) dX9_drawn_22 rfl rfl).trans (ev_iret dX9_drawn_23 rfl)) ((ev_iload 13 dX9_drawn_11 rfl rfl).trans ((ev_if_lt 22 16 dX9_drawn_13 rfl rfl).trans (mm_ite ((ev_iconst 23 (v := (-1)) dX9_drawn_22 rfl rfl).trans (ev_iret dX9_drawn_23 rfl)) ((ev_iload 18 dX9_drawn_16 rfl rfl).trans ((ev_iconst 19 (v := 1) dX9_drawn_18 rfl rfl).trans ((ev_ic_le 24 22 dX9_drawn_19 rfl rfl).trans (mm_ite ((ev_aload_n 25 dX9_drawn_24 rfl rfl).trans ((ev_iload_n 26 dX9_drawn_25 rfl rfl).trans ((ev_callv mX9_layOut [vR 0, vI a1] [] 29 dX9_drawn_26 ml_9_130 k135 rfl oc0 ak0 rfl rfl (Nat.le_of_ble_eq_true rfl) (Nat.le_of_ble_eq_true rfl) rfl).trans (if_pos (show 5 < 6 from by decide))))) ((ev_iconst 23 (v := (-1)) dX9_drawn_22 rfl rfl).trans (ev_iret dX9_drawn_23 rfl))))))))))))))))
theorem X9_drawn_c (h : mm_M) (a1 : Int) (a2 : Int) (a3 : Int) (a4 : Int) : mm_call mX9_drawn [vR 0, vI a1, vI a2, vI a3, vI a4] h = if a3 < 1 then some ([vI (-1)], h) else if 30 < a3 then some ([vI (-1)], h) else if a4 < 0 then some ([vI (-1)], h) else if a4 ≤ 1 then (mm_call mX9_layOut [vR 0, vI a1] h).bind (fun w => mm_ev mX9_drawn 6 29 [some (vR 0), some (vI a1), some (vI a2), some (vI a3), some (vI a4), none, none, none, none] (w.1 ++ []) w.2) else some ([vI (-1)], h) := X9_drawn_0 h a1 a2 a3 a4
theorem X9_drawn_29 (h : mm_M) (a1 : Int) (a2 : Int) (a3 : Int) (a4 : Int) (s0 : Int) : mm_ev mX9_drawn 6 29 [some (vR 0), some (vI a1), some (vI a2), some (vI a3), some (vI a4), none, none, none, none] [vI s0] h = if s0 = 0 then (mm_call mX4_the [vR 1, vI 9] h).bind (fun w => mm_ev mX9_drawn 6 64 [some (vR 0), some (vI a1), some (vI a2), some (vI a3), some (vI a4), some (vI s0), none, none, none] (w.1 ++ [vR 4, vR 2, vR 1, vR 6]) w.2) else some ([vI s0], h) := (ev_istore 31 [some (vR 0), some (vI a1), some (vI a2), some (vI a3), some (vI a4), some (vI s0), none, none, none] dX9_drawn_29 rfl rfl).trans ((ev_iload 33 dX9_drawn_31 rfl rfl).trans ((ev_if_eq 39 36 dX9_drawn_33 rfl rfl).trans (mm_ite ((ev_aload_n 40 dX9_drawn_39 rfl rfl).trans ((ev_getF 43 6 dX9_drawn_40 fl_9_43 oc0 ak0 rfl rf_0_5 rfl).trans ((ev_aload_n 44 dX9_drawn_43 rfl rfl).trans ((ev_getF 47 1 dX9_drawn_44 fl_9_10 oc0 ak0 rfl rf_0_0 rfl).trans ((ev_aload_n 48 dX9_drawn_47 rfl rfl).trans ((ev_getF 51 2 dX9_drawn_48 fl_9_19 oc0 ak0 rfl rf_0_1 rfl).trans ((ev_aload_n 52 dX9_drawn_51 rfl rfl).trans ((ev_getF 55 4 dX9_drawn_52 fl_9_33 oc0 ak0 rfl rf_0_3 rfl).trans ((ev_aload_n 56 dX9_drawn_55 rfl rfl).trans ((ev_getF 59 1 dX9_drawn_56 fl_9_10 oc0 ak0 rfl rf_0_0 rfl).trans ((ev_bipush 61 (v := 9) dX9_drawn_59 rfl rfl).trans ((ev_callv mX4_the [vR 1, vI 9] [vR 4, vR 2, vR 1, vR 6] 64 dX9_drawn_61 ml_9_123 k42 rfl oc1 ak1 rfl rfl (Nat.le_of_ble_eq_true rfl) (Nat.le_of_ble_eq_true rfl) rfl).trans (if_pos (show 1 < 6 from by decide)))))))))))))) ((ev_iload 38 dX9_drawn_36 rfl rfl).trans (ev_iret dX9_drawn_38 rfl)))))
theorem X9_drawn_64 (h : mm_M) (a1 : Int) (a2 : Int) (a3 : Int) (a4 : Int) (a5 : Int) (s0 : Int) : mm_ev mX9_drawn 6 64 [some (vR 0), some (vI a1), some (vI a2), some (vI a3), some (vI a4), some (vI a5), none, none, none] [vI s0, vR 4, vR 2, vR 1, vR 6] h = (mm_call mX1_weigh [vR 6, vR 1, vR 2, vR 4, vI s0] h).bind (fun w => mm_ev mX9_drawn 6 67 [some (vR 0), some (vI a1), some (vI a2), some (vI a3), some (vI a4), some (vI a5), none, none, none] (w.1 ++ []) w.2) := (ev_callv mX1_weigh [vR 6, vR 1, vR 2, vR 4, vI s0] [] 67 dX9_drawn_64 ml_9_204 k8 rfl oc6 ak6 rfl rfl (Nat.le_of_ble_eq_true rfl) (Nat.le_of_ble_eq_true rfl) rfl).trans (if_pos (show 5 < 6 from by decide))
theorem X9_drawn_67 (h : mm_M) (a1 : Int) (a2 : Int) (a3 : Int) (a4 : Int) (a5 : Int) : mm_ev mX9_drawn 6 67 [some (vR 0), some (vI a1), some (vI a2), some (vI a3), some (vI a4), some (vI a5), none, none, none] [] h = mm_ev mX9_drawn 6 81 [some (vR 0), some (vI a1), some (vI a2), some (vI a3), some (vI a4), some (vI a5), some (vI 0), some (vI 0), none] [] (mUp h 6 0 a2) := (ev_aload_n 68 dX9_drawn_67 rfl rfl).trans ((ev_getF 71 6 dX9_drawn_68 fl_9_43 oc0 ak0 rfl rf_0_5 rfl).trans ((ev_iload_n 72 dX9_drawn_71 rfl rfl).trans ((ev_putI 75 0 dX9_drawn_72 fl_9_281 oc6 ak6 rfl rfl rfl).trans ((ev_iconst 76 (v := 0) dX9_drawn_75 rfl rfl).trans ((ev_istore 78 [some (vR 0), some (vI a1), some (vI a2), some (vI a3), some (vI a4), some (vI a5), some (vI 0), none, none] dX9_drawn_76 rfl rfl).trans ((ev_iconst 79 (v := 0) dX9_drawn_78 rfl rfl).trans (ev_istore 81 [some (vR 0), some (vI a1), some (vI a2), some (vI a3), some (vI a4), some (vI a5), some (vI 0), some (vI 0), none] dX9_drawn_79 rfl rfl)))))))
theorem X9_drawn_81 (h : mm_M) (a1 : Int) (a2 : Int) (a3 : Int) (a4 : Int) (a5 : Int) (a6 : Int) (a7 : Int) (o8 : Option mm_V) : mm_ev mX9_drawn 6 81 [some (vR 0), some (vI a1), some (vI a2), some (vI a3), some (vI a4), some (vI a5), some (vI a6), some (vI a7), o8] [] h = if a3 ≤ a7 then some ([vI a6], h) else (mm_call mX1_drawNight [vR 6, vR 4] h).bind (fun w => mm_ev mX9_drawn 6 98 [some (vR 0), some (vI a1), some (vI a2), some (vI a3), some (vI a4), some (vI a5), some (vI a6), some (vI a7), o8] (w.1 ++ []) w.2) := (ev_iload 83 dX9_drawn_81 rfl rfl).trans ((ev_iload_n 84 dX9_drawn_83 rfl rfl).trans ((ev_ic_ge 145 87 dX9_drawn_84 rfl rfl).trans (mm_ite ((ev_iload 147 dX9_drawn_145 rfl rfl).trans (ev_iret dX9_drawn_147 rfl)) ((ev_aload_n 88 dX9_drawn_87 rfl rfl).trans ((ev_getF 91 6 dX9_drawn_88 fl_9_43 oc0 ak0 rfl rf_0_5 rfl).trans ((ev_aload_n 92 dX9_drawn_91 rfl rfl).trans ((ev_getF 95 4 dX9_drawn_92 fl_9_33 oc0 ak0 rfl rf_0_3 rfl).trans ((ev_callv mX1_drawNight [vR 6, vR 4] [] 98 dX9_drawn_95 ml_9_284 k14 rfl oc6 ak6 rfl rfl (Nat.le_of_ble_eq_true rfl) (Nat.le_of_ble_eq_true rfl) rfl).trans (if_pos (show 1 < 6 from by decide))))))))))
theorem X9_drawn_98 (h : mm_M) (a1 : Int) (a2 : Int) (a3 : Int) (a4 : Int) (a5 : Int) (a6 : Int) (a7 : Int) (o8 : Option mm_V) (s0 : Int) : mm_ev mX9_drawn 6 98 [some (vR 0), some (vI a1), some (vI a2), some (vI a3), some (vI a4), some (vI a5), some (vI a6), some (vI a7), o8] [vI s0] h = if ¬ a4 = 0 then (mm_call mX8_patrolsIn [vR 4, vR 1, vI s0] h).bind (fun w => mm_ev mX9_drawn 6 136 [some (vR 0), some (vI a1), some (vI a2), some (vI a3), some (vI a4), some (vI a5), some (vI a6), some (vI a7), some (vI s0)] (w.1 ++ [vI a6]) w.2) else (mm_call mJ6_bitCount_0f7a4 [vI s0] h).bind (fun w => mm_ev mX9_drawn 6 119 [some (vR 0), some (vI a1), some (vI a2), some (vI a3), some (vI a4), some (vI a5), some (vI a6), some (vI a7), some (vI s0)] (w.1 ++ [vI (h 4 0), vI a6]) w.2) := (ev_istore 100 [some (vR 0), some (vI a1), some (vI a2), some (vI a3), some (vI a4), some (vI a5), some (vI a6), some (vI a7), some (vI s0)] dX9_drawn_98 rfl rfl).trans ((ev_iload 102 dX9_drawn_100 rfl rfl).trans ((ev_iload 104 dX9_drawn_102 rfl rfl).trans ((ev_if_ne 123 107 dX9_drawn_104 rfl rfl).trans (mm_ite ((ev_aload_n 124 dX9_drawn_123 rfl rfl).trans ((ev_getF 127 4 dX9_drawn_124 fl_9_33 oc0 ak0 rfl rf_0_3 rfl).trans ((ev_aload_n 128 dX9_drawn_127 rfl rfl).trans ((ev_getF 131 1 dX9_drawn_128 fl_9_10 oc0 ak0 rfl rf_0_0 rfl).trans ((ev_iload 133 dX9_drawn_131 rfl rfl).trans ((ev_callv mX8_patrolsIn [vR 4, vR 1, vI s0] [vI a6] 136 dX9_drawn_133 ml_9_161 k85 rfl oc4 ak4 rfl rfl (Nat.le_of_ble_eq_true rfl) (Nat.le_of_ble_eq_true rfl) rfl).trans (if_pos (show 5 < 6 from by decide)))))))) ((ev_aload_n 108 dX9_drawn_107 rfl rfl).trans ((ev_getF 111 4 dX9_drawn_108 fl_9_33 oc0 ak0 rfl rf_0_3 rfl).trans ((ev_getI 114 0 dX9_drawn_111 fl_9_189 oc4 ak4 (by decide) rfl rfl).trans ((ev_iload 116 dX9_drawn_114 rfl rfl).trans ((ev_calls mJ6_bitCount_0f7a4 [vI s0] [vI (h 4 0), vI a6] 119 dX9_drawn_116 ml_9_288 k266 rfl rfl rfl (Nat.le_of_ble_eq_true rfl) (Nat.le_of_ble_eq_true rfl) rfl).trans (if_pos (show 1 < 6 from by decide)))))))))))
theorem X9_drawn_119 (h : mm_M) (a1 : Int) (a2 : Int) (a3 : Int) (a4 : Int) (a5 : Int) (a6 : Int) (a7 : Int) (a8 : Int) (s0 : Int) (s1 : Int) (s2 : Int) : mm_ev mX9_drawn 6 119 [some (vR 0), some (vI a1), some (vI a2), some (vI a3), some (vI a4), some (vI a5), some (vI a6), some (vI a7), some (vI a8)] [vI s0, vI s1, vI s2] h = mm_ev mX9_drawn 6 136 [some (vR 0), some (vI a1), some (vI a2), some (vI a3), some (vI a4), some (vI a5), some (vI a6), some (vI a7), some (vI a8)] [vI (w32 (s1 - s0)), vI s2] h := (ev_isub 120 dX9_drawn_119 rfl).trans (ev_goto 136 dX9_drawn_120 rfl)
theorem X9_drawn_136 (h : mm_M) (a1 : Int) (a2 : Int) (a3 : Int) (a4 : Int) (a5 : Int) (a6 : Int) (a7 : Int) (a8 : Int) (s0 : Int) (s1 : Int) : mm_ev mX9_drawn 6 136 [some (vR 0), some (vI a1), some (vI a2), some (vI a3), some (vI a4), some (vI a5), some (vI a6), some (vI a7), some (vI a8)] [vI s0, vI s1] h = mm_ev mX9_drawn 6 81 [some (vR 0), some (vI a1), some (vI a2), some (vI a3), some (vI a4), some (vI a5), some (vI (w32 (s1 + s0))), some (vI (w32 (a7 + 1))), some (vI a8)] [] h := (ev_iadd 137 dX9_drawn_136 rfl).trans ((ev_istore 139 [some (vR 0), some (vI a1), some (vI a2), some (vI a3), some (vI a4), some (vI a5), some (vI (w32 (s1 + s0))), some (vI a7), some (vI a8)] dX9_drawn_137 rfl rfl).trans ((ev_iinc 142 [some (vR 0), some (vI a1), some (vI a2), some (vI a3), some (vI a4), some (vI a5), some (vI (w32 (s1 + s0))), some (vI (w32 (a7 + 1))), some (vI a8)] dX9_drawn_139 rfl rfl rfl).trans (ev_goto 81 dX9_drawn_142 rfl)))
theorem dX9_layOut_0 : decode mX9_layOut.1 0 = .ok (.aload_n 0, 1) := by decide +kernel
theorem dX9_layOut_1 : decode mX9_layOut.1 1 = .ok (.getfield 26, 3) := by decide +kernel
theorem dX9_layOut_4 : decode mX9_layOut.1 4 = .ok (.iload_n 1, 1) := by decide +kernel
theorem dX9_layOut_5 : decode mX9_layOut.1 5 = .ok (.iconst 0, 1) := by decide +kernel
theorem dX9_layOut_6 : decode mX9_layOut.1 6 = .ok (.invokevirtual 87, 3) := by decide +kernel
theorem dX9_layOut_9 : decode mX9_layOut.1 9 = .ok (.istore_n 2, 1) := by decide +kernel
theorem dX9_layOut_10 : decode mX9_layOut.1 10 = .ok (.iload_n 2, 1) := by decide +kernel
theorem dX9_layOut_11 : decode mX9_layOut.1 11 = .ok (.ifCond .ne 19, 3) := by decide +kernel
theorem dX9_layOut_14 : decode mX9_layOut.1 14 = .ok (.aload_n 0, 1) := by decide +kernel
theorem dX9_layOut_15 : decode mX9_layOut.1 15 = .ok (.getfield 33, 3) := by decide +kernel
theorem dX9_layOut_18 : decode mX9_layOut.1 18 = .ok (.aload_n 0, 1) := by decide +kernel
theorem dX9_layOut_19 : decode mX9_layOut.1 19 = .ok (.getfield 10, 3) := by decide +kernel
theorem dX9_layOut_22 : decode mX9_layOut.1 22 = .ok (.aload_n 0, 1) := by decide +kernel
theorem dX9_layOut_23 : decode mX9_layOut.1 23 = .ok (.getfield 26, 3) := by decide +kernel
theorem dX9_layOut_26 : decode mX9_layOut.1 26 = .ok (.iload_n 1, 1) := by decide +kernel
theorem dX9_layOut_27 : decode mX9_layOut.1 27 = .ok (.invokevirtual 382, 3) := by decide +kernel
theorem dX9_layOut_30 : decode mX9_layOut.1 30 = .ok (.iload_n 2, 1) := by decide +kernel
theorem dX9_layOut_31 : decode mX9_layOut.1 31 = .ok (.ireturn, 1) := by decide +kernel
theorem X9_layOut_0 (h : mm_M) (a1 : Int) : mm_ev mX9_layOut 5 0 [some (vR 0), some (vI a1), none] [] h = (mm_call mX7_refusal [vR 3, vI a1, vI 0] h).bind (fun w => mm_ev mX9_layOut 5 9 [some (vR 0), some (vI a1), none] (w.1 ++ []) w.2) := (ev_aload_n 1 dX9_layOut_0 rfl rfl).trans ((ev_getF 4 3 dX9_layOut_1 fl_9_26 oc0 ak0 rfl rf_0_2 rfl).trans ((ev_iload_n 5 dX9_layOut_4 rfl rfl).trans ((ev_iconst 6 (v := 0) dX9_layOut_5 rfl rfl).trans ((ev_callv mX7_refusal [vR 3, vI a1, vI 0] [] 9 dX9_layOut_6 ml_9_87 k65 rfl oc3 ak3 rfl rfl (Nat.le_of_ble_eq_true rfl) (Nat.le_of_ble_eq_true rfl) rfl).trans (if_pos (show 2 < 5 from by decide))))))
theorem X9_layOut_c (h : mm_M) (a1 : Int) : mm_call mX9_layOut [vR 0, vI a1] h = (mm_call mX7_refusal [vR 3, vI a1, vI 0] h).bind (fun w => mm_ev mX9_layOut 5 9 [some (vR 0), some (vI a1), none] (w.1 ++ []) w.2) := X9_layOut_0 h a1
theorem X9_layOut_9 (h : mm_M) (a1 : Int) (s0 : Int) : mm_ev mX9_layOut 5 9 [some (vR 0), some (vI a1), none] [vI s0] h = if ¬ s0 = 0 then mm_ev mX9_layOut 5 30 [some (vR 0), some (vI a1), some (vI s0)] [] h else (mm_call mX8_readFrom [vR 4, vR 1, vR 3, vI a1] h).bind (fun w => mm_ev mX9_layOut 5 30 [some (vR 0), some (vI a1), some (vI s0)] (w.1 ++ []) w.2) := (ev_istore_n 10 [some (vR 0), some (vI a1), some (vI s0)] dX9_layOut_9 rfl rfl).trans ((ev_iload_n 11 dX9_layOut_10 rfl rfl).trans ((ev_if_ne 30 14 dX9_layOut_11 rfl rfl).trans (mm_ite (rfl) ((ev_aload_n 15 dX9_layOut_14 rfl rfl).trans ((ev_getF 18 4 dX9_layOut_15 fl_9_33 oc0 ak0 rfl rf_0_3 rfl).trans ((ev_aload_n 19 dX9_layOut_18 rfl rfl).trans ((ev_getF 22 1 dX9_layOut_19 fl_9_10 oc0 ak0 rfl rf_0_0 rfl).trans ((ev_aload_n 23 dX9_layOut_22 rfl rfl).trans ((ev_getF 26 3 dX9_layOut_23 fl_9_26 oc0 ak0 rfl rf_0_2 rfl).trans ((ev_iload_n 27 dX9_layOut_26 rfl rfl).trans ((ev_callv mX8_readFrom [vR 4, vR 1, vR 3, vI a1] [] 30 dX9_layOut_27 ml_9_382 k73 rfl oc4 ak4 rfl rfl (Nat.le_of_ble_eq_true rfl) (Nat.le_of_ble_eq_true rfl) rfl).trans (if_pos (show 4 < 5 from by decide)))))))))))))
theorem X9_layOut_30 (h : mm_M) (a1 : Int) (a2 : Int) : mm_ev mX9_layOut 5 30 [some (vR 0), some (vI a1), some (vI a2)] [] h = some ([vI a2], h) := (ev_iload_n 31 dX9_layOut_30 rfl rfl).trans (ev_iret dX9_layOut_31 rfl)
theorem dX9_oddWord_0 : decode mX9_oddWord.1 0 = .ok (.aload_n 0, 1) := by decide +kernel
theorem dX9_oddWord_1 : decode mX9_oddWord.1 1 = .ok (.iload_n 1, 1) := by decide +kernel
theorem dX9_oddWord_2 : decode mX9_oddWord.1 2 = .ok (.invokevirtual 250, 3) := by decide +kernel
theorem dX9_oddWord_5 : decode mX9_oddWord.1 5 = .ok (.istore_n 2, 1) := by decide +kernel
theorem dX9_oddWord_6 : decode mX9_oddWord.1 6 = .ok (.iload_n 2, 1) := by decide +kernel
theorem dX9_oddWord_7 : decode mX9_oddWord.1 7 = .ok (.ifCond .eq 5, 3) := by decide +kernel
theorem dX9_oddWord_10 : decode mX9_oddWord.1 10 = .ok (.iload_n 2, 1) := by decide +kernel
theorem dX9_oddWord_11 : decode mX9_oddWord.1 11 = .ok (.ireturn, 1) := by decide +kernel
theorem dX9_oddWord_12 : decode mX9_oddWord.1 12 = .ok (.iconst 0, 1) := by decide +kernel
theorem dX9_oddWord_13 : decode mX9_oddWord.1 13 = .ok (.istore_n 3, 1) := by decide +kernel
theorem dX9_oddWord_14 : decode mX9_oddWord.1 14 = .ok (.iload_n 3, 1) := by decide +kernel
theorem dX9_oddWord_15 : decode mX9_oddWord.1 15 = .ok (.bipush 10, 2) := by decide +kernel
theorem dX9_oddWord_17 : decode mX9_oddWord.1 17 = .ok (.if_icmp .ge 52, 3) := by decide +kernel
theorem dX9_oddWord_20 : decode mX9_oddWord.1 20 = .ok (.aload_n 0, 1) := by decide +kernel
theorem dX9_oddWord_21 : decode mX9_oddWord.1 21 = .ok (.getfield 50, 3) := by decide +kernel
theorem dX9_oddWord_24 : decode mX9_oddWord.1 24 = .ok (.aload_n 0, 1) := by decide +kernel
theorem dX9_oddWord_25 : decode mX9_oddWord.1 25 = .ok (.getfield 10, 3) := by decide +kernel
theorem dX9_oddWord_28 : decode mX9_oddWord.1 28 = .ok (.aload_n 0, 1) := by decide +kernel
theorem dX9_oddWord_29 : decode mX9_oddWord.1 29 = .ok (.getfield 26, 3) := by decide +kernel
theorem dX9_oddWord_32 : decode mX9_oddWord.1 32 = .ok (.iload_n 1, 1) := by decide +kernel
theorem dX9_oddWord_33 : decode mX9_oddWord.1 33 = .ok (.bipush 10, 2) := by decide +kernel
theorem dX9_oddWord_35 : decode mX9_oddWord.1 35 = .ok (.irem, 1) := by decide +kernel
theorem dX9_oddWord_36 : decode mX9_oddWord.1 36 = .ok (.iload_n 3, 1) := by decide +kernel
theorem dX9_oddWord_37 : decode mX9_oddWord.1 37 = .ok (.invokevirtual 259, 3) := by decide +kernel
theorem dX9_oddWord_40 : decode mX9_oddWord.1 40 = .ok (.ifCond .eq 23, 3) := by decide +kernel
theorem dX9_oddWord_43 : decode mX9_oddWord.1 43 = .ok (.aload_n 0, 1) := by decide +kernel
theorem dX9_oddWord_44 : decode mX9_oddWord.1 44 = .ok (.getfield 50, 3) := by decide +kernel
theorem dX9_oddWord_47 : decode mX9_oddWord.1 47 = .ok (.aload_n 0, 1) := by decide +kernel
theorem dX9_oddWord_48 : decode mX9_oddWord.1 48 = .ok (.getfield 10, 3) := by decide +kernel
theorem dX9_oddWord_51 : decode mX9_oddWord.1 51 = .ok (.aload_n 0, 1) := by decide +kernel
theorem dX9_oddWord_52 : decode mX9_oddWord.1 52 = .ok (.getfield 33, 3) := by decide +kernel
theorem dX9_oddWord_55 : decode mX9_oddWord.1 55 = .ok (.invokevirtual 277, 3) := by decide +kernel
theorem dX9_oddWord_58 : decode mX9_oddWord.1 58 = .ok (.ifCond .eq 5, 3) := by decide +kernel
theorem dX9_oddWord_61 : decode mX9_oddWord.1 61 = .ok (.iload_n 3, 1) := by decide +kernel
theorem dX9_oddWord_62 : decode mX9_oddWord.1 62 = .ok (.ireturn, 1) := by decide +kernel
theorem dX9_oddWord_63 : decode mX9_oddWord.1 63 = .ok (.iinc 3 1, 3) := by decide +kernel
theorem dX9_oddWord_66 : decode mX9_oddWord.1 66 = .ok (.goto (-52), 3) := by decide +kernel
theorem dX9_oddWord_69 : decode mX9_oddWord.1 69 = .ok (.bipush (-2), 2) := by decide +kernel
theorem dX9_oddWord_71 : decode mX9_oddWord.1 71 = .ok (.ireturn, 1) := by decide +kernel
theorem X9_oddWord_0 (h : mm_M) (a1 : Int) : mm_ev mX9_oddWord 6 0 [some (vR 0), some (vI a1), none, none] [] h = (mm_call mX9_layOutBoth [vR 0, vI a1] h).bind (fun w => mm_ev mX9_oddWord 6 5 [some (vR 0), some (vI a1), none, none] (w.1 ++ []) w.2) := (ev_aload_n 1 dX9_oddWord_0 rfl rfl).trans ((ev_iload_n 2 dX9_oddWord_1 rfl rfl).trans ((ev_callv mX9_layOutBoth [vR 0, vI a1] [] 5 dX9_oddWord_2 ml_9_250 k136 rfl oc0 ak0 rfl rfl (Nat.le_of_ble_eq_true rfl) (Nat.le_of_ble_eq_true rfl) rfl).trans (if_pos (show 5 < 6 from by decide))))
theorem X9_oddWord_c (h : mm_M) (a1 : Int) : mm_call mX9_oddWord [vR 0, vI a1] h = (mm_call mX9_layOutBoth [vR 0, vI a1] h).bind (fun w => mm_ev mX9_oddWord 6 5 [some (vR 0), some (vI a1), none, none] (w.1 ++ []) w.2) := X9_oddWord_0 h a1
theorem X9_oddWord_5 (h : mm_M) (a1 : Int) (s0 : Int) : mm_ev mX9_oddWord 6 5 [some (vR 0), some (vI a1), none, none] [vI s0] h = if s0 = 0 then mm_ev mX9_oddWord 6 14 [some (vR 0), some (vI a1), some (vI s0), some (vI 0)] [] h else some ([vI s0], h) := (ev_istore_n 6 [some (vR 0), some (vI a1), some (vI s0), none] dX9_oddWord_5 rfl rfl).trans ((ev_iload_n 7 dX9_oddWord_6 rfl rfl).trans ((ev_if_eq 12 10 dX9_oddWord_7 rfl rfl).trans (mm_ite ((ev_iconst 13 (v := 0) dX9_oddWord_12 rfl rfl).trans (ev_istore_n 14 [some (vR 0), some (vI a1), some (vI s0), some (vI 0)] dX9_oddWord_13 rfl rfl)) ((ev_iload_n 11 dX9_oddWord_10 rfl rfl).trans (ev_iret dX9_oddWord_11 rfl)))))
theorem X9_oddWord_14 (h : mm_M) (a1 : Int) (a2 : Int) (a3 : Int) : mm_ev mX9_oddWord 6 14 [some (vR 0), some (vI a1), some (vI a2), some (vI a3)] [] h = if 10 ≤ a3 then some ([vI (-2)], h) else (mm_call mX5_read [vR 7, vR 1, vR 3, vI (a1.tmod 10), vI a3] h).bind (fun w => mm_ev mX9_oddWord 6 40 [some (vR 0), some (vI a1), some (vI a2), some (vI a3)] (w.1 ++ []) w.2) := (ev_iload_n 15 dX9_oddWord_14 rfl rfl).trans ((ev_bipush 17 (v := 10) dX9_oddWord_15 rfl rfl).trans ((ev_ic_ge 69 20 dX9_oddWord_17 rfl rfl).trans (mm_ite ((ev_bipush 71 (v := (-2)) dX9_oddWord_69 rfl rfl).trans (ev_iret dX9_oddWord_71 rfl)) ((ev_aload_n 21 dX9_oddWord_20 rfl rfl).trans ((ev_getF 24 7 dX9_oddWord_21 fl_9_50 oc0 ak0 rfl rf_0_6 rfl).trans ((ev_aload_n 25 dX9_oddWord_24 rfl rfl).trans ((ev_getF 28 1 dX9_oddWord_25 fl_9_10 oc0 ak0 rfl rf_0_0 rfl).trans ((ev_aload_n 29 dX9_oddWord_28 rfl rfl).trans ((ev_getF 32 3 dX9_oddWord_29 fl_9_26 oc0 ak0 rfl rf_0_2 rfl).trans ((ev_iload_n 33 dX9_oddWord_32 rfl rfl).trans ((ev_bipush 35 (v := 10) dX9_oddWord_33 rfl rfl).trans (((ev_irem 36 dX9_oddWord_35 rfl).trans (if_neg (by decide))).trans ((ev_iload_n 37 dX9_oddWord_36 rfl rfl).trans ((ev_callv mX5_read [vR 7, vR 1, vR 3, vI (a1.tmod 10), vI a3] [] 40 dX9_oddWord_37 ml_9_259 k51 rfl oc7 ak7 rfl rfl (Nat.le_of_ble_eq_true rfl) (Nat.le_of_ble_eq_true rfl) rfl).trans (if_pos (show 4 < 6 from by decide))))))))))))))))
theorem X9_oddWord_40 (h : mm_M) (a1 : Int) (a2 : Int) (a3 : Int) (s0 : Int) : mm_ev mX9_oddWord 6 40 [some (vR 0), some (vI a1), some (vI a2), some (vI a3)] [vI s0] h = if s0 = 0 then mm_ev mX9_oddWord 6 14 [some (vR 0), some (vI a1), some (vI a2), some (vI (w32 (a3 + 1)))] [] h else (mm_call mX5_fitsAll [vR 7, vR 1, vR 4] h).bind (fun w => mm_ev mX9_oddWord 6 58 [some (vR 0), some (vI a1), some (vI a2), some (vI a3)] (w.1 ++ []) w.2) := (ev_if_eq 63 43 dX9_oddWord_40 rfl rfl).trans (mm_ite ((ev_iinc 66 [some (vR 0), some (vI a1), some (vI a2), some (vI (w32 (a3 + 1)))] dX9_oddWord_63 rfl rfl rfl).trans (ev_goto 14 dX9_oddWord_66 rfl)) ((ev_aload_n 44 dX9_oddWord_43 rfl rfl).trans ((ev_getF 47 7 dX9_oddWord_44 fl_9_50 oc0 ak0 rfl rf_0_6 rfl).trans ((ev_aload_n 48 dX9_oddWord_47 rfl rfl).trans ((ev_getF 51 1 dX9_oddWord_48 fl_9_10 oc0 ak0 rfl rf_0_0 rfl).trans ((ev_aload_n 52 dX9_oddWord_51 rfl rfl).trans ((ev_getF 55 4 dX9_oddWord_52 fl_9_33 oc0 ak0 rfl rf_0_3 rfl).trans ((ev_callv mX5_fitsAll [vR 7, vR 1, vR 4] [] 58 dX9_oddWord_55 ml_9_277 k55 rfl oc7 ak7 rfl rfl (Nat.le_of_ble_eq_true rfl) (Nat.le_of_ble_eq_true rfl) rfl).trans (if_pos (show 3 < 6 from by decide))))))))))
theorem X9_oddWord_58 (h : mm_M) (a1 : Int) (a2 : Int) (a3 : Int) (s0 : Int) : mm_ev mX9_oddWord 6 58 [some (vR 0), some (vI a1), some (vI a2), some (vI a3)] [vI s0] h = if s0 = 0 then mm_ev mX9_oddWord 6 14 [some (vR 0), some (vI a1), some (vI a2), some (vI (w32 (a3 + 1)))] [] h else some ([vI a3], h) := (ev_if_eq 63 61 dX9_oddWord_58 rfl rfl).trans (mm_ite ((ev_iinc 66 [some (vR 0), some (vI a1), some (vI a2), some (vI (w32 (a3 + 1)))] dX9_oddWord_63 rfl rfl rfl).trans (ev_goto 14 dX9_oddWord_66 rfl)) ((ev_iload_n 62 dX9_oddWord_61 rfl rfl).trans (ev_iret dX9_oddWord_62 rfl)))
theorem dX9_layOutBoth_0 : decode mX9_layOutBoth.1 0 = .ok (.iload_n 1, 1) := by decide +kernel
theorem dX9_layOutBoth_1 : decode mX9_layOutBoth.1 1 = .ok (.ifCond .lt 31, 3) := by decide +kernel
theorem dX9_layOutBoth_4 : decode mX9_layOutBoth.1 4 = .ok (.aload_n 0, 1) := by decide +kernel
theorem dX9_layOutBoth_5 : decode mX9_layOutBoth.1 5 = .ok (.getfield 26, 3) := by decide +kernel
theorem dX9_layOutBoth_8 : decode mX9_layOutBoth.1 8 = .ok (.iload_n 1, 1) := by decide +kernel
theorem dX9_layOutBoth_9 : decode mX9_layOutBoth.1 9 = .ok (.bipush 10, 2) := by decide +kernel
theorem dX9_layOutBoth_11 : decode mX9_layOutBoth.1 11 = .ok (.idiv, 1) := by decide +kernel
theorem dX9_layOutBoth_12 : decode mX9_layOutBoth.1 12 = .ok (.invokevirtual 330, 3) := by decide +kernel
theorem dX9_layOutBoth_15 : decode mX9_layOutBoth.1 15 = .ok (.ifCond .eq 17, 3) := by decide +kernel
theorem dX9_layOutBoth_18 : decode mX9_layOutBoth.1 18 = .ok (.aload_n 0, 1) := by decide +kernel
theorem dX9_layOutBoth_19 : decode mX9_layOutBoth.1 19 = .ok (.getfield 26, 3) := by decide +kernel
theorem dX9_layOutBoth_22 : decode mX9_layOutBoth.1 22 = .ok (.iload_n 1, 1) := by decide +kernel
theorem dX9_layOutBoth_23 : decode mX9_layOutBoth.1 23 = .ok (.bipush 10, 2) := by decide +kernel
theorem dX9_layOutBoth_25 : decode mX9_layOutBoth.1 25 = .ok (.irem, 1) := by decide +kernel
theorem dX9_layOutBoth_26 : decode mX9_layOutBoth.1 26 = .ok (.invokevirtual 330, 3) := by decide +kernel
theorem dX9_layOutBoth_29 : decode mX9_layOutBoth.1 29 = .ok (.ifCond .ne 5, 3) := by decide +kernel
theorem dX9_layOutBoth_32 : decode mX9_layOutBoth.1 32 = .ok (.iconst (-1), 1) := by decide +kernel
theorem dX9_layOutBoth_33 : decode mX9_layOutBoth.1 33 = .ok (.ireturn, 1) := by decide +kernel
theorem dX9_layOutBoth_34 : decode mX9_layOutBoth.1 34 = .ok (.aload_n 0, 1) := by decide +kernel
theorem dX9_layOutBoth_35 : decode mX9_layOutBoth.1 35 = .ok (.getfield 26, 3) := by decide +kernel
theorem dX9_layOutBoth_38 : decode mX9_layOutBoth.1 38 = .ok (.iload_n 1, 1) := by decide +kernel
theorem dX9_layOutBoth_39 : decode mX9_layOutBoth.1 39 = .ok (.bipush 10, 2) := by decide +kernel
theorem dX9_layOutBoth_41 : decode mX9_layOutBoth.1 41 = .ok (.idiv, 1) := by decide +kernel
theorem dX9_layOutBoth_42 : decode mX9_layOutBoth.1 42 = .ok (.iconst 0, 1) := by decide +kernel
theorem dX9_layOutBoth_43 : decode mX9_layOutBoth.1 43 = .ok (.invokevirtual 87, 3) := by decide +kernel
theorem dX9_layOutBoth_46 : decode mX9_layOutBoth.1 46 = .ok (.istore_n 2, 1) := by decide +kernel
theorem dX9_layOutBoth_47 : decode mX9_layOutBoth.1 47 = .ok (.aload_n 0, 1) := by decide +kernel
theorem dX9_layOutBoth_48 : decode mX9_layOutBoth.1 48 = .ok (.getfield 26, 3) := by decide +kernel
theorem dX9_layOutBoth_51 : decode mX9_layOutBoth.1 51 = .ok (.iload_n 1, 1) := by decide +kernel
theorem dX9_layOutBoth_52 : decode mX9_layOutBoth.1 52 = .ok (.bipush 10, 2) := by decide +kernel
theorem dX9_layOutBoth_54 : decode mX9_layOutBoth.1 54 = .ok (.irem, 1) := by decide +kernel
theorem dX9_layOutBoth_55 : decode mX9_layOutBoth.1 55 = .ok (.iconst 1, 1) := by decide +kernel
theorem dX9_layOutBoth_56 : decode mX9_layOutBoth.1 56 = .ok (.invokevirtual 87, 3) := by decide +kernel
theorem dX9_layOutBoth_59 : decode mX9_layOutBoth.1 59 = .ok (.istore_n 3, 1) := by decide +kernel
theorem dX9_layOutBoth_60 : decode mX9_layOutBoth.1 60 = .ok (.iload_n 2, 1) := by decide +kernel
theorem dX9_layOutBoth_61 : decode mX9_layOutBoth.1 61 = .ok (.bipush (-11), 2) := by decide +kernel
theorem dX9_layOutBoth_63 : decode mX9_layOutBoth.1 63 = .ok (.if_icmp .eq 9, 3) := by decide +kernel
theorem dX9_layOutBoth_66 : decode mX9_layOutBoth.1 66 = .ok (.iload_n 3, 1) := by decide +kernel
theorem dX9_layOutBoth_67 : decode mX9_layOutBoth.1 67 = .ok (.bipush (-11), 2) := by decide +kernel
theorem dX9_layOutBoth_69 : decode mX9_layOutBoth.1 69 = .ok (.if_icmp .ne 6, 3) := by decide +kernel
theorem dX9_layOutBoth_72 : decode mX9_layOutBoth.1 72 = .ok (.bipush (-11), 2) := by decide +kernel
theorem dX9_layOutBoth_74 : decode mX9_layOutBoth.1 74 = .ok (.ireturn, 1) := by decide +kernel
theorem dX9_layOutBoth_75 : decode mX9_layOutBoth.1 75 = .ok (.iload_n 2, 1) := by decide +kernel
theorem dX9_layOutBoth_76 : decode mX9_layOutBoth.1 76 = .ok (.ifCond .ne 7, 3) := by decide +kernel
theorem dX9_layOutBoth_79 : decode mX9_layOutBoth.1 79 = .ok (.iload_n 3, 1) := by decide +kernel
theorem dX9_layOutBoth_80 : decode mX9_layOutBoth.1 80 = .ok (.ifCond .eq 6, 3) := by decide +kernel
theorem dX9_layOutBoth_83 : decode mX9_layOutBoth.1 83 = .ok (.bipush (-12), 2) := by decide +kernel
theorem dX9_layOutBoth_85 : decode mX9_layOutBoth.1 85 = .ok (.ireturn, 1) := by decide +kernel
theorem dX9_layOutBoth_86 : decode mX9_layOutBoth.1 86 = .ok (.aload_n 0, 1) := by decide +kernel
theorem dX9_layOutBoth_87 : decode mX9_layOutBoth.1 87 = .ok (.getfield 33, 3) := by decide +kernel
theorem dX9_layOutBoth_90 : decode mX9_layOutBoth.1 90 = .ok (.aload_n 0, 1) := by decide +kernel
theorem dX9_layOutBoth_91 : decode mX9_layOutBoth.1 91 = .ok (.getfield 10, 3) := by decide +kernel
theorem dX9_layOutBoth_94 : decode mX9_layOutBoth.1 94 = .ok (.aload_n 0, 1) := by decide +kernel
theorem dX9_layOutBoth_95 : decode mX9_layOutBoth.1 95 = .ok (.getfield 26, 3) := by decide +kernel
theorem dX9_layOutBoth_98 : decode mX9_layOutBoth.1 98 = .ok (.iload_n 1, 1) := by decide +kernel
theorem dX9_layOutBoth_99 : decode mX9_layOutBoth.1 99 = .ok (.bipush 10, 2) := by decide +kernel
theorem dX9_layOutBoth_101 : decode mX9_layOutBoth.1 101 = .ok (.idiv, 1) := by decide +kernel
theorem dX9_layOutBoth_102 : decode mX9_layOutBoth.1 102 = .ok (.invokevirtual 382, 3) := by decide +kernel
theorem dX9_layOutBoth_105 : decode mX9_layOutBoth.1 105 = .ok (.iconst 0, 1) := by decide +kernel
theorem dX9_layOutBoth_106 : decode mX9_layOutBoth.1 106 = .ok (.ireturn, 1) := by decide +kernel
theorem X9_layOutBoth_0 (h : mm_M) (a1 : Int) : mm_ev mX9_layOutBoth 5 0 [some (vR 0), some (vI a1), none, none] [] h = if a1 < 0 then some ([vI (-1)], h) else (mm_call mX7_isShelf [vR 3, vI (w32 (a1.tdiv 10))] h).bind (fun w => mm_ev mX9_layOutBoth 5 15 [some (vR 0), some (vI a1), none, none] (w.1 ++ []) w.2) := (ev_iload_n 1 dX9_layOutBoth_0 rfl rfl).trans ((ev_if_lt 32 4 dX9_layOutBoth_1 rfl rfl).trans (mm_ite ((ev_iconst 33 (v := (-1)) dX9_layOutBoth_32 rfl rfl).trans (ev_iret dX9_layOutBoth_33 rfl)) ((ev_aload_n 5 dX9_layOutBoth_4 rfl rfl).trans ((ev_getF 8 3 dX9_layOutBoth_5 fl_9_26 oc0 ak0 rfl rf_0_2 rfl).trans ((ev_iload_n 9 dX9_layOutBoth_8 rfl rfl).trans ((ev_bipush 11 (v := 10) dX9_layOutBoth_9 rfl rfl).trans (((ev_idiv 12 dX9_layOutBoth_11 rfl).trans (if_neg (by decide))).trans ((ev_callv mX7_isShelf [vR 3, vI (w32 (a1.tdiv 10))] [] 15 dX9_layOutBoth_12 ml_9_330 k64 rfl oc3 ak3 rfl rfl (Nat.le_of_ble_eq_true rfl) (Nat.le_of_ble_eq_true rfl) rfl).trans (if_pos (show 1 < 5 from by decide))))))))))
theorem X9_layOutBoth_c (h : mm_M) (a1 : Int) : mm_call mX9_layOutBoth [vR 0, vI a1] h = if a1 < 0 then some ([vI (-1)], h) else (mm_call mX7_isShelf [vR 3, vI (w32 (a1.tdiv 10))] h).bind (fun w => mm_ev mX9_layOutBoth 5 15 [some (vR 0), some (vI a1), none, none] (w.1 ++ []) w.2) := X9_layOutBoth_0 h a1
theorem X9_layOutBoth_15 (h : mm_M) (a1 : Int) (s0 : Int) : mm_ev mX9_layOutBoth 5 15 [some (vR 0), some (vI a1), none, none] [vI s0] h = if s0 = 0 then some ([vI (-1)], h) else (mm_call mX7_isShelf [vR 3, vI (a1.tmod 10)] h).bind (fun w => mm_ev mX9_layOutBoth 5 29 [some (vR 0), some (vI a1), none, none] (w.1 ++ []) w.2) := (ev_if_eq 32 18 dX9_layOutBoth_15 rfl rfl).trans (mm_ite ((ev_iconst 33 (v := (-1)) dX9_layOutBoth_32 rfl rfl).trans (ev_iret dX9_layOutBoth_33 rfl)) ((ev_aload_n 19 dX9_layOutBoth_18 rfl rfl).trans ((ev_getF 22 3 dX9_layOutBoth_19 fl_9_26 oc0 ak0 rfl rf_0_2 rfl).trans ((ev_iload_n 23 dX9_layOutBoth_22 rfl rfl).trans ((ev_bipush 25 (v := 10) dX9_layOutBoth_23 rfl rfl).trans (((ev_irem 26 dX9_layOutBoth_25 rfl).trans (if_neg (by decide))).trans ((ev_callv mX7_isShelf [vR 3, vI (a1.tmod 10)] [] 29 dX9_layOutBoth_26 ml_9_330 k64 rfl oc3 ak3 rfl rfl (Nat.le_of_ble_eq_true rfl) (Nat.le_of_ble_eq_true rfl) rfl).trans (if_pos (show 1 < 5 from by decide)))))))))
theorem X9_layOutBoth_29 (h : mm_M) (a1 : Int) (s0 : Int) : mm_ev mX9_layOutBoth 5 29 [some (vR 0), some (vI a1), none, none] [vI s0] h = if ¬ s0 = 0 then (mm_call mX7_refusal [vR 3, vI (w32 (a1.tdiv 10)), vI 0] h).bind (fun w => mm_ev mX9_layOutBoth 5 46 [some (vR 0), some (vI a1), none, none] (w.1 ++ []) w.2) else some ([vI (-1)], h) := (ev_if_ne 34 32 dX9_layOutBoth_29 rfl rfl).trans (mm_ite ((ev_aload_n 35 dX9_layOutBoth_34 rfl rfl).trans ((ev_getF 38 3 dX9_layOutBoth_35 fl_9_26 oc0 ak0 rfl rf_0_2 rfl).trans ((ev_iload_n 39 dX9_layOutBoth_38 rfl rfl).trans ((ev_bipush 41 (v := 10) dX9_layOutBoth_39 rfl rfl).trans (((ev_idiv 42 dX9_layOutBoth_41 rfl).trans (if_neg (by decide))).trans ((ev_iconst 43 (v := 0) dX9_layOutBoth_42 rfl rfl).trans ((ev_callv mX7_refusal [vR 3, vI (w32 (a1.tdiv 10)), vI 0] [] 46 dX9_layOutBoth_43 ml_9_87 k65 rfl oc3 ak3 rfl rfl (Nat.le_of_ble_eq_true rfl) (Nat.le_of_ble_eq_true rfl) rfl).trans (if_pos (show 2 < 5 from by decide))))))))) ((ev_iconst 33 (v := (-1)) dX9_layOutBoth_32 rfl rfl).trans (ev_iret dX9_layOutBoth_33 rfl)))
theorem X9_layOutBoth_46 (h : mm_M) (a1 : Int) (s0 : Int) : mm_ev mX9_layOutBoth 5 46 [some (vR 0), some (vI a1), none, none] [vI s0] h = (mm_call mX7_refusal [vR 3, vI (a1.tmod 10), vI 1] h).bind (fun w => mm_ev mX9_layOutBoth 5 59 [some (vR 0), some (vI a1), some (vI s0), none] (w.1 ++ []) w.2) := (ev_istore_n 47 [some (vR 0), some (vI a1), some (vI s0), none] dX9_layOutBoth_46 rfl rfl).trans ((ev_aload_n 48 dX9_layOutBoth_47 rfl rfl).trans ((ev_getF 51 3 dX9_layOutBoth_48 fl_9_26 oc0 ak0 rfl rf_0_2 rfl).trans ((ev_iload_n 52 dX9_layOutBoth_51 rfl rfl).trans ((ev_bipush 54 (v := 10) dX9_layOutBoth_52 rfl rfl).trans (((ev_irem 55 dX9_layOutBoth_54 rfl).trans (if_neg (by decide))).trans ((ev_iconst 56 (v := 1) dX9_layOutBoth_55 rfl rfl).trans ((ev_callv mX7_refusal [vR 3, vI (a1.tmod 10), vI 1] [] 59 dX9_layOutBoth_56 ml_9_87 k65 rfl oc3 ak3 rfl rfl (Nat.le_of_ble_eq_true rfl) (Nat.le_of_ble_eq_true rfl) rfl).trans (if_pos (show 2 < 5 from by decide)))))))))
theorem X9_layOutBoth_59 (h : mm_M) (a1 : Int) (a2 : Int) (s0 : Int) : mm_ev mX9_layOutBoth 5 59 [some (vR 0), some (vI a1), some (vI a2), none] [vI s0] h = if a2 = (-11) then some ([vI (-11)], h) else if ¬ s0 = (-11) then if ¬ a2 = 0 then some ([vI (-12)], h) else if s0 = 0 then (mm_call mX8_readFrom [vR 4, vR 1, vR 3, vI (w32 (a1.tdiv 10))] h).bind (fun w => mm_ev mX9_layOutBoth 5 105 [some (vR 0), some (vI a1), some (vI a2), some (vI s0)] (w.1 ++ []) w.2) else some ([vI (-12)], h) else some ([vI (-11)], h) := (ev_istore_n 60 [some (vR 0), some (vI a1), some (vI a2), some (vI s0)] dX9_layOutBoth_59 rfl rfl).trans ((ev_iload_n 61 dX9_layOutBoth_60 rfl rfl).trans ((ev_bipush 63 (v := (-11)) dX9_layOutBoth_61 rfl rfl).trans ((ev_ic_eq 72 66 dX9_layOutBoth_63 rfl rfl).trans (mm_ite ((ev_bipush 74 (v := (-11)) dX9_layOutBoth_72 rfl rfl).trans (ev_iret dX9_layOutBoth_74 rfl)) ((ev_iload_n 67 dX9_layOutBoth_66 rfl rfl).trans ((ev_bipush 69 (v := (-11)) dX9_layOutBoth_67 rfl rfl).trans ((ev_ic_ne 75 72 dX9_layOutBoth_69 rfl rfl).trans (mm_ite ((ev_iload_n 76 dX9_layOutBoth_75 rfl rfl).trans ((ev_if_ne 83 79 dX9_layOutBoth_76 rfl rfl).trans (mm_ite ((ev_bipush 85 (v := (-12)) dX9_layOutBoth_83 rfl rfl).trans (ev_iret dX9_layOutBoth_85 rfl)) ((ev_iload_n 80 dX9_layOutBoth_79 rfl rfl).trans ((ev_if_eq 86 83 dX9_layOutBoth_80 rfl rfl).trans (mm_ite ((ev_aload_n 87 dX9_layOutBoth_86 rfl rfl).trans ((ev_getF 90 4 dX9_layOutBoth_87 fl_9_33 oc0 ak0 rfl rf_0_3 rfl).trans ((ev_aload_n 91 dX9_layOutBoth_90 rfl rfl).trans ((ev_getF 94 1 dX9_layOutBoth_91 fl_9_10 oc0 ak0 rfl rf_0_0 rfl).trans ((ev_aload_n 95 dX9_layOutBoth_94 rfl rfl).trans ((ev_getF 98 3 dX9_layOutBoth_95 fl_9_26 oc0 ak0 rfl rf_0_2 rfl).trans ((ev_iload_n 99 dX9_layOutBoth_98 rfl rfl).trans ((ev_bipush 101 (v := 10) dX9_layOutBoth_99 rfl rfl).trans (((ev_idiv 102 dX9_layOutBoth_101 rfl).trans (if_neg (by decide))).trans ((ev_callv mX8_readFrom [vR 4, vR 1, vR 3, vI (w32 (a1.tdiv 10))] [] 105 dX9_layOutBoth_102 ml_9_382 k73 rfl oc4 ak4 rfl rfl (Nat.le_of_ble_eq_true rfl) (Nat.le_of_ble_eq_true rfl) rfl).trans (if_pos (show 4 < 5 from by decide)))))))))))) ((ev_bipush 85 (v := (-12)) dX9_layOutBoth_83 rfl rfl).trans (ev_iret dX9_layOutBoth_85 rfl)))))))) ((ev_bipush 74 (v := (-11)) dX9_layOutBoth_72 rfl rfl).trans (ev_iret dX9_layOutBoth_74 rfl))))))))))
theorem X9_layOutBoth_105 (h : mm_M) (a1 : Int) (a2 : Int) (a3 : Int) : mm_ev mX9_layOutBoth 5 105 [some (vR 0), some (vI a1), some (vI a2), some (vI a3)] [] h = some ([vI 0], h) := (ev_iconst 106 (v := 0) dX9_layOutBoth_105 rfl rfl).trans (ev_iret dX9_layOutBoth_106 rfl)
theorem dX9_when_0 : decode mX9_when.1 0 = .ok (.aload_n 0, 1) := by decide +kernel
theorem dX9_when_1 : decode mX9_when.1 1 = .ok (.iload_n 1, 1) := by decide +kernel
theorem dX9_when_2 : decode mX9_when.1 2 = .ok (.invokevirtual 250, 3) := by decide +kernel
theorem dX9_when_5 : decode mX9_when.1 5 = .ok (.istore_n 2, 1) := by decide +kernel
theorem dX9_when_6 : decode mX9_when.1 6 = .ok (.iload_n 2, 1) := by decide +kernel
theorem dX9_when_7 : decode mX9_when.1 7 = .ok (.ifCond .eq 5, 3) := by decide +kernel
theorem dX9_when_10 : decode mX9_when.1 10 = .ok (.iload_n 2, 1) := by decide +kernel
theorem dX9_when_11 : decode mX9_when.1 11 = .ok (.ireturn, 1) := by decide +kernel
theorem dX9_when_12 : decode mX9_when.1 12 = .ok (.aload_n 0, 1) := by decide +kernel
theorem dX9_when_13 : decode mX9_when.1 13 = .ok (.getfield 50, 3) := by decide +kernel
theorem dX9_when_16 : decode mX9_when.1 16 = .ok (.aload_n 0, 1) := by decide +kernel
theorem dX9_when_17 : decode mX9_when.1 17 = .ok (.getfield 10, 3) := by decide +kernel
theorem dX9_when_20 : decode mX9_when.1 20 = .ok (.aload_n 0, 1) := by decide +kernel
theorem dX9_when_21 : decode mX9_when.1 21 = .ok (.getfield 26, 3) := by decide +kernel
theorem dX9_when_24 : decode mX9_when.1 24 = .ok (.iload_n 1, 1) := by decide +kernel
theorem dX9_when_25 : decode mX9_when.1 25 = .ok (.bipush 10, 2) := by decide +kernel
theorem dX9_when_27 : decode mX9_when.1 27 = .ok (.irem, 1) := by decide +kernel
theorem dX9_when_28 : decode mX9_when.1 28 = .ok (.aload_n 0, 1) := by decide +kernel
theorem dX9_when_29 : decode mX9_when.1 29 = .ok (.getfield 10, 3) := by decide +kernel
theorem dX9_when_32 : decode mX9_when.1 32 = .ok (.bipush 9, 2) := by decide +kernel
theorem dX9_when_34 : decode mX9_when.1 34 = .ok (.invokevirtual 123, 3) := by decide +kernel
theorem dX9_when_37 : decode mX9_when.1 37 = .ok (.invokevirtual 259, 3) := by decide +kernel
theorem dX9_when_40 : decode mX9_when.1 40 = .ok (.ifCond .ne 6, 3) := by decide +kernel
theorem dX9_when_43 : decode mX9_when.1 43 = .ok (.bipush (-2), 2) := by decide +kernel
theorem dX9_when_45 : decode mX9_when.1 45 = .ok (.ireturn, 1) := by decide +kernel
theorem dX9_when_46 : decode mX9_when.1 46 = .ok (.aload_n 0, 1) := by decide +kernel
theorem dX9_when_47 : decode mX9_when.1 47 = .ok (.getfield 50, 3) := by decide +kernel
theorem dX9_when_50 : decode mX9_when.1 50 = .ok (.aload_n 0, 1) := by decide +kernel
theorem dX9_when_51 : decode mX9_when.1 51 = .ok (.getfield 10, 3) := by decide +kernel
theorem dX9_when_54 : decode mX9_when.1 54 = .ok (.aload_n 0, 1) := by decide +kernel
theorem dX9_when_55 : decode mX9_when.1 55 = .ok (.getfield 33, 3) := by decide +kernel
theorem dX9_when_58 : decode mX9_when.1 58 = .ok (.invokevirtual 273, 3) := by decide +kernel
theorem dX9_when_61 : decode mX9_when.1 61 = .ok (.ireturn, 1) := by decide +kernel
theorem X9_when_0 (h : mm_M) (a1 : Int) : mm_ev mX9_when 6 0 [some (vR 0), some (vI a1), none] [] h = (mm_call mX9_layOutBoth [vR 0, vI a1] h).bind (fun w => mm_ev mX9_when 6 5 [some (vR 0), some (vI a1), none] (w.1 ++ []) w.2) := (ev_aload_n 1 dX9_when_0 rfl rfl).trans ((ev_iload_n 2 dX9_when_1 rfl rfl).trans ((ev_callv mX9_layOutBoth [vR 0, vI a1] [] 5 dX9_when_2 ml_9_250 k136 rfl oc0 ak0 rfl rfl (Nat.le_of_ble_eq_true rfl) (Nat.le_of_ble_eq_true rfl) rfl).trans (if_pos (show 5 < 6 from by decide))))
theorem X9_when_c (h : mm_M) (a1 : Int) : mm_call mX9_when [vR 0, vI a1] h = (mm_call mX9_layOutBoth [vR 0, vI a1] h).bind (fun w => mm_ev mX9_when 6 5 [some (vR 0), some (vI a1), none] (w.1 ++ []) w.2) := X9_when_0 h a1
theorem X9_when_5 (h : mm_M) (a1 : Int) (s0 : Int) : mm_ev mX9_when 6 5 [some (vR 0), some (vI a1), none] [vI s0] h = if s0 = 0 then (mm_call mX4_the [vR 1, vI 9] h).bind (fun w => mm_ev mX9_when 6 37 [some (vR 0), some (vI a1), some (vI s0)] (w.1 ++ [vI (a1.tmod 10), vR 3, vR 1, vR 7]) w.2) else some ([vI s0], h) := (ev_istore_n 6 [some (vR 0), some (vI a1), some (vI s0)] dX9_when_5 rfl rfl).trans ((ev_iload_n 7 dX9_when_6 rfl rfl).trans ((ev_if_eq 12 10 dX9_when_7 rfl rfl).trans (mm_ite ((ev_aload_n 13 dX9_when_12 rfl rfl).trans ((ev_getF 16 7 dX9_when_13 fl_9_50 oc0 ak0 rfl rf_0_6 rfl).trans ((ev_aload_n 17 dX9_when_16 rfl rfl).trans ((ev_getF 20 1 dX9_when_17 fl_9_10 oc0 ak0 rfl rf_0_0 rfl).trans ((ev_aload_n 21 dX9_when_20 rfl rfl).trans ((ev_getF 24 3 dX9_when_21 fl_9_26 oc0 ak0 rfl rf_0_2 rfl).trans ((ev_iload_n 25 dX9_when_24 rfl rfl).trans ((ev_bipush 27 (v := 10) dX9_when_25 rfl rfl).trans (((ev_irem 28 dX9_when_27 rfl).trans (if_neg (by decide))).trans ((ev_aload_n 29 dX9_when_28 rfl rfl).trans ((ev_getF 32 1 dX9_when_29 fl_9_10 oc0 ak0 rfl rf_0_0 rfl).trans ((ev_bipush 34 (v := 9) dX9_when_32 rfl rfl).trans ((ev_callv mX4_the [vR 1, vI 9] [vI (a1.tmod 10), vR 3, vR 1, vR 7] 37 dX9_when_34 ml_9_123 k42 rfl oc1 ak1 rfl rfl (Nat.le_of_ble_eq_true rfl) (Nat.le_of_ble_eq_true rfl) rfl).trans (if_pos (show 1 < 6 from by decide))))))))))))))) ((ev_iload_n 11 dX9_when_10 rfl rfl).trans (ev_iret dX9_when_11 rfl)))))
theorem X9_when_37 (h : mm_M) (a1 : Int) (a2 : Int) (s0 : Int) (s1 : Int) : mm_ev mX9_when 6 37 [some (vR 0), some (vI a1), some (vI a2)] [vI s0, vI s1, vR 3, vR 1, vR 7] h = (mm_call mX5_read [vR 7, vR 1, vR 3, vI s1, vI s0] h).bind (fun w => mm_ev mX9_when 6 40 [some (vR 0), some (vI a1), some (vI a2)] (w.1 ++ []) w.2) := (ev_callv mX5_read [vR 7, vR 1, vR 3, vI s1, vI s0] [] 40 dX9_when_37 ml_9_259 k51 rfl oc7 ak7 rfl rfl (Nat.le_of_ble_eq_true rfl) (Nat.le_of_ble_eq_true rfl) rfl).trans (if_pos (show 4 < 6 from by decide))
theorem X9_when_40 (h : mm_M) (a1 : Int) (a2 : Int) (s0 : Int) : mm_ev mX9_when 6 40 [some (vR 0), some (vI a1), some (vI a2)] [vI s0] h = if ¬ s0 = 0 then (mm_call mX5_leastStart [vR 7, vR 1, vR 4] h).bind (fun w => mm_ev mX9_when 6 61 [some (vR 0), some (vI a1), some (vI a2)] (w.1 ++ []) w.2) else some ([vI (-2)], h) := (ev_if_ne 46 43 dX9_when_40 rfl rfl).trans (mm_ite ((ev_aload_n 47 dX9_when_46 rfl rfl).trans ((ev_getF 50 7 dX9_when_47 fl_9_50 oc0 ak0 rfl rf_0_6 rfl).trans ((ev_aload_n 51 dX9_when_50 rfl rfl).trans ((ev_getF 54 1 dX9_when_51 fl_9_10 oc0 ak0 rfl rf_0_0 rfl).trans ((ev_aload_n 55 dX9_when_54 rfl rfl).trans ((ev_getF 58 4 dX9_when_55 fl_9_33 oc0 ak0 rfl rf_0_3 rfl).trans ((ev_callv mX5_leastStart [vR 7, vR 1, vR 4] [] 61 dX9_when_58 ml_9_273 k56 rfl oc7 ak7 rfl rfl (Nat.le_of_ble_eq_true rfl) (Nat.le_of_ble_eq_true rfl) rfl).trans (if_pos (show 2 < 6 from by decide))))))))) ((ev_bipush 45 (v := (-2)) dX9_when_43 rfl rfl).trans (ev_iret dX9_when_45 rfl)))
theorem X9_when_61 (h : mm_M) (a1 : Int) (a2 : Int) (s0 : Int) : mm_ev mX9_when 6 61 [some (vR 0), some (vI a1), some (vI a2)] [vI s0] h = some ([vI s0], h) := ev_iret dX9_when_61 rfl
theorem dX9_which_0 : decode mX9_which.1 0 = .ok (.iload_n 2, 1) := by decide +kernel
theorem dX9_which_1 : decode mX9_which.1 1 = .ok (.ifCond .lt 8, 3) := by decide +kernel
theorem dX9_which_4 : decode mX9_which.1 4 = .ok (.iload_n 2, 1) := by decide +kernel
theorem dX9_which_5 : decode mX9_which.1 5 = .ok (.iconst 1, 1) := by decide +kernel
theorem dX9_which_6 : decode mX9_which.1 6 = .ok (.if_icmp .le 5, 3) := by decide +kernel
theorem dX9_which_9 : decode mX9_which.1 9 = .ok (.iconst (-1), 1) := by decide +kernel
theorem dX9_which_10 : decode mX9_which.1 10 = .ok (.ireturn, 1) := by decide +kernel
theorem dX9_which_11 : decode mX9_which.1 11 = .ok (.aload_n 0, 1) := by decide +kernel
theorem dX9_which_12 : decode mX9_which.1 12 = .ok (.getfield 26, 3) := by decide +kernel
theorem dX9_which_15 : decode mX9_which.1 15 = .ok (.iload_n 1, 1) := by decide +kernel
theorem dX9_which_16 : decode mX9_which.1 16 = .ok (.iconst 1, 1) := by decide +kernel
theorem dX9_which_17 : decode mX9_which.1 17 = .ok (.invokevirtual 87, 3) := by decide +kernel
theorem dX9_which_20 : decode mX9_which.1 20 = .ok (.istore_n 3, 1) := by decide +kernel
theorem dX9_which_21 : decode mX9_which.1 21 = .ok (.iload_n 3, 1) := by decide +kernel
theorem dX9_which_22 : decode mX9_which.1 22 = .ok (.ifCond .eq 5, 3) := by decide +kernel
theorem dX9_which_25 : decode mX9_which.1 25 = .ok (.iload_n 3, 1) := by decide +kernel
theorem dX9_which_26 : decode mX9_which.1 26 = .ok (.ireturn, 1) := by decide +kernel
theorem dX9_which_27 : decode mX9_which.1 27 = .ok (.aload_n 0, 1) := by decide +kernel
theorem dX9_which_28 : decode mX9_which.1 28 = .ok (.getfield 50, 3) := by decide +kernel
theorem dX9_which_31 : decode mX9_which.1 31 = .ok (.aload_n 0, 1) := by decide +kernel
theorem dX9_which_32 : decode mX9_which.1 32 = .ok (.getfield 10, 3) := by decide +kernel
theorem dX9_which_35 : decode mX9_which.1 35 = .ok (.aload_n 0, 1) := by decide +kernel
theorem dX9_which_36 : decode mX9_which.1 36 = .ok (.getfield 26, 3) := by decide +kernel
theorem dX9_which_39 : decode mX9_which.1 39 = .ok (.iload_n 1, 1) := by decide +kernel
theorem dX9_which_40 : decode mX9_which.1 40 = .ok (.aload_n 0, 1) := by decide +kernel
theorem dX9_which_41 : decode mX9_which.1 41 = .ok (.getfield 10, 3) := by decide +kernel
theorem dX9_which_44 : decode mX9_which.1 44 = .ok (.bipush 9, 2) := by decide +kernel
theorem dX9_which_46 : decode mX9_which.1 46 = .ok (.invokevirtual 123, 3) := by decide +kernel
theorem dX9_which_49 : decode mX9_which.1 49 = .ok (.invokevirtual 259, 3) := by decide +kernel
theorem dX9_which_52 : decode mX9_which.1 52 = .ok (.ifCond .ne 14, 3) := by decide +kernel
theorem dX9_which_55 : decode mX9_which.1 55 = .ok (.iload_n 2, 1) := by decide +kernel
theorem dX9_which_56 : decode mX9_which.1 56 = .ok (.ifCond .ne 7, 3) := by decide +kernel
theorem dX9_which_59 : decode mX9_which.1 59 = .ok (.iconst 0, 1) := by decide +kernel
theorem dX9_which_60 : decode mX9_which.1 60 = .ok (.goto 5, 3) := by decide +kernel
theorem dX9_which_63 : decode mX9_which.1 63 = .ok (.bipush (-2), 2) := by decide +kernel
theorem dX9_which_65 : decode mX9_which.1 65 = .ok (.ireturn, 1) := by decide +kernel
theorem dX9_which_66 : decode mX9_which.1 66 = .ok (.aload_n 0, 1) := by decide +kernel
theorem dX9_which_67 : decode mX9_which.1 67 = .ok (.getfield 57, 3) := by decide +kernel
theorem dX9_which_70 : decode mX9_which.1 70 = .ok (.aload_n 0, 1) := by decide +kernel
theorem dX9_which_71 : decode mX9_which.1 71 = .ok (.getfield 10, 3) := by decide +kernel
theorem dX9_which_74 : decode mX9_which.1 74 = .ok (.aload_n 0, 1) := by decide +kernel
theorem dX9_which_75 : decode mX9_which.1 75 = .ok (.getfield 50, 3) := by decide +kernel
theorem dX9_which_78 : decode mX9_which.1 78 = .ok (.invokevirtual 263, 3) := by decide +kernel
theorem dX9_which_81 : decode mX9_which.1 81 = .ok (.iload_n 2, 1) := by decide +kernel
theorem dX9_which_82 : decode mX9_which.1 82 = .ok (.ifCond .ne 13, 3) := by decide +kernel
theorem dX9_which_85 : decode mX9_which.1 85 = .ok (.aload_n 0, 1) := by decide +kernel
theorem dX9_which_86 : decode mX9_which.1 86 = .ok (.getfield 57, 3) := by decide +kernel
theorem dX9_which_89 : decode mX9_which.1 89 = .ok (.getfield 267, 3) := by decide +kernel
theorem dX9_which_92 : decode mX9_which.1 92 = .ok (.goto 10, 3) := by decide +kernel
theorem dX9_which_95 : decode mX9_which.1 95 = .ok (.aload_n 0, 1) := by decide +kernel
theorem dX9_which_96 : decode mX9_which.1 96 = .ok (.getfield 57, 3) := by decide +kernel
theorem dX9_which_99 : decode mX9_which.1 99 = .ok (.getfield 270, 3) := by decide +kernel
theorem dX9_which_102 : decode mX9_which.1 102 = .ok (.ireturn, 1) := by decide +kernel
theorem X9_which_0 (h : mm_M) (a1 : Int) (a2 : Int) : mm_ev mX9_which 22 0 [some (vR 0), some (vI a1), some (vI a2), none] [] h = if a2 < 0 then some ([vI (-1)], h) else if a2 ≤ 1 then (mm_call mX7_refusal [vR 3, vI a1, vI 1] h).bind (fun w => mm_ev mX9_which 22 20 [some (vR 0), some (vI a1), some (vI a2), none] (w.1 ++ []) w.2) else some ([vI (-1)], h) := (ev_iload_n 1 dX9_which_0 rfl rfl).trans ((ev_if_lt 9 4 dX9_which_1 rfl rfl).trans (mm_ite ((ev_iconst 10 (v := (-1)) dX9_which_9 rfl rfl).trans (ev_iret dX9_which_10 rfl)) ((ev_iload_n 5 dX9_which_4 rfl rfl).trans ((ev_iconst 6 (v := 1) dX9_which_5 rfl rfl).trans ((ev_ic_le 11 9 dX9_which_6 rfl rfl).trans (mm_ite ((ev_aload_n 12 dX9_which_11 rfl rfl).trans ((ev_getF 15 3 dX9_which_12 fl_9_26 oc0 ak0 rfl rf_0_2 rfl).trans ((ev_iload_n 16 dX9_which_15 rfl rfl).trans ((ev_iconst 17 (v := 1) dX9_which_16 rfl rfl).trans ((ev_callv mX7_refusal [vR 3, vI a1, vI 1] [] 20 dX9_which_17 ml_9_87 k65 rfl oc3 ak3 rfl rfl (Nat.le_of_ble_eq_true rfl) (Nat.le_of_ble_eq_true rfl) rfl).trans (if_pos (show 2 < 22 from by decide))))))) ((ev_iconst 10 (v := (-1)) dX9_which_9 rfl rfl).trans (ev_iret dX9_which_10 rfl))))))))
theorem X9_which_c (h : mm_M) (a1 : Int) (a2 : Int) : mm_call mX9_which [vR 0, vI a1, vI a2] h = if a2 < 0 then some ([vI (-1)], h) else if a2 ≤ 1 then (mm_call mX7_refusal [vR 3, vI a1, vI 1] h).bind (fun w => mm_ev mX9_which 22 20 [some (vR 0), some (vI a1), some (vI a2), none] (w.1 ++ []) w.2) else some ([vI (-1)], h) := X9_which_0 h a1 a2
theorem X9_which_20 (h : mm_M) (a1 : Int) (a2 : Int) (s0 : Int) : mm_ev mX9_which 22 20 [some (vR 0), some (vI a1), some (vI a2), none] [vI s0] h = if s0 = 0 then (mm_call mX4_the [vR 1, vI 9] h).bind (fun w => mm_ev mX9_which 22 49 [some (vR 0), some (vI a1), some (vI a2), some (vI s0)] (w.1 ++ [vI a1, vR 3, vR 1, vR 7]) w.2) else some ([vI s0], h) := (ev_istore_n 21 [some (vR 0), some (vI a1), some (vI a2), some (vI s0)] dX9_which_20 rfl rfl).trans ((ev_iload_n 22 dX9_which_21 rfl rfl).trans ((ev_if_eq 27 25 dX9_which_22 rfl rfl).trans (mm_ite ((ev_aload_n 28 dX9_which_27 rfl rfl).trans ((ev_getF 31 7 dX9_which_28 fl_9_50 oc0 ak0 rfl rf_0_6 rfl).trans ((ev_aload_n 32 dX9_which_31 rfl rfl).trans ((ev_getF 35 1 dX9_which_32 fl_9_10 oc0 ak0 rfl rf_0_0 rfl).trans ((ev_aload_n 36 dX9_which_35 rfl rfl).trans ((ev_getF 39 3 dX9_which_36 fl_9_26 oc0 ak0 rfl rf_0_2 rfl).trans ((ev_iload_n 40 dX9_which_39 rfl rfl).trans ((ev_aload_n 41 dX9_which_40 rfl rfl).trans ((ev_getF 44 1 dX9_which_41 fl_9_10 oc0 ak0 rfl rf_0_0 rfl).trans ((ev_bipush 46 (v := 9) dX9_which_44 rfl rfl).trans ((ev_callv mX4_the [vR 1, vI 9] [vI a1, vR 3, vR 1, vR 7] 49 dX9_which_46 ml_9_123 k42 rfl oc1 ak1 rfl rfl (Nat.le_of_ble_eq_true rfl) (Nat.le_of_ble_eq_true rfl) rfl).trans (if_pos (show 1 < 22 from by decide))))))))))))) ((ev_iload_n 26 dX9_which_25 rfl rfl).trans (ev_iret dX9_which_26 rfl)))))
theorem X9_which_49 (h : mm_M) (a1 : Int) (a2 : Int) (a3 : Int) (s0 : Int) (s1 : Int) : mm_ev mX9_which 22 49 [some (vR 0), some (vI a1), some (vI a2), some (vI a3)] [vI s0, vI s1, vR 3, vR 1, vR 7] h = (mm_call mX5_read [vR 7, vR 1, vR 3, vI s1, vI s0] h).bind (fun w => mm_ev mX9_which 22 52 [some (vR 0), some (vI a1), some (vI a2), some (vI a3)] (w.1 ++ []) w.2) := (ev_callv mX5_read [vR 7, vR 1, vR 3, vI s1, vI s0] [] 52 dX9_which_49 ml_9_259 k51 rfl oc7 ak7 rfl rfl (Nat.le_of_ble_eq_true rfl) (Nat.le_of_ble_eq_true rfl) rfl).trans (if_pos (show 4 < 22 from by decide))
theorem X9_which_52 (h : mm_M) (a1 : Int) (a2 : Int) (a3 : Int) (s0 : Int) : mm_ev mX9_which 22 52 [some (vR 0), some (vI a1), some (vI a2), some (vI a3)] [vI s0] h = if ¬ s0 = 0 then (mm_call mX6_countWays [vR 8, vR 1, vR 7] h).bind (fun w => mm_ev mX9_which 22 81 [some (vR 0), some (vI a1), some (vI a2), some (vI a3)] (w.1 ++ []) w.2) else if ¬ a2 = 0 then some ([vI (-2)], h) else some ([vI 0], h) := (ev_if_ne 66 55 dX9_which_52 rfl rfl).trans (mm_ite ((ev_aload_n 67 dX9_which_66 rfl rfl).trans ((ev_getF 70 8 dX9_which_67 fl_9_57 oc0 ak0 rfl rf_0_7 rfl).trans ((ev_aload_n 71 dX9_which_70 rfl rfl).trans ((ev_getF 74 1 dX9_which_71 fl_9_10 oc0 ak0 rfl rf_0_0 rfl).trans ((ev_aload_n 75 dX9_which_74 rfl rfl).trans ((ev_getF 78 7 dX9_which_75 fl_9_50 oc0 ak0 rfl rf_0_6 rfl).trans ((ev_callv mX6_countWays [vR 8, vR 1, vR 7] [] 81 dX9_which_78 ml_9_263 k62 rfl oc8 ak8 rfl rfl (Nat.le_of_ble_eq_true rfl) (Nat.le_of_ble_eq_true rfl) rfl).trans (if_pos (show 21 < 22 from by decide))))))))) ((ev_iload_n 56 dX9_which_55 rfl rfl).trans ((ev_if_ne 63 59 dX9_which_56 rfl rfl).trans (mm_ite ((ev_bipush 65 (v := (-2)) dX9_which_63 rfl rfl).trans (ev_iret dX9_which_65 rfl)) ((ev_iconst 60 (v := 0) dX9_which_59 rfl rfl).trans ((ev_goto 65 dX9_which_60 rfl).trans (ev_iret dX9_which_65 rfl)))))))
theorem X9_which_81 (h : mm_M) (a1 : Int) (a2 : Int) (a3 : Int) : mm_ev mX9_which 22 81 [some (vR 0), some (vI a1), some (vI a2), some (vI a3)] [] h = if ¬ a2 = 0 then some ([vI (h 8 3)], h) else some ([vI (h 8 2)], h) := (ev_iload_n 82 dX9_which_81 rfl rfl).trans ((ev_if_ne 95 85 dX9_which_82 rfl rfl).trans (mm_ite ((ev_aload_n 96 dX9_which_95 rfl rfl).trans ((ev_getF 99 8 dX9_which_96 fl_9_57 oc0 ak0 rfl rf_0_7 rfl).trans ((ev_getI 102 3 dX9_which_99 fl_9_270 oc8 ak8 (by decide) rfl rfl).trans (ev_iret dX9_which_102 rfl)))) ((ev_aload_n 86 dX9_which_85 rfl rfl).trans ((ev_getF 89 8 dX9_which_86 fl_9_57 oc0 ak0 rfl rf_0_7 rfl).trans ((ev_getI 92 2 dX9_which_89 fl_9_267 oc8 ak8 (by decide) rfl rfl).trans ((ev_goto 102 dX9_which_92 rfl).trans (ev_iret dX9_which_102 rfl)))))))
theorem dX9_judge_0 : decode mX9_judge.1 0 = .ok (.aload_n 0, 1) := by decide +kernel
theorem dX9_judge_1 : decode mX9_judge.1 1 = .ok (.iload_n 1, 1) := by decide +kernel
theorem dX9_judge_2 : decode mX9_judge.1 2 = .ok (.invokevirtual 250, 3) := by decide +kernel
theorem dX9_judge_5 : decode mX9_judge.1 5 = .ok (.istore_n 2, 1) := by decide +kernel
theorem dX9_judge_6 : decode mX9_judge.1 6 = .ok (.iload_n 2, 1) := by decide +kernel
theorem dX9_judge_7 : decode mX9_judge.1 7 = .ok (.ifCond .eq 5, 3) := by decide +kernel
theorem dX9_judge_10 : decode mX9_judge.1 10 = .ok (.iload_n 2, 1) := by decide +kernel
theorem dX9_judge_11 : decode mX9_judge.1 11 = .ok (.ireturn, 1) := by decide +kernel
theorem dX9_judge_12 : decode mX9_judge.1 12 = .ok (.iload_n 1, 1) := by decide +kernel
theorem dX9_judge_13 : decode mX9_judge.1 13 = .ok (.bipush 10, 2) := by decide +kernel
theorem dX9_judge_15 : decode mX9_judge.1 15 = .ok (.irem, 1) := by decide +kernel
theorem dX9_judge_16 : decode mX9_judge.1 16 = .ok (.istore_n 3, 1) := by decide +kernel
theorem dX9_judge_17 : decode mX9_judge.1 17 = .ok (.aload_n 0, 1) := by decide +kernel
theorem dX9_judge_18 : decode mX9_judge.1 18 = .ok (.getfield 26, 3) := by decide +kernel
theorem dX9_judge_21 : decode mX9_judge.1 21 = .ok (.getfield 253, 3) := by decide +kernel
theorem dX9_judge_24 : decode mX9_judge.1 24 = .ok (.iload_n 3, 1) := by decide +kernel
theorem dX9_judge_25 : decode mX9_judge.1 25 = .ok (.iaload, 1) := by decide +kernel
theorem dX9_judge_26 : decode mX9_judge.1 26 = .ok (.istore 4, 2) := by decide +kernel
theorem dX9_judge_28 : decode mX9_judge.1 28 = .ok (.iconst 0, 1) := by decide +kernel
theorem dX9_judge_29 : decode mX9_judge.1 29 = .ok (.istore 5, 2) := by decide +kernel
theorem dX9_judge_31 : decode mX9_judge.1 31 = .ok (.iconst 0, 1) := by decide +kernel
theorem dX9_judge_32 : decode mX9_judge.1 32 = .ok (.istore 6, 2) := by decide +kernel
theorem dX9_judge_34 : decode mX9_judge.1 34 = .ok (.iload 6, 2) := by decide +kernel
theorem dX9_judge_36 : decode mX9_judge.1 36 = .ok (.iload 4, 2) := by decide +kernel
theorem dX9_judge_38 : decode mX9_judge.1 38 = .ok (.if_icmp .ge 34, 3) := by decide +kernel
theorem dX9_judge_41 : decode mX9_judge.1 41 = .ok (.iload 6, 2) := by decide +kernel
theorem dX9_judge_43 : decode mX9_judge.1 43 = .ok (.iload 4, 2) := by decide +kernel
theorem dX9_judge_45 : decode mX9_judge.1 45 = .ok (.iconst 3, 1) := by decide +kernel
theorem dX9_judge_46 : decode mX9_judge.1 46 = .ok (.isub, 1) := by decide +kernel
theorem dX9_judge_47 : decode mX9_judge.1 47 = .ok (.if_icmp .gt 13, 3) := by decide +kernel
theorem dX9_judge_50 : decode mX9_judge.1 50 = .ok (.aload_n 0, 1) := by decide +kernel
theorem dX9_judge_51 : decode mX9_judge.1 51 = .ok (.iload_n 3, 1) := by decide +kernel
theorem dX9_judge_52 : decode mX9_judge.1 52 = .ok (.iload 6, 2) := by decide +kernel
theorem dX9_judge_54 : decode mX9_judge.1 54 = .ok (.invokevirtual 256, 3) := by decide +kernel
theorem dX9_judge_57 : decode mX9_judge.1 57 = .ok (.ifCond .ne 6, 3) := by decide +kernel
theorem dX9_judge_60 : decode mX9_judge.1 60 = .ok (.iload 5, 2) := by decide +kernel
theorem dX9_judge_62 : decode mX9_judge.1 62 = .ok (.ireturn, 1) := by decide +kernel
theorem dX9_judge_63 : decode mX9_judge.1 63 = .ok (.iinc 5 1, 3) := by decide +kernel
theorem dX9_judge_66 : decode mX9_judge.1 66 = .ok (.iinc 6 3, 3) := by decide +kernel
theorem dX9_judge_69 : decode mX9_judge.1 69 = .ok (.goto (-35), 3) := by decide +kernel
theorem dX9_judge_72 : decode mX9_judge.1 72 = .ok (.bipush (-2), 2) := by decide +kernel
theorem dX9_judge_74 : decode mX9_judge.1 74 = .ok (.ireturn, 1) := by decide +kernel
theorem X9_judge_0 (h : mm_M) (a1 : Int) : mm_ev mX9_judge 6 0 [some (vR 0), some (vI a1), none, none, none, none, none] [] h = (mm_call mX9_layOutBoth [vR 0, vI a1] h).bind (fun w => mm_ev mX9_judge 6 5 [some (vR 0), some (vI a1), none, none, none, none, none] (w.1 ++ []) w.2) := (ev_aload_n 1 dX9_judge_0 rfl rfl).trans ((ev_iload_n 2 dX9_judge_1 rfl rfl).trans ((ev_callv mX9_layOutBoth [vR 0, vI a1] [] 5 dX9_judge_2 ml_9_250 k136 rfl oc0 ak0 rfl rfl (Nat.le_of_ble_eq_true rfl) (Nat.le_of_ble_eq_true rfl) rfl).trans (if_pos (show 5 < 6 from by decide))))
theorem X9_judge_c (h : mm_M) (a1 : Int) : mm_call mX9_judge [vR 0, vI a1] h = (mm_call mX9_layOutBoth [vR 0, vI a1] h).bind (fun w => mm_ev mX9_judge 6 5 [some (vR 0), some (vI a1), none, none, none, none, none] (w.1 ++ []) w.2) := X9_judge_0 h a1
theorem X9_judge_5 (h : mm_M) (a1 : Int) (s0 : Int) : mm_ev mX9_judge 6 5 [some (vR 0), some (vI a1), none, none, none, none, none] [vI s0] h = if s0 = 0 then if 0 ≤ (a1.tmod 10) ∧ (a1.tmod 10) < 6 then mm_ev mX9_judge 6 34 [some (vR 0), some (vI a1), some (vI s0), some (vI (a1.tmod 10)), some (vI (h 20 (a1.tmod 10))), some (vI 0), some (vI 0)] [] h else none else some ([vI s0], h) := (ev_istore_n 6 [some (vR 0), some (vI a1), some (vI s0), none, none, none, none] dX9_judge_5 rfl rfl).trans ((ev_iload_n 7 dX9_judge_6 rfl rfl).trans ((ev_if_eq 12 10 dX9_judge_7 rfl rfl).trans (mm_ite ((ev_iload_n 13 dX9_judge_12 rfl rfl).trans ((ev_bipush 15 (v := 10) dX9_judge_13 rfl rfl).trans (((ev_irem 16 dX9_judge_15 rfl).trans (if_neg (by decide))).trans ((ev_istore_n 17 [some (vR 0), some (vI a1), some (vI s0), some (vI (a1.tmod 10)), none, none, none] dX9_judge_16 rfl rfl).trans ((ev_aload_n 18 dX9_judge_17 rfl rfl).trans ((ev_getF 21 3 dX9_judge_18 fl_9_26 oc0 ak0 rfl rf_0_2 rfl).trans ((ev_getF 24 20 dX9_judge_21 fl_9_253 oc3 ak3 rfl rf_3_1 rfl).trans ((ev_iload_n 25 dX9_judge_24 rfl rfl).trans ((ev_iald 26 6 dX9_judge_25 ak20 an20 rfl).trans (mm_ite ((ev_istore 28 [some (vR 0), some (vI a1), some (vI s0), some (vI (a1.tmod 10)), some (vI (h 20 (a1.tmod 10))), none, none] dX9_judge_26 rfl rfl).trans ((ev_iconst 29 (v := 0) dX9_judge_28 rfl rfl).trans ((ev_istore 31 [some (vR 0), some (vI a1), some (vI s0), some (vI (a1.tmod 10)), some (vI (h 20 (a1.tmod 10))), some (vI 0), none] dX9_judge_29 rfl rfl).trans ((ev_iconst 32 (v := 0) dX9_judge_31 rfl rfl).trans (ev_istore 34 [some (vR 0), some (vI a1), some (vI s0), some (vI (a1.tmod 10)), some (vI (h 20 (a1.tmod 10))), some (vI 0), some (vI 0)] dX9_judge_32 rfl rfl))))) (rfl))))))))))) ((ev_iload_n 11 dX9_judge_10 rfl rfl).trans (ev_iret dX9_judge_11 rfl)))))
theorem X9_judge_34 (h : mm_M) (a1 : Int) (a2 : Int) (a3 : Int) (a4 : Int) (a5 : Int) (a6 : Int) : mm_ev mX9_judge 6 34 [some (vR 0), some (vI a1), some (vI a2), some (vI a3), some (vI a4), some (vI a5), some (vI a6)] [] h = if a4 ≤ a6 then some ([vI (-2)], h) else if (w32 (a4 - 3)) < a6 then some ([vI a5], h) else (mm_call mX9_isSo [vR 0, vI a3, vI a6] h).bind (fun w => mm_ev mX9_judge 6 57 [some (vR 0), some (vI a1), some (vI a2), some (vI a3), some (vI a4), some (vI a5), some (vI a6)] (w.1 ++ []) w.2) := (ev_iload 36 dX9_judge_34 rfl rfl).trans ((ev_iload 38 dX9_judge_36 rfl rfl).trans ((ev_ic_ge 72 41 dX9_judge_38 rfl rfl).trans (mm_ite ((ev_bipush 74 (v := (-2)) dX9_judge_72 rfl rfl).trans (ev_iret dX9_judge_74 rfl)) ((ev_iload 43 dX9_judge_41 rfl rfl).trans ((ev_iload 45 dX9_judge_43 rfl rfl).trans ((ev_iconst 46 (v := 3) dX9_judge_45 rfl rfl).trans ((ev_isub 47 dX9_judge_46 rfl).trans ((ev_ic_gt 60 50 dX9_judge_47 rfl rfl).trans (mm_ite ((ev_iload 62 dX9_judge_60 rfl rfl).trans (ev_iret dX9_judge_62 rfl)) ((ev_aload_n 51 dX9_judge_50 rfl rfl).trans ((ev_iload_n 52 dX9_judge_51 rfl rfl).trans ((ev_iload 54 dX9_judge_52 rfl rfl).trans ((ev_callv mX9_isSo [vR 0, vI a3, vI a6] [] 57 dX9_judge_54 ml_9_256 k140 rfl oc0 ak0 rfl rfl (Nat.le_of_ble_eq_true rfl) (Nat.le_of_ble_eq_true rfl) rfl).trans (if_pos (show 4 < 6 from by decide)))))))))))))))
theorem X9_judge_57 (h : mm_M) (a1 : Int) (a2 : Int) (a3 : Int) (a4 : Int) (a5 : Int) (a6 : Int) (s0 : Int) : mm_ev mX9_judge 6 57 [some (vR 0), some (vI a1), some (vI a2), some (vI a3), some (vI a4), some (vI a5), some (vI a6)] [vI s0] h = if ¬ s0 = 0 then mm_ev mX9_judge 6 34 [some (vR 0), some (vI a1), some (vI a2), some (vI a3), some (vI a4), some (vI (w32 (a5 + 1))), some (vI (w32 (a6 + 3)))] [] h else some ([vI a5], h) := (ev_if_ne 63 60 dX9_judge_57 rfl rfl).trans (mm_ite ((ev_iinc 66 [some (vR 0), some (vI a1), some (vI a2), some (vI a3), some (vI a4), some (vI (w32 (a5 + 1))), some (vI a6)] dX9_judge_63 rfl rfl rfl).trans ((ev_iinc 69 [some (vR 0), some (vI a1), some (vI a2), some (vI a3), some (vI a4), some (vI (w32 (a5 + 1))), some (vI (w32 (a6 + 3)))] dX9_judge_66 rfl rfl rfl).trans (ev_goto 34 dX9_judge_69 rfl))) ((ev_iload 62 dX9_judge_60 rfl rfl).trans (ev_iret dX9_judge_62 rfl)))
theorem dX9_isSo_0 : decode mX9_isSo.1 0 = .ok (.aload_n 0, 1) := by decide +kernel
theorem dX9_isSo_1 : decode mX9_isSo.1 1 = .ok (.getfield 26, 3) := by decide +kernel
theorem dX9_isSo_4 : decode mX9_isSo.1 4 = .ok (.iload_n 1, 1) := by decide +kernel
theorem dX9_isSo_5 : decode mX9_isSo.1 5 = .ok (.iload_n 2, 1) := by decide +kernel
theorem dX9_isSo_6 : decode mX9_isSo.1 6 = .ok (.invokevirtual 351, 3) := by decide +kernel
theorem dX9_isSo_9 : decode mX9_isSo.1 9 = .ok (.l2i, 1) := by decide +kernel
theorem dX9_isSo_10 : decode mX9_isSo.1 10 = .ok (.istore_n 3, 1) := by decide +kernel
theorem dX9_isSo_11 : decode mX9_isSo.1 11 = .ok (.aload_n 0, 1) := by decide +kernel
theorem dX9_isSo_12 : decode mX9_isSo.1 12 = .ok (.getfield 26, 3) := by decide +kernel
theorem dX9_isSo_15 : decode mX9_isSo.1 15 = .ok (.iload_n 1, 1) := by decide +kernel
theorem dX9_isSo_16 : decode mX9_isSo.1 16 = .ok (.iload_n 2, 1) := by decide +kernel
theorem dX9_isSo_17 : decode mX9_isSo.1 17 = .ok (.iconst 1, 1) := by decide +kernel
theorem dX9_isSo_18 : decode mX9_isSo.1 18 = .ok (.iadd, 1) := by decide +kernel
theorem dX9_isSo_19 : decode mX9_isSo.1 19 = .ok (.invokevirtual 351, 3) := by decide +kernel
theorem dX9_isSo_22 : decode mX9_isSo.1 22 = .ok (.l2i, 1) := by decide +kernel
theorem dX9_isSo_23 : decode mX9_isSo.1 23 = .ok (.istore 4, 2) := by decide +kernel
theorem dX9_isSo_25 : decode mX9_isSo.1 25 = .ok (.aload_n 0, 1) := by decide +kernel
theorem dX9_isSo_26 : decode mX9_isSo.1 26 = .ok (.getfield 26, 3) := by decide +kernel
theorem dX9_isSo_29 : decode mX9_isSo.1 29 = .ok (.iload_n 1, 1) := by decide +kernel
theorem dX9_isSo_30 : decode mX9_isSo.1 30 = .ok (.iload_n 2, 1) := by decide +kernel
theorem dX9_isSo_31 : decode mX9_isSo.1 31 = .ok (.iconst 2, 1) := by decide +kernel
theorem dX9_isSo_32 : decode mX9_isSo.1 32 = .ok (.iadd, 1) := by decide +kernel
theorem dX9_isSo_33 : decode mX9_isSo.1 33 = .ok (.invokevirtual 351, 3) := by decide +kernel
theorem dX9_isSo_36 : decode mX9_isSo.1 36 = .ok (.l2i, 1) := by decide +kernel
theorem dX9_isSo_37 : decode mX9_isSo.1 37 = .ok (.istore 5, 2) := by decide +kernel
theorem dX9_isSo_39 : decode mX9_isSo.1 39 = .ok (.aload_n 0, 1) := by decide +kernel
theorem dX9_isSo_40 : decode mX9_isSo.1 40 = .ok (.getfield 10, 3) := by decide +kernel
theorem dX9_isSo_43 : decode mX9_isSo.1 43 = .ok (.iload_n 3, 1) := by decide +kernel
theorem dX9_isSo_44 : decode mX9_isSo.1 44 = .ok (.iload 4, 2) := by decide +kernel
theorem dX9_isSo_46 : decode mX9_isSo.1 46 = .ok (.iload 5, 2) := by decide +kernel
theorem dX9_isSo_48 : decode mX9_isSo.1 48 = .ok (.invokestatic 386, 3) := by decide +kernel
theorem dX9_isSo_51 : decode mX9_isSo.1 51 = .ok (.ifCond .eq 35, 3) := by decide +kernel
theorem dX9_isSo_54 : decode mX9_isSo.1 54 = .ok (.aload_n 0, 1) := by decide +kernel
theorem dX9_isSo_55 : decode mX9_isSo.1 55 = .ok (.getfield 33, 3) := by decide +kernel
theorem dX9_isSo_58 : decode mX9_isSo.1 58 = .ok (.aload_n 0, 1) := by decide +kernel
theorem dX9_isSo_59 : decode mX9_isSo.1 59 = .ok (.getfield 10, 3) := by decide +kernel
theorem dX9_isSo_62 : decode mX9_isSo.1 62 = .ok (.iload_n 3, 1) := by decide +kernel
theorem dX9_isSo_63 : decode mX9_isSo.1 63 = .ok (.iload 4, 2) := by decide +kernel
theorem dX9_isSo_65 : decode mX9_isSo.1 65 = .ok (.iload 5, 2) := by decide +kernel
theorem dX9_isSo_67 : decode mX9_isSo.1 67 = .ok (.aload_n 0, 1) := by decide +kernel
theorem dX9_isSo_68 : decode mX9_isSo.1 68 = .ok (.getfield 10, 3) := by decide +kernel
theorem dX9_isSo_71 : decode mX9_isSo.1 71 = .ok (.bipush 9, 2) := by decide +kernel
theorem dX9_isSo_73 : decode mX9_isSo.1 73 = .ok (.invokevirtual 123, 3) := by decide +kernel
theorem dX9_isSo_76 : decode mX9_isSo.1 76 = .ok (.invokevirtual 179, 3) := by decide +kernel
theorem dX9_isSo_79 : decode mX9_isSo.1 79 = .ok (.ifCond .eq 7, 3) := by decide +kernel
theorem dX9_isSo_82 : decode mX9_isSo.1 82 = .ok (.iconst 1, 1) := by decide +kernel
theorem dX9_isSo_83 : decode mX9_isSo.1 83 = .ok (.goto 4, 3) := by decide +kernel
theorem dX9_isSo_86 : decode mX9_isSo.1 86 = .ok (.iconst 0, 1) := by decide +kernel
theorem dX9_isSo_87 : decode mX9_isSo.1 87 = .ok (.ireturn, 1) := by decide +kernel
theorem X9_isSo_0 (h : mm_M) (a1 : Int) (a2 : Int) : mm_ev mX9_isSo 4 0 [some (vR 0), some (vI a1), some (vI a2), none, none, none] [] h = (mm_call mX7_read [vR 3, vI a1, vI a2] h).bind (fun w => mm_ev mX9_isSo 4 9 [some (vR 0), some (vI a1), some (vI a2), none, none, none] (w.1 ++ []) w.2) := (ev_aload_n 1 dX9_isSo_0 rfl rfl).trans ((ev_getF 4 3 dX9_isSo_1 fl_9_26 oc0 ak0 rfl rf_0_2 rfl).trans ((ev_iload_n 5 dX9_isSo_4 rfl rfl).trans ((ev_iload_n 6 dX9_isSo_5 rfl rfl).trans ((ev_callv mX7_read [vR 3, vI a1, vI a2] [] 9 dX9_isSo_6 ml_9_351 k69 rfl oc3 ak3 rfl rfl (Nat.le_of_ble_eq_true rfl) (Nat.le_of_ble_eq_true rfl) rfl).trans (if_pos (show 3 < 4 from by decide))))))
theorem X9_isSo_c (h : mm_M) (a1 : Int) (a2 : Int) : mm_call mX9_isSo [vR 0, vI a1, vI a2] h = (mm_call mX7_read [vR 3, vI a1, vI a2] h).bind (fun w => mm_ev mX9_isSo 4 9 [some (vR 0), some (vI a1), some (vI a2), none, none, none] (w.1 ++ []) w.2) := X9_isSo_0 h a1 a2
theorem X9_isSo_9 (h : mm_M) (a1 : Int) (a2 : Int) (s0 : Int) : mm_ev mX9_isSo 4 9 [some (vR 0), some (vI a1), some (vI a2), none, none, none] [vL s0] h = (mm_call mX7_read [vR 3, vI a1, vI (w32 (a2 + 1))] h).bind (fun w => mm_ev mX9_isSo 4 22 [some (vR 0), some (vI a1), some (vI a2), some (vI (w32 s0)), none, none] (w.1 ++ []) w.2) := (ev_l2i 10 dX9_isSo_9 rfl).trans ((ev_istore_n 11 [some (vR 0), some (vI a1), some (vI a2), some (vI (w32 s0)), none, none] dX9_isSo_10 rfl rfl).trans ((ev_aload_n 12 dX9_isSo_11 rfl rfl).trans ((ev_getF 15 3 dX9_isSo_12 fl_9_26 oc0 ak0 rfl rf_0_2 rfl).trans ((ev_iload_n 16 dX9_isSo_15 rfl rfl).trans ((ev_iload_n 17 dX9_isSo_16 rfl rfl).trans ((ev_iconst 18 (v := 1) dX9_isSo_17 rfl rfl).trans ((ev_iadd 19 dX9_isSo_18 rfl).trans ((ev_callv mX7_read [vR 3, vI a1, vI (w32 (a2 + 1))] [] 22 dX9_isSo_19 ml_9_351 k69 rfl oc3 ak3 rfl rfl (Nat.le_of_ble_eq_true rfl) (Nat.le_of_ble_eq_true rfl) rfl).trans (if_pos (show 3 < 4 from by decide))))))))))
theorem X9_isSo_22 (h : mm_M) (a1 : Int) (a2 : Int) (a3 : Int) (s0 : Int) : mm_ev mX9_isSo 4 22 [some (vR 0), some (vI a1), some (vI a2), some (vI a3), none, none] [vL s0] h = (mm_call mX7_read [vR 3, vI a1, vI (w32 (a2 + 2))] h).bind (fun w => mm_ev mX9_isSo 4 36 [some (vR 0), some (vI a1), some (vI a2), some (vI a3), some (vI (w32 s0)), none] (w.1 ++ []) w.2) := (ev_l2i 23 dX9_isSo_22 rfl).trans ((ev_istore 25 [some (vR 0), some (vI a1), some (vI a2), some (vI a3), some (vI (w32 s0)), none] dX9_isSo_23 rfl rfl).trans ((ev_aload_n 26 dX9_isSo_25 rfl rfl).trans ((ev_getF 29 3 dX9_isSo_26 fl_9_26 oc0 ak0 rfl rf_0_2 rfl).trans ((ev_iload_n 30 dX9_isSo_29 rfl rfl).trans ((ev_iload_n 31 dX9_isSo_30 rfl rfl).trans ((ev_iconst 32 (v := 2) dX9_isSo_31 rfl rfl).trans ((ev_iadd 33 dX9_isSo_32 rfl).trans ((ev_callv mX7_read [vR 3, vI a1, vI (w32 (a2 + 2))] [] 36 dX9_isSo_33 ml_9_351 k69 rfl oc3 ak3 rfl rfl (Nat.le_of_ble_eq_true rfl) (Nat.le_of_ble_eq_true rfl) rfl).trans (if_pos (show 3 < 4 from by decide))))))))))
theorem X9_isSo_36 (h : mm_M) (a1 : Int) (a2 : Int) (a3 : Int) (a4 : Int) (s0 : Int) : mm_ev mX9_isSo 4 36 [some (vR 0), some (vI a1), some (vI a2), some (vI a3), some (vI a4), none] [vL s0] h = (mm_call mX5_mayBe [vR 1, vI a3, vI a4, vI (w32 s0)] h).bind (fun w => mm_ev mX9_isSo 4 51 [some (vR 0), some (vI a1), some (vI a2), some (vI a3), some (vI a4), some (vI (w32 s0))] (w.1 ++ []) w.2) := (ev_l2i 37 dX9_isSo_36 rfl).trans ((ev_istore 39 [some (vR 0), some (vI a1), some (vI a2), some (vI a3), some (vI a4), some (vI (w32 s0))] dX9_isSo_37 rfl rfl).trans ((ev_aload_n 40 dX9_isSo_39 rfl rfl).trans ((ev_getF 43 1 dX9_isSo_40 fl_9_10 oc0 ak0 rfl rf_0_0 rfl).trans ((ev_iload_n 44 dX9_isSo_43 rfl rfl).trans ((ev_iload 46 dX9_isSo_44 rfl rfl).trans ((ev_iload 48 dX9_isSo_46 rfl rfl).trans ((ev_calls mX5_mayBe [vR 1, vI a3, vI a4, vI (w32 s0)] [] 51 dX9_isSo_48 ml_9_386 k52 rfl rfl rfl (Nat.le_of_ble_eq_true rfl) (Nat.le_of_ble_eq_true rfl) rfl).trans (if_pos (show 2 < 4 from by decide)))))))))
theorem X9_isSo_51 (h : mm_M) (a1 : Int) (a2 : Int) (a3 : Int) (a4 : Int) (a5 : Int) (s0 : Int) : mm_ev mX9_isSo 4 51 [some (vR 0), some (vI a1), some (vI a2), some (vI a3), some (vI a4), some (vI a5)] [vI s0] h = if s0 = 0 then some ([vI 0], h) else (mm_call mX4_the [vR 1, vI 9] h).bind (fun w => mm_ev mX9_isSo 4 76 [some (vR 0), some (vI a1), some (vI a2), some (vI a3), some (vI a4), some (vI a5)] (w.1 ++ [vI a5, vI a4, vI a3, vR 1, vR 4]) w.2) := (ev_if_eq 86 54 dX9_isSo_51 rfl rfl).trans (mm_ite ((ev_iconst 87 (v := 0) dX9_isSo_86 rfl rfl).trans (ev_zret0 dX9_isSo_87 rfl)) ((ev_aload_n 55 dX9_isSo_54 rfl rfl).trans ((ev_getF 58 4 dX9_isSo_55 fl_9_33 oc0 ak0 rfl rf_0_3 rfl).trans ((ev_aload_n 59 dX9_isSo_58 rfl rfl).trans ((ev_getF 62 1 dX9_isSo_59 fl_9_10 oc0 ak0 rfl rf_0_0 rfl).trans ((ev_iload_n 63 dX9_isSo_62 rfl rfl).trans ((ev_iload 65 dX9_isSo_63 rfl rfl).trans ((ev_iload 67 dX9_isSo_65 rfl rfl).trans ((ev_aload_n 68 dX9_isSo_67 rfl rfl).trans ((ev_getF 71 1 dX9_isSo_68 fl_9_10 oc0 ak0 rfl rf_0_0 rfl).trans ((ev_bipush 73 (v := 9) dX9_isSo_71 rfl rfl).trans ((ev_callv mX4_the [vR 1, vI 9] [vI a5, vI a4, vI a3, vR 1, vR 4] 76 dX9_isSo_73 ml_9_123 k42 rfl oc1 ak1 rfl rfl (Nat.le_of_ble_eq_true rfl) (Nat.le_of_ble_eq_true rfl) rfl).trans (if_pos (show 1 < 4 from by decide))))))))))))))
theorem X9_isSo_76 (h : mm_M) (a1 : Int) (a2 : Int) (a3 : Int) (a4 : Int) (a5 : Int) (s0 : Int) (s1 : Int) (s2 : Int) (s3 : Int) : mm_ev mX9_isSo 4 76 [some (vR 0), some (vI a1), some (vI a2), some (vI a3), some (vI a4), some (vI a5)] [vI s0, vI s1, vI s2, vI s3, vR 1, vR 4] h = (mm_call mX8_admits [vR 4, vR 1, vI s3, vI s2, vI s1, vI s0] h).bind (fun w => mm_ev mX9_isSo 4 79 [some (vR 0), some (vI a1), some (vI a2), some (vI a3), some (vI a4), some (vI a5)] (w.1 ++ []) w.2) := (ev_callv mX8_admits [vR 4, vR 1, vI s3, vI s2, vI s1, vI s0] [] 79 dX9_isSo_76 ml_9_179 k82 rfl oc4 ak4 rfl rfl (Nat.le_of_ble_eq_true rfl) (Nat.le_of_ble_eq_true rfl) rfl).trans (if_pos (show 3 < 4 from by decide))
theorem X9_isSo_79 (h : mm_M) (a1 : Int) (a2 : Int) (a3 : Int) (a4 : Int) (a5 : Int) (s0 : Int) : mm_ev mX9_isSo 4 79 [some (vR 0), some (vI a1), some (vI a2), some (vI a3), some (vI a4), some (vI a5)] [vI s0] h = if s0 = 0 then some ([vI 0], h) else some ([vI 1], h) := (ev_if_eq 86 82 dX9_isSo_79 rfl rfl).trans (mm_ite ((ev_iconst 87 (v := 0) dX9_isSo_86 rfl rfl).trans (ev_zret0 dX9_isSo_87 rfl)) ((ev_iconst 83 (v := 1) dX9_isSo_82 rfl rfl).trans ((ev_goto 87 dX9_isSo_83 rfl).trans (ev_zret1 dX9_isSo_87 rfl))))
theorem dX9_guess_0 : decode mX9_guess.1 0 = .ok (.aload_n 0, 1) := by decide +kernel
theorem dX9_guess_1 : decode mX9_guess.1 1 = .ok (.iload_n 2, 1) := by decide +kernel
theorem dX9_guess_2 : decode mX9_guess.1 2 = .ok (.invokevirtual 154, 3) := by decide +kernel
theorem dX9_guess_5 : decode mX9_guess.1 5 = .ok (.ifCond .eq 30, 3) := by decide +kernel
theorem dX9_guess_8 : decode mX9_guess.1 8 = .ok (.iload_n 3, 1) := by decide +kernel
theorem dX9_guess_9 : decode mX9_guess.1 9 = .ok (.iconst 1, 1) := by decide +kernel
theorem dX9_guess_10 : decode mX9_guess.1 10 = .ok (.if_icmp .lt 25, 3) := by decide +kernel
theorem dX9_guess_13 : decode mX9_guess.1 13 = .ok (.iload_n 3, 1) := by decide +kernel
theorem dX9_guess_14 : decode mX9_guess.1 14 = .ok (.bipush 10, 2) := by decide +kernel
theorem dX9_guess_16 : decode mX9_guess.1 16 = .ok (.if_icmp .gt 19, 3) := by decide +kernel
theorem dX9_guess_19 : decode mX9_guess.1 19 = .ok (.iload 4, 2) := by decide +kernel
theorem dX9_guess_21 : decode mX9_guess.1 21 = .ok (.invokestatic 199, 3) := by decide +kernel
theorem dX9_guess_24 : decode mX9_guess.1 24 = .ok (.ifCond .eq 11, 3) := by decide +kernel
theorem dX9_guess_27 : decode mX9_guess.1 27 = .ok (.aload_n 0, 1) := by decide +kernel
theorem dX9_guess_28 : decode mX9_guess.1 28 = .ok (.iload_n 1, 1) := by decide +kernel
theorem dX9_guess_29 : decode mX9_guess.1 29 = .ok (.invokevirtual 130, 3) := by decide +kernel
theorem dX9_guess_32 : decode mX9_guess.1 32 = .ok (.ifCond .eq 7, 3) := by decide +kernel
theorem dX9_guess_35 : decode mX9_guess.1 35 = .ok (.ldc2_w 202, 3) := by decide +kernel
theorem dX9_guess_38 : decode mX9_guess.1 38 = .ok (.lreturn, 1) := by decide +kernel
theorem dX9_guess_39 : decode mX9_guess.1 39 = .ok (.aload_n 0, 1) := by decide +kernel
theorem dX9_guess_40 : decode mX9_guess.1 40 = .ok (.getfield 33, 3) := by decide +kernel
theorem dX9_guess_43 : decode mX9_guess.1 43 = .ok (.aload_n 0, 1) := by decide +kernel
theorem dX9_guess_44 : decode mX9_guess.1 44 = .ok (.getfield 10, 3) := by decide +kernel
theorem dX9_guess_47 : decode mX9_guess.1 47 = .ok (.iload_n 2, 1) := by decide +kernel
theorem dX9_guess_48 : decode mX9_guess.1 48 = .ok (.sipush 1000, 3) := by decide +kernel
theorem dX9_guess_51 : decode mX9_guess.1 51 = .ok (.idiv, 1) := by decide +kernel
theorem dX9_guess_52 : decode mX9_guess.1 52 = .ok (.iload_n 2, 1) := by decide +kernel
theorem dX9_guess_53 : decode mX9_guess.1 53 = .ok (.sipush 1000, 3) := by decide +kernel
theorem dX9_guess_56 : decode mX9_guess.1 56 = .ok (.irem, 1) := by decide +kernel
theorem dX9_guess_57 : decode mX9_guess.1 57 = .ok (.invokevirtual 157, 3) := by decide +kernel
theorem dX9_guess_60 : decode mX9_guess.1 60 = .ok (.iconst 3, 1) := by decide +kernel
theorem dX9_guess_61 : decode mX9_guess.1 61 = .ok (.if_icmp .ne 17, 3) := by decide +kernel
theorem dX9_guess_64 : decode mX9_guess.1 64 = .ok (.aload_n 0, 1) := by decide +kernel
theorem dX9_guess_65 : decode mX9_guess.1 65 = .ok (.getfield 10, 3) := by decide +kernel
theorem dX9_guess_68 : decode mX9_guess.1 68 = .ok (.invokevirtual 244, 3) := by decide +kernel
theorem dX9_guess_71 : decode mX9_guess.1 71 = .ok (.ifCond .ne 7, 3) := by decide +kernel
theorem dX9_guess_74 : decode mX9_guess.1 74 = .ok (.iconst 1, 1) := by decide +kernel
theorem dX9_guess_75 : decode mX9_guess.1 75 = .ok (.goto 4, 3) := by decide +kernel
theorem dX9_guess_78 : decode mX9_guess.1 78 = .ok (.iconst 0, 1) := by decide +kernel
theorem dX9_guess_79 : decode mX9_guess.1 79 = .ok (.istore 5, 2) := by decide +kernel
theorem dX9_guess_81 : decode mX9_guess.1 81 = .ok (.iload 5, 2) := by decide +kernel
theorem dX9_guess_83 : decode mX9_guess.1 83 = .ok (.ifCond .eq 29, 3) := by decide +kernel
theorem dX9_guess_86 : decode mX9_guess.1 86 = .ok (.bipush 90, 2) := by decide +kernel
theorem dX9_guess_88 : decode mX9_guess.1 88 = .ok (.istore 6, 2) := by decide +kernel
theorem dX9_guess_90 : decode mX9_guess.1 90 = .ok (.iload 6, 2) := by decide +kernel
theorem dX9_guess_92 : decode mX9_guess.1 92 = .ok (.bipush 10, 2) := by decide +kernel
theorem dX9_guess_94 : decode mX9_guess.1 94 = .ok (.iload_n 3, 1) := by decide +kernel
theorem dX9_guess_95 : decode mX9_guess.1 95 = .ok (.isub, 1) := by decide +kernel
theorem dX9_guess_96 : decode mX9_guess.1 96 = .ok (.bipush 9, 2) := by decide +kernel
theorem dX9_guess_98 : decode mX9_guess.1 98 = .ok (.iload_n 3, 1) := by decide +kernel
theorem dX9_guess_99 : decode mX9_guess.1 99 = .ok (.isub, 1) := by decide +kernel
theorem dX9_guess_100 : decode mX9_guess.1 100 = .ok (.imul, 1) := by decide +kernel
theorem dX9_guess_101 : decode mX9_guess.1 101 = .ok (.isub, 1) := by decide +kernel
theorem dX9_guess_102 : decode mX9_guess.1 102 = .ok (.i2l, 1) := by decide +kernel
theorem dX9_guess_103 : decode mX9_guess.1 103 = .ok (.iload 6, 2) := by decide +kernel
theorem dX9_guess_105 : decode mX9_guess.1 105 = .ok (.i2l, 1) := by decide +kernel
theorem dX9_guess_106 : decode mX9_guess.1 106 = .ok (.iload 4, 2) := by decide +kernel
theorem dX9_guess_108 : decode mX9_guess.1 108 = .ok (.invokestatic 216, 3) := by decide +kernel
theorem dX9_guess_111 : decode mX9_guess.1 111 = .ok (.lreturn, 1) := by decide +kernel
theorem dX9_guess_112 : decode mX9_guess.1 112 = .ok (.iload_n 3, 1) := by decide +kernel
theorem dX9_guess_113 : decode mX9_guess.1 113 = .ok (.i2l, 1) := by decide +kernel
theorem dX9_guess_114 : decode mX9_guess.1 114 = .ok (.ldc2_w 248, 3) := by decide +kernel
theorem dX9_guess_117 : decode mX9_guess.1 117 = .ok (.iload 4, 2) := by decide +kernel
theorem dX9_guess_119 : decode mX9_guess.1 119 = .ok (.invokestatic 216, 3) := by decide +kernel
theorem dX9_guess_122 : decode mX9_guess.1 122 = .ok (.lreturn, 1) := by decide +kernel
theorem X9_guess_0 (h : mm_M) (a1 : Int) (a2 : Int) (a3 : Int) (a4 : Int) : mm_ev mX9_guess 6 0 [some (vR 0), some (vI a1), some (vI a2), some (vI a3), some (vI a4), none, none] [] h = (mm_call mX9_isPlaceAndMinute [vR 0, vI a2] h).bind (fun w => mm_ev mX9_guess 6 5 [some (vR 0), some (vI a1), some (vI a2), some (vI a3), some (vI a4), none, none] (w.1 ++ []) w.2) := (ev_aload_n 1 dX9_guess_0 rfl rfl).trans ((ev_iload_n 2 dX9_guess_1 rfl rfl).trans ((ev_callv mX9_isPlaceAndMinute [vR 0, vI a2] [] 5 dX9_guess_2 ml_9_154 k133 rfl oc0 ak0 rfl rfl (Nat.le_of_ble_eq_true rfl) (Nat.le_of_ble_eq_true rfl) rfl).trans (if_pos (show 2 < 6 from by decide))))
theorem X9_guess_c (h : mm_M) (a1 : Int) (a2 : Int) (a3 : Int) (a4 : Int) : mm_call mX9_guess [vR 0, vI a1, vI a2, vI a3, vI a4] h = (mm_call mX9_isPlaceAndMinute [vR 0, vI a2] h).bind (fun w => mm_ev mX9_guess 6 5 [some (vR 0), some (vI a1), some (vI a2), some (vI a3), some (vI a4), none, none] (w.1 ++ []) w.2) := X9_guess_0 h a1 a2 a3 a4
theorem X9_guess_5 (h : mm_M) (a1 : Int) (a2 : Int) (a3 : Int) (a4 : Int) (s0 : Int) : mm_ev mX9_guess 6 5 [some (vR 0), some (vI a1), some (vI a2), some (vI a3), some (vI a4), none, none] [vI s0] h = if s0 = 0 then some ([vL (-9223372036854775808)], h) else if a3 < 1 then some ([vL (-9223372036854775808)], h) else if 10 < a3 then some ([vL (-9223372036854775808)], h) else (mm_call mX9_isPart [vI a4] h).bind (fun w => mm_ev mX9_guess 6 24 [some (vR 0), some (vI a1), some (vI a2), some (vI a3), some (vI a4), none, none] (w.1 ++ []) w.2) := (ev_if_eq 35 8 dX9_guess_5 rfl rfl).trans (mm_ite ((ev_ldc2_w 38 dX9_guess_35 cL_9_202 rfl).trans (ev_lret dX9_guess_38 rfl)) ((ev_iload_n 9 dX9_guess_8 rfl rfl).trans ((ev_iconst 10 (v := 1) dX9_guess_9 rfl rfl).trans ((ev_ic_lt 35 13 dX9_guess_10 rfl rfl).trans (mm_ite ((ev_ldc2_w 38 dX9_guess_35 cL_9_202 rfl).trans (ev_lret dX9_guess_38 rfl)) ((ev_iload_n 14 dX9_guess_13 rfl rfl).trans ((ev_bipush 16 (v := 10) dX9_guess_14 rfl rfl).trans ((ev_ic_gt 35 19 dX9_guess_16 rfl rfl).trans (mm_ite ((ev_ldc2_w 38 dX9_guess_35 cL_9_202 rfl).trans (ev_lret dX9_guess_38 rfl)) ((ev_iload 21 dX9_guess_19 rfl rfl).trans ((ev_calls mX9_isPart [vI a4] [] 24 dX9_guess_21 ml_9_199 k134 rfl rfl rfl (Nat.le_of_ble_eq_true rfl) (Nat.le_of_ble_eq_true rfl) rfl).trans (if_pos (show 1 < 6 from by decide)))))))))))))
theorem X9_guess_24 (h : mm_M) (a1 : Int) (a2 : Int) (a3 : Int) (a4 : Int) (s0 : Int) : mm_ev mX9_guess 6 24 [some (vR 0), some (vI a1), some (vI a2), some (vI a3), some (vI a4), none, none] [vI s0] h = if s0 = 0 then some ([vL (-9223372036854775808)], h) else (mm_call mX9_layOut [vR 0, vI a1] h).bind (fun w => mm_ev mX9_guess 6 32 [some (vR 0), some (vI a1), some (vI a2), some (vI a3), some (vI a4), none, none] (w.1 ++ []) w.2) := (ev_if_eq 35 27 dX9_guess_24 rfl rfl).trans (mm_ite ((ev_ldc2_w 38 dX9_guess_35 cL_9_202 rfl).trans (ev_lret dX9_guess_38 rfl)) ((ev_aload_n 28 dX9_guess_27 rfl rfl).trans ((ev_iload_n 29 dX9_guess_28 rfl rfl).trans ((ev_callv mX9_layOut [vR 0, vI a1] [] 32 dX9_guess_29 ml_9_130 k135 rfl oc0 ak0 rfl rfl (Nat.le_of_ble_eq_true rfl) (Nat.le_of_ble_eq_true rfl) rfl).trans (if_pos (show 5 < 6 from by decide))))))
theorem X9_guess_32 (h : mm_M) (a1 : Int) (a2 : Int) (a3 : Int) (a4 : Int) (s0 : Int) : mm_ev mX9_guess 6 32 [some (vR 0), some (vI a1), some (vI a2), some (vI a3), some (vI a4), none, none] [vI s0] h = if s0 = 0 then (mm_call mX8_lets [vR 4, vR 1, vI (w32 (a2.tdiv 1000)), vI (a2.tmod 1000)] h).bind (fun w => mm_ev mX9_guess 6 60 [some (vR 0), some (vI a1), some (vI a2), some (vI a3), some (vI a4), none, none] (w.1 ++ []) w.2) else some ([vL (-9223372036854775808)], h) := (ev_if_eq 39 35 dX9_guess_32 rfl rfl).trans (mm_ite ((ev_aload_n 40 dX9_guess_39 rfl rfl).trans ((ev_getF 43 4 dX9_guess_40 fl_9_33 oc0 ak0 rfl rf_0_3 rfl).trans ((ev_aload_n 44 dX9_guess_43 rfl rfl).trans ((ev_getF 47 1 dX9_guess_44 fl_9_10 oc0 ak0 rfl rf_0_0 rfl).trans ((ev_iload_n 48 dX9_guess_47 rfl rfl).trans ((ev_sipush 51 (v := 1000) dX9_guess_48 rfl rfl).trans (((ev_idiv 52 dX9_guess_51 rfl).trans (if_neg (by decide))).trans ((ev_iload_n 53 dX9_guess_52 rfl rfl).trans ((ev_sipush 56 (v := 1000) dX9_guess_53 rfl rfl).trans (((ev_irem 57 dX9_guess_56 rfl).trans (if_neg (by decide))).trans ((ev_callv mX8_lets [vR 4, vR 1, vI (w32 (a2.tdiv 1000)), vI (a2.tmod 1000)] [] 60 dX9_guess_57 ml_9_157 k81 rfl oc4 ak4 rfl rfl (Nat.le_of_ble_eq_true rfl) (Nat.le_of_ble_eq_true rfl) rfl).trans (if_pos (show 3 < 6 from by decide))))))))))))) ((ev_ldc2_w 38 dX9_guess_35 cL_9_202 rfl).trans (ev_lret dX9_guess_38 rfl)))
theorem X9_guess_60 (h : mm_M) (a1 : Int) (a2 : Int) (a3 : Int) (a4 : Int) (s0 : Int) : mm_ev mX9_guess 6 60 [some (vR 0), some (vI a1), some (vI a2), some (vI a3), some (vI a4), none, none] [vI s0] h = if ¬ s0 = 3 then mm_ev mX9_guess 6 79 [some (vR 0), some (vI a1), some (vI a2), some (vI a3), some (vI a4), none, none] [vI 0] h else (mm_call mX4_areAlike [vR 1] h).bind (fun w => mm_ev mX9_guess 6 71 [some (vR 0), some (vI a1), some (vI a2), some (vI a3), some (vI a4), none, none] (w.1 ++ []) w.2) := (ev_iconst 61 (v := 3) dX9_guess_60 rfl rfl).trans ((ev_ic_ne 78 64 dX9_guess_61 rfl rfl).trans (mm_ite (ev_iconst 79 (v := 0) dX9_guess_78 rfl rfl) ((ev_aload_n 65 dX9_guess_64 rfl rfl).trans ((ev_getF 68 1 dX9_guess_65 fl_9_10 oc0 ak0 rfl rf_0_0 rfl).trans ((ev_callv mX4_areAlike [vR 1] [] 71 dX9_guess_68 ml_9_244 k44 rfl oc1 ak1 rfl rfl (Nat.le_of_ble_eq_true rfl) (Nat.le_of_ble_eq_true rfl) rfl).trans (if_pos (show 2 < 6 from by decide)))))))
theorem X9_guess_71 (h : mm_M) (a1 : Int) (a2 : Int) (a3 : Int) (a4 : Int) (s0 : Int) : mm_ev mX9_guess 6 71 [some (vR 0), some (vI a1), some (vI a2), some (vI a3), some (vI a4), none, none] [vI s0] h = if ¬ s0 = 0 then mm_ev mX9_guess 6 79 [some (vR 0), some (vI a1), some (vI a2), some (vI a3), some (vI a4), none, none] [vI 0] h else mm_ev mX9_guess 6 79 [some (vR 0), some (vI a1), some (vI a2), some (vI a3), some (vI a4), none, none] [vI 1] h := (ev_if_ne 78 74 dX9_guess_71 rfl rfl).trans (mm_ite (ev_iconst 79 (v := 0) dX9_guess_78 rfl rfl) ((ev_iconst 75 (v := 1) dX9_guess_74 rfl rfl).trans (ev_goto 79 dX9_guess_75 rfl)))
theorem X9_guess_79 (h : mm_M) (a1 : Int) (a2 : Int) (a3 : Int) (a4 : Int) (s0 : Int) : mm_ev mX9_guess 6 79 [some (vR 0), some (vI a1), some (vI a2), some (vI a3), some (vI a4), none, none] [vI s0] h = if s0 = 0 then (mm_call mX9_partOf [vL a3, vL 10, vI a4] h).bind (fun w => mm_ev mX9_guess 6 122 [some (vR 0), some (vI a1), some (vI a2), some (vI a3), some (vI a4), some (vI s0), none] (w.1 ++ []) w.2) else (mm_call mX9_partOf [vL (w32 (90 - (w32 ((w32 (10 - a3)) * (w32 (9 - a3)))))), vL 90, vI a4] h).bind (fun w => mm_ev mX9_guess 6 111 [some (vR 0), some (vI a1), some (vI a2), some (vI a3), some (vI a4), some (vI s0), some (vI 90)] (w.1 ++ []) w.2) := (ev_istore 81 [some (vR 0), some (vI a1), some (vI a2), some (vI a3), some (vI a4), some (vI s0), none] dX9_guess_79 rfl rfl).trans ((ev_iload 83 dX9_guess_81 rfl rfl).trans ((ev_if_eq 112 86 dX9_guess_83 rfl rfl).trans (mm_ite ((ev_iload_n 113 dX9_guess_112 rfl rfl).trans ((ev_i2l 114 dX9_guess_113 rfl).trans ((ev_ldc2_w 117 dX9_guess_114 cL_9_248 rfl).trans ((ev_iload 119 dX9_guess_117 rfl rfl).trans ((ev_calls mX9_partOf [vL a3, vL 10, vI a4] [] 122 dX9_guess_119 ml_9_216 k141 rfl rfl rfl (Nat.le_of_ble_eq_true rfl) (Nat.le_of_ble_eq_true rfl) rfl).trans (if_pos (show 2 < 6 from by decide))))))) ((ev_bipush 88 (v := 90) dX9_guess_86 rfl rfl).trans ((ev_istore 90 [some (vR 0), some (vI a1), some (vI a2), some (vI a3), some (vI a4), some (vI s0), some (vI 90)] dX9_guess_88 rfl rfl).trans ((ev_iload 92 dX9_guess_90 rfl rfl).trans ((ev_bipush 94 (v := 10) dX9_guess_92 rfl rfl).trans ((ev_iload_n 95 dX9_guess_94 rfl rfl).trans ((ev_isub 96 dX9_guess_95 rfl).trans ((ev_bipush 98 (v := 9) dX9_guess_96 rfl rfl).trans ((ev_iload_n 99 dX9_guess_98 rfl rfl).trans ((ev_isub 100 dX9_guess_99 rfl).trans ((ev_imul 101 dX9_guess_100 rfl).trans ((ev_isub 102 dX9_guess_101 rfl).trans ((ev_i2l 103 dX9_guess_102 rfl).trans ((ev_iload 105 dX9_guess_103 rfl rfl).trans ((ev_i2l 106 dX9_guess_105 rfl).trans ((ev_iload 108 dX9_guess_106 rfl rfl).trans ((ev_calls mX9_partOf [vL (w32 (90 - (w32 ((w32 (10 - a3)) * (w32 (9 - a3)))))), vL 90, vI a4] [] 111 dX9_guess_108 ml_9_216 k141 rfl rfl rfl (Nat.le_of_ble_eq_true rfl) (Nat.le_of_ble_eq_true rfl) rfl).trans (if_pos (show 2 < 6 from by decide)))))))))))))))))))))
theorem X9_guess_111 (h : mm_M) (a1 : Int) (a2 : Int) (a3 : Int) (a4 : Int) (a5 : Int) (a6 : Int) (s0 : Int) : mm_ev mX9_guess 6 111 [some (vR 0), some (vI a1), some (vI a2), some (vI a3), some (vI a4), some (vI a5), some (vI a6)] [vL s0] h = some ([vL s0], h) := ev_lret dX9_guess_111 rfl
theorem X9_guess_122 (h : mm_M) (a1 : Int) (a2 : Int) (a3 : Int) (a4 : Int) (a5 : Int) (s0 : Int) : mm_ev mX9_guess 6 122 [some (vR 0), some (vI a1), some (vI a2), some (vI a3), some (vI a4), some (vI a5), none] [vL s0] h = some ([vL s0], h) := ev_lret dX9_guess_122 rfl
theorem dX9_isPlaceAndMinute_0 : decode mX9_isPlaceAndMinute.1 0 = .ok (.iload_n 1, 1) := by decide +kernel
theorem dX9_isPlaceAndMinute_1 : decode mX9_isPlaceAndMinute.1 1 = .ok (.ifCond .lt 22, 3) := by decide +kernel
theorem dX9_isPlaceAndMinute_4 : decode mX9_isPlaceAndMinute.1 4 = .ok (.aload_n 0, 1) := by decide +kernel
theorem dX9_isPlaceAndMinute_5 : decode mX9_isPlaceAndMinute.1 5 = .ok (.getfield 10, 3) := by decide +kernel
theorem dX9_isPlaceAndMinute_8 : decode mX9_isPlaceAndMinute.1 8 = .ok (.iload_n 1, 1) := by decide +kernel
theorem dX9_isPlaceAndMinute_9 : decode mX9_isPlaceAndMinute.1 9 = .ok (.sipush 1000, 3) := by decide +kernel
theorem dX9_isPlaceAndMinute_12 : decode mX9_isPlaceAndMinute.1 12 = .ok (.idiv, 1) := by decide +kernel
theorem dX9_isPlaceAndMinute_13 : decode mX9_isPlaceAndMinute.1 13 = .ok (.invokevirtual 101, 3) := by decide +kernel
theorem dX9_isPlaceAndMinute_16 : decode mX9_isPlaceAndMinute.1 16 = .ok (.ifCond .eq 7, 3) := by decide +kernel
theorem dX9_isPlaceAndMinute_19 : decode mX9_isPlaceAndMinute.1 19 = .ok (.iconst 1, 1) := by decide +kernel
theorem dX9_isPlaceAndMinute_20 : decode mX9_isPlaceAndMinute.1 20 = .ok (.goto 4, 3) := by decide +kernel
theorem dX9_isPlaceAndMinute_23 : decode mX9_isPlaceAndMinute.1 23 = .ok (.iconst 0, 1) := by decide +kernel
theorem dX9_isPlaceAndMinute_24 : decode mX9_isPlaceAndMinute.1 24 = .ok (.ireturn, 1) := by decide +kernel
theorem X9_isPlaceAndMinute_0 (h : mm_M) (a1 : Int) : mm_ev mX9_isPlaceAndMinute 2 0 [some (vR 0), some (vI a1)] [] h = if a1 < 0 then some ([vI 0], h) else (mm_call mX4_isPost [vR 1, vI (w32 (a1.tdiv 1000))] h).bind (fun w => mm_ev mX9_isPlaceAndMinute 2 16 [some (vR 0), some (vI a1)] (w.1 ++ []) w.2) := (ev_iload_n 1 dX9_isPlaceAndMinute_0 rfl rfl).trans ((ev_if_lt 23 4 dX9_isPlaceAndMinute_1 rfl rfl).trans (mm_ite ((ev_iconst 24 (v := 0) dX9_isPlaceAndMinute_23 rfl rfl).trans (ev_zret0 dX9_isPlaceAndMinute_24 rfl)) ((ev_aload_n 5 dX9_isPlaceAndMinute_4 rfl rfl).trans ((ev_getF 8 1 dX9_isPlaceAndMinute_5 fl_9_10 oc0 ak0 rfl rf_0_0 rfl).trans ((ev_iload_n 9 dX9_isPlaceAndMinute_8 rfl rfl).trans ((ev_sipush 12 (v := 1000) dX9_isPlaceAndMinute_9 rfl rfl).trans (((ev_idiv 13 dX9_isPlaceAndMinute_12 rfl).trans (if_neg (by decide))).trans ((ev_callv mX4_isPost [vR 1, vI (w32 (a1.tdiv 1000))] [] 16 dX9_isPlaceAndMinute_13 ml_9_101 k43 rfl oc1 ak1 rfl rfl (Nat.le_of_ble_eq_true rfl) (Nat.le_of_ble_eq_true rfl) rfl).trans (if_pos (show 1 < 2 from by decide))))))))))
theorem X9_isPlaceAndMinute_c (h : mm_M) (a1 : Int) : mm_call mX9_isPlaceAndMinute [vR 0, vI a1] h = if a1 < 0 then some ([vI 0], h) else (mm_call mX4_isPost [vR 1, vI (w32 (a1.tdiv 1000))] h).bind (fun w => mm_ev mX9_isPlaceAndMinute 2 16 [some (vR 0), some (vI a1)] (w.1 ++ []) w.2) := X9_isPlaceAndMinute_0 h a1
theorem X9_isPlaceAndMinute_16 (h : mm_M) (a1 : Int) (s0 : Int) : mm_ev mX9_isPlaceAndMinute 2 16 [some (vR 0), some (vI a1)] [vI s0] h = if s0 = 0 then some ([vI 0], h) else some ([vI 1], h) := (ev_if_eq 23 19 dX9_isPlaceAndMinute_16 rfl rfl).trans (mm_ite ((ev_iconst 24 (v := 0) dX9_isPlaceAndMinute_23 rfl rfl).trans (ev_zret0 dX9_isPlaceAndMinute_24 rfl)) ((ev_iconst 20 (v := 1) dX9_isPlaceAndMinute_19 rfl rfl).trans ((ev_goto 24 dX9_isPlaceAndMinute_20 rfl).trans (ev_zret1 dX9_isPlaceAndMinute_24 rfl))))
theorem dX9_isPart_0 : decode mX9_isPart.1 0 = .ok (.iload_n 0, 1) := by decide +kernel
theorem dX9_isPart_1 : decode mX9_isPart.1 1 = .ok (.ifCond .eq 8, 3) := by decide +kernel
theorem dX9_isPart_4 : decode mX9_isPart.1 4 = .ok (.iload_n 0, 1) := by decide +kernel
theorem dX9_isPart_5 : decode mX9_isPart.1 5 = .ok (.iconst 1, 1) := by decide +kernel
theorem dX9_isPart_6 : decode mX9_isPart.1 6 = .ok (.if_icmp .ne 7, 3) := by decide +kernel
theorem dX9_isPart_9 : decode mX9_isPart.1 9 = .ok (.iconst 1, 1) := by decide +kernel
theorem dX9_isPart_10 : decode mX9_isPart.1 10 = .ok (.goto 4, 3) := by decide +kernel
theorem dX9_isPart_13 : decode mX9_isPart.1 13 = .ok (.iconst 0, 1) := by decide +kernel
theorem dX9_isPart_14 : decode mX9_isPart.1 14 = .ok (.ireturn, 1) := by decide +kernel
theorem X9_isPart_0 (h : mm_M) (a0 : Int) : mm_ev mX9_isPart 1 0 [some (vI a0)] [] h = if a0 = 0 then some ([vI 1], h) else if ¬ a0 = 1 then some ([vI 0], h) else some ([vI 1], h) := (ev_iload_n 1 dX9_isPart_0 rfl rfl).trans ((ev_if_eq 9 4 dX9_isPart_1 rfl rfl).trans (mm_ite ((ev_iconst 10 (v := 1) dX9_isPart_9 rfl rfl).trans ((ev_goto 14 dX9_isPart_10 rfl).trans (ev_zret1 dX9_isPart_14 rfl))) ((ev_iload_n 5 dX9_isPart_4 rfl rfl).trans ((ev_iconst 6 (v := 1) dX9_isPart_5 rfl rfl).trans ((ev_ic_ne 13 9 dX9_isPart_6 rfl rfl).trans (mm_ite ((ev_iconst 14 (v := 0) dX9_isPart_13 rfl rfl).trans (ev_zret0 dX9_isPart_14 rfl)) ((ev_iconst 10 (v := 1) dX9_isPart_9 rfl rfl).trans ((ev_goto 14 dX9_isPart_10 rfl).trans (ev_zret1 dX9_isPart_14 rfl)))))))))
theorem X9_isPart_c (h : mm_M) (a0 : Int) : mm_call mX9_isPart [vI a0] h = if a0 = 0 then some ([vI 1], h) else if ¬ a0 = 1 then some ([vI 0], h) else some ([vI 1], h) := X9_isPart_0 h a0
theorem dX9_partOf_0 : decode mX9_partOf.1 0 = .ok (.lload_n 0, 1) := by decide +kernel
theorem dX9_partOf_1 : decode mX9_partOf.1 1 = .ok (.lload_n 2, 1) := by decide +kernel
theorem dX9_partOf_2 : decode mX9_partOf.1 2 = .ok (.invokestatic 389, 3) := by decide +kernel
theorem dX9_partOf_5 : decode mX9_partOf.1 5 = .ok (.lstore 5, 2) := by decide +kernel
theorem dX9_partOf_7 : decode mX9_partOf.1 7 = .ok (.lload 5, 2) := by decide +kernel
theorem dX9_partOf_9 : decode mX9_partOf.1 9 = .ok (.lconst 0, 1) := by decide +kernel
theorem dX9_partOf_10 : decode mX9_partOf.1 10 = .ok (.lcmp, 1) := by decide +kernel
theorem dX9_partOf_11 : decode mX9_partOf.1 11 = .ok (.ifCond .gt 7, 3) := by decide +kernel
theorem dX9_partOf_14 : decode mX9_partOf.1 14 = .ok (.ldc2_w 202, 3) := by decide +kernel
theorem dX9_partOf_17 : decode mX9_partOf.1 17 = .ok (.lreturn, 1) := by decide +kernel
theorem dX9_partOf_18 : decode mX9_partOf.1 18 = .ok (.iload 4, 2) := by decide +kernel
theorem dX9_partOf_20 : decode mX9_partOf.1 20 = .ok (.ifCond .ne 10, 3) := by decide +kernel
theorem dX9_partOf_23 : decode mX9_partOf.1 23 = .ok (.lload_n 0, 1) := by decide +kernel
theorem dX9_partOf_24 : decode mX9_partOf.1 24 = .ok (.lload 5, 2) := by decide +kernel
theorem dX9_partOf_26 : decode mX9_partOf.1 26 = .ok (.ldiv, 1) := by decide +kernel
theorem dX9_partOf_27 : decode mX9_partOf.1 27 = .ok (.goto 7, 3) := by decide +kernel
theorem dX9_partOf_30 : decode mX9_partOf.1 30 = .ok (.lload_n 2, 1) := by decide +kernel
theorem dX9_partOf_31 : decode mX9_partOf.1 31 = .ok (.lload 5, 2) := by decide +kernel
theorem dX9_partOf_33 : decode mX9_partOf.1 33 = .ok (.ldiv, 1) := by decide +kernel
theorem dX9_partOf_34 : decode mX9_partOf.1 34 = .ok (.lreturn, 1) := by decide +kernel
theorem X9_partOf_0 (h : mm_M) (a0 : Int) (a2 : Int) (a4 : Int) : mm_ev mX9_partOf 2 0 [some (vL a0), none, some (vL a2), none, some (vI a4), none, none] [] h = (mm_call mX9_commonDivisor [vL a0, vL a2] h).bind (fun w => mm_ev mX9_partOf 2 5 [some (vL a0), none, some (vL a2), none, some (vI a4), none, none] (w.1 ++ []) w.2) := (ev_lload_n 1 dX9_partOf_0 rfl rfl).trans ((ev_lload_n 2 dX9_partOf_1 rfl rfl).trans ((ev_calls mX9_commonDivisor [vL a0, vL a2] [] 5 dX9_partOf_2 ml_9_389 k142 rfl rfl rfl (Nat.le_of_ble_eq_true rfl) (Nat.le_of_ble_eq_true rfl) rfl).trans (if_pos (show 1 < 2 from by decide))))
theorem X9_partOf_c (h : mm_M) (a0 : Int) (a2 : Int) (a4 : Int) : mm_call mX9_partOf [vL a0, vL a2, vI a4] h = (mm_call mX9_commonDivisor [vL a0, vL a2] h).bind (fun w => mm_ev mX9_partOf 2 5 [some (vL a0), none, some (vL a2), none, some (vI a4), none, none] (w.1 ++ []) w.2) := X9_partOf_0 h a0 a2 a4
theorem X9_partOf_5 (h : mm_M) (a0 : Int) (a2 : Int) (a4 : Int) (s0 : Int) : mm_ev mX9_partOf 2 5 [some (vL a0), none, some (vL a2), none, some (vI a4), none, none] [vL s0] h = if 0 < (lCmp s0 0) then if ¬ a4 = 0 then if s0 = 0 then none else some ([vL (w64 (a2.tdiv s0))], h) else if s0 = 0 then none else some ([vL (w64 (a0.tdiv s0))], h) else some ([vL (-9223372036854775808)], h) := (ev_lstore 7 [some (vL a0), none, some (vL a2), none, some (vI a4), some (vL s0), none] dX9_partOf_5 rfl rfl).trans ((ev_lload 9 dX9_partOf_7 rfl rfl).trans ((ev_lconst 10 (v := 0) dX9_partOf_9 rfl rfl).trans ((ev_lcmp 11 dX9_partOf_10 rfl).trans ((ev_if_gt 18 14 dX9_partOf_11 rfl rfl).trans (mm_ite ((ev_iload 20 dX9_partOf_18 rfl rfl).trans ((ev_if_ne 30 23 dX9_partOf_20 rfl rfl).trans (mm_ite ((ev_lload_n 31 dX9_partOf_30 rfl rfl).trans ((ev_lload 33 dX9_partOf_31 rfl rfl).trans ((ev_ldiv 34 dX9_partOf_33 rfl).trans (mm_ite (rfl) (ev_lret dX9_partOf_34 rfl))))) ((ev_lload_n 24 dX9_partOf_23 rfl rfl).trans ((ev_lload 26 dX9_partOf_24 rfl rfl).trans ((ev_ldiv 27 dX9_partOf_26 rfl).trans (mm_ite (rfl) ((ev_goto 34 dX9_partOf_27 rfl).trans (ev_lret dX9_partOf_34 rfl))))))))) ((ev_ldc2_w 17 dX9_partOf_14 cL_9_202 rfl).trans (ev_lret dX9_partOf_17 rfl)))))))
theorem dX9_commonDivisor_0 : decode mX9_commonDivisor.1 0 = .ok (.lload_n 0, 1) := by decide +kernel
theorem dX9_commonDivisor_1 : decode mX9_commonDivisor.1 1 = .ok (.lstore 4, 2) := by decide +kernel
theorem dX9_commonDivisor_3 : decode mX9_commonDivisor.1 3 = .ok (.lload_n 2, 1) := by decide +kernel
theorem dX9_commonDivisor_4 : decode mX9_commonDivisor.1 4 = .ok (.lstore 6, 2) := by decide +kernel
theorem dX9_commonDivisor_6 : decode mX9_commonDivisor.1 6 = .ok (.iconst 0, 1) := by decide +kernel
theorem dX9_commonDivisor_7 : decode mX9_commonDivisor.1 7 = .ok (.istore 8, 2) := by decide +kernel
theorem dX9_commonDivisor_9 : decode mX9_commonDivisor.1 9 = .ok (.iload 8, 2) := by decide +kernel
theorem dX9_commonDivisor_11 : decode mX9_commonDivisor.1 11 = .ok (.sipush 200, 3) := by decide +kernel
theorem dX9_commonDivisor_14 : decode mX9_commonDivisor.1 14 = .ok (.if_icmp .ge 31, 3) := by decide +kernel
theorem dX9_commonDivisor_17 : decode mX9_commonDivisor.1 17 = .ok (.lload 6, 2) := by decide +kernel
theorem dX9_commonDivisor_19 : decode mX9_commonDivisor.1 19 = .ok (.lconst 0, 1) := by decide +kernel
theorem dX9_commonDivisor_20 : decode mX9_commonDivisor.1 20 = .ok (.lcmp, 1) := by decide +kernel
theorem dX9_commonDivisor_21 : decode mX9_commonDivisor.1 21 = .ok (.ifCond .eq 24, 3) := by decide +kernel
theorem dX9_commonDivisor_24 : decode mX9_commonDivisor.1 24 = .ok (.lload 4, 2) := by decide +kernel
theorem dX9_commonDivisor_26 : decode mX9_commonDivisor.1 26 = .ok (.lload 6, 2) := by decide +kernel
theorem dX9_commonDivisor_28 : decode mX9_commonDivisor.1 28 = .ok (.lrem, 1) := by decide +kernel
theorem dX9_commonDivisor_29 : decode mX9_commonDivisor.1 29 = .ok (.lstore 9, 2) := by decide +kernel
theorem dX9_commonDivisor_31 : decode mX9_commonDivisor.1 31 = .ok (.lload 6, 2) := by decide +kernel
theorem dX9_commonDivisor_33 : decode mX9_commonDivisor.1 33 = .ok (.lstore 4, 2) := by decide +kernel
theorem dX9_commonDivisor_35 : decode mX9_commonDivisor.1 35 = .ok (.lload 9, 2) := by decide +kernel
theorem dX9_commonDivisor_37 : decode mX9_commonDivisor.1 37 = .ok (.lstore 6, 2) := by decide +kernel
theorem dX9_commonDivisor_39 : decode mX9_commonDivisor.1 39 = .ok (.iinc 8 1, 3) := by decide +kernel
theorem dX9_commonDivisor_42 : decode mX9_commonDivisor.1 42 = .ok (.goto (-33), 3) := by decide +kernel
theorem dX9_commonDivisor_45 : decode mX9_commonDivisor.1 45 = .ok (.lload 4, 2) := by decide +kernel
theorem dX9_commonDivisor_47 : decode mX9_commonDivisor.1 47 = .ok (.lreturn, 1) := by decide +kernel
theorem X9_commonDivisor_0 (h : mm_M) (a0 : Int) (a2 : Int) : mm_ev mX9_commonDivisor 1 0 [some (vL a0), none, some (vL a2), none, none, none, none, none, none, none, none] [] h = mm_ev mX9_commonDivisor 1 9 [some (vL a0), none, some (vL a2), none, some (vL a0), none, some (vL a2), none, some (vI 0), none, none] [] h := (ev_lload_n 1 dX9_commonDivisor_0 rfl rfl).trans ((ev_lstore 3 [some (vL a0), none, some (vL a2), none, some (vL a0), none, none, none, none, none, none] dX9_commonDivisor_1 rfl rfl).trans ((ev_lload_n 4 dX9_commonDivisor_3 rfl rfl).trans ((ev_lstore 6 [some (vL a0), none, some (vL a2), none, some (vL a0), none, some (vL a2), none, none, none, none] dX9_commonDivisor_4 rfl rfl).trans ((ev_iconst 7 (v := 0) dX9_commonDivisor_6 rfl rfl).trans (ev_istore 9 [some (vL a0), none, some (vL a2), none, some (vL a0), none, some (vL a2), none, some (vI 0), none, none] dX9_commonDivisor_7 rfl rfl)))))
theorem X9_commonDivisor_c (h : mm_M) (a0 : Int) (a2 : Int) : mm_call mX9_commonDivisor [vL a0, vL a2] h = mm_ev mX9_commonDivisor 1 9 [some (vL a0), none, some (vL a2), none, some (vL a0), none, some (vL a2), none, some (vI 0), none, none] [] h := X9_commonDivisor_0 h a0 a2
theorem X9_commonDivisor_9 (h : mm_M) (a0 : Int) (a2 : Int) (a4 : Int) (a6 : Int) (a8 : Int) (o9 : Option mm_V) : mm_ev mX9_commonDivisor 1 9 [some (vL a0), none, some (vL a2), none, some (vL a4), none, some (vL a6), none, some (vI a8), o9, none] [] h = if 200 ≤ a8 then some ([vL a4], h) else if (lCmp a6 0) = 0 then some ([vL a4], h) else if a6 = 0 then none else mm_ev mX9_commonDivisor 1 9 [some (vL a0), none, some (vL a2), none, some (vL a6), none, some (vL (a4.tmod a6)), none, some (vI (w32 (a8 + 1))), some (vL (a4.tmod a6)), none] [] h := (ev_iload 11 dX9_commonDivisor_9 rfl rfl).trans ((ev_sipush 14 (v := 200) dX9_commonDivisor_11 rfl rfl).trans ((ev_ic_ge 45 17 dX9_commonDivisor_14 rfl rfl).trans (mm_ite ((ev_lload 47 dX9_commonDivisor_45 rfl rfl).trans (ev_lret dX9_commonDivisor_47 rfl)) ((ev_lload 19 dX9_commonDivisor_17 rfl rfl).trans ((ev_lconst 20 (v := 0) dX9_commonDivisor_19 rfl rfl).trans ((ev_lcmp 21 dX9_commonDivisor_20 rfl).trans ((ev_if_eq 45 24 dX9_commonDivisor_21 rfl rfl).trans (mm_ite ((ev_lload 47 dX9_commonDivisor_45 rfl rfl).trans (ev_lret dX9_commonDivisor_47 rfl)) ((ev_lload 26 dX9_commonDivisor_24 rfl rfl).trans ((ev_lload 28 dX9_commonDivisor_26 rfl rfl).trans ((ev_lrem 29 dX9_commonDivisor_28 rfl).trans (mm_ite (rfl) ((ev_lstore 31 [some (vL a0), none, some (vL a2), none, some (vL a4), none, some (vL a6), none, some (vI a8), some (vL (a4.tmod a6)), none] dX9_commonDivisor_29 rfl rfl).trans ((ev_lload 33 dX9_commonDivisor_31 rfl rfl).trans ((ev_lstore 35 [some (vL a0), none, some (vL a2), none, some (vL a6), none, some (vL a6), none, some (vI a8), some (vL (a4.tmod a6)), none] dX9_commonDivisor_33 rfl rfl).trans ((ev_lload 37 dX9_commonDivisor_35 rfl rfl).trans ((ev_lstore 39 [some (vL a0), none, some (vL a2), none, some (vL a6), none, some (vL (a4.tmod a6)), none, some (vI a8), some (vL (a4.tmod a6)), none] dX9_commonDivisor_37 rfl rfl).trans ((ev_iinc 42 [some (vL a0), none, some (vL a2), none, some (vL a6), none, some (vL (a4.tmod a6)), none, some (vI (w32 (a8 + 1))), some (vL (a4.tmod a6)), none] dX9_commonDivisor_39 rfl rfl rfl).trans (ev_goto 9 dX9_commonDivisor_42 rfl)))))))))))))))))))
theorem dX9_odds_0 : decode mX9_odds.1 0 = .ok (.iload_n 2, 1) := by decide +kernel
theorem dX9_odds_1 : decode mX9_odds.1 1 = .ok (.ifCond .lt 23, 3) := by decide +kernel
theorem dX9_odds_4 : decode mX9_odds.1 4 = .ok (.iload_n 2, 1) := by decide +kernel
theorem dX9_odds_5 : decode mX9_odds.1 5 = .ok (.iconst 4, 1) := by decide +kernel
theorem dX9_odds_6 : decode mX9_odds.1 6 = .ok (.if_icmp .ge 18, 3) := by decide +kernel
theorem dX9_odds_9 : decode mX9_odds.1 9 = .ok (.iload_n 3, 1) := by decide +kernel
theorem dX9_odds_10 : decode mX9_odds.1 10 = .ok (.invokestatic 199, 3) := by decide +kernel
theorem dX9_odds_13 : decode mX9_odds.1 13 = .ok (.ifCond .eq 11, 3) := by decide +kernel
theorem dX9_odds_16 : decode mX9_odds.1 16 = .ok (.aload_n 0, 1) := by decide +kernel
theorem dX9_odds_17 : decode mX9_odds.1 17 = .ok (.iload_n 1, 1) := by decide +kernel
theorem dX9_odds_18 : decode mX9_odds.1 18 = .ok (.invokevirtual 130, 3) := by decide +kernel
theorem dX9_odds_21 : decode mX9_odds.1 21 = .ok (.ifCond .eq 7, 3) := by decide +kernel
theorem dX9_odds_24 : decode mX9_odds.1 24 = .ok (.ldc2_w 202, 3) := by decide +kernel
theorem dX9_odds_27 : decode mX9_odds.1 27 = .ok (.lreturn, 1) := by decide +kernel
theorem dX9_odds_28 : decode mX9_odds.1 28 = .ok (.aload_n 0, 1) := by decide +kernel
theorem dX9_odds_29 : decode mX9_odds.1 29 = .ok (.getfield 10, 3) := by decide +kernel
theorem dX9_odds_32 : decode mX9_odds.1 32 = .ok (.bipush 9, 2) := by decide +kernel
theorem dX9_odds_34 : decode mX9_odds.1 34 = .ok (.invokevirtual 123, 3) := by decide +kernel
theorem dX9_odds_37 : decode mX9_odds.1 37 = .ok (.istore 4, 2) := by decide +kernel
theorem dX9_odds_39 : decode mX9_odds.1 39 = .ok (.aload_n 0, 1) := by decide +kernel
theorem dX9_odds_40 : decode mX9_odds.1 40 = .ok (.getfield 10, 3) := by decide +kernel
theorem dX9_odds_43 : decode mX9_odds.1 43 = .ok (.bipush 7, 2) := by decide +kernel
theorem dX9_odds_45 : decode mX9_odds.1 45 = .ok (.iload_n 2, 1) := by decide +kernel
theorem dX9_odds_46 : decode mX9_odds.1 46 = .ok (.invokevirtual 236, 3) := by decide +kernel
theorem dX9_odds_49 : decode mX9_odds.1 49 = .ok (.istore 5, 2) := by decide +kernel
theorem dX9_odds_51 : decode mX9_odds.1 51 = .ok (.iconst 0, 1) := by decide +kernel
theorem dX9_odds_52 : decode mX9_odds.1 52 = .ok (.istore 6, 2) := by decide +kernel
theorem dX9_odds_54 : decode mX9_odds.1 54 = .ok (.aload_n 0, 1) := by decide +kernel
theorem dX9_odds_55 : decode mX9_odds.1 55 = .ok (.getfield 10, 3) := by decide +kernel
theorem dX9_odds_58 : decode mX9_odds.1 58 = .ok (.iload 5, 2) := by decide +kernel
theorem dX9_odds_60 : decode mX9_odds.1 60 = .ok (.invokevirtual 101, 3) := by decide +kernel
theorem dX9_odds_63 : decode mX9_odds.1 63 = .ok (.ifCond .eq 43, 3) := by decide +kernel
theorem dX9_odds_66 : decode mX9_odds.1 66 = .ok (.aload_n 0, 1) := by decide +kernel
theorem dX9_odds_67 : decode mX9_odds.1 67 = .ok (.getfield 33, 3) := by decide +kernel
theorem dX9_odds_70 : decode mX9_odds.1 70 = .ok (.getfield 239, 3) := by decide +kernel
theorem dX9_odds_73 : decode mX9_odds.1 73 = .ok (.iload 5, 2) := by decide +kernel
theorem dX9_odds_75 : decode mX9_odds.1 75 = .ok (.iaload, 1) := by decide +kernel
theorem dX9_odds_76 : decode mX9_odds.1 76 = .ok (.ifCond .lt 30, 3) := by decide +kernel
theorem dX9_odds_79 : decode mX9_odds.1 79 = .ok (.aload_n 0, 1) := by decide +kernel
theorem dX9_odds_80 : decode mX9_odds.1 80 = .ok (.getfield 19, 3) := by decide +kernel
theorem dX9_odds_83 : decode mX9_odds.1 83 = .ok (.aload_n 0, 1) := by decide +kernel
theorem dX9_odds_84 : decode mX9_odds.1 84 = .ok (.getfield 10, 3) := by decide +kernel
theorem dX9_odds_87 : decode mX9_odds.1 87 = .ok (.iload 4, 2) := by decide +kernel
theorem dX9_odds_89 : decode mX9_odds.1 89 = .ok (.iload 5, 2) := by decide +kernel
theorem dX9_odds_91 : decode mX9_odds.1 91 = .ok (.aload_n 0, 1) := by decide +kernel
theorem dX9_odds_92 : decode mX9_odds.1 92 = .ok (.getfield 33, 3) := by decide +kernel
theorem dX9_odds_95 : decode mX9_odds.1 95 = .ok (.getfield 239, 3) := by decide +kernel
theorem dX9_odds_98 : decode mX9_odds.1 98 = .ok (.iload 5, 2) := by decide +kernel
theorem dX9_odds_100 : decode mX9_odds.1 100 = .ok (.iaload, 1) := by decide +kernel
theorem dX9_odds_101 : decode mX9_odds.1 101 = .ok (.invokevirtual 126, 3) := by decide +kernel
theorem dX9_odds_104 : decode mX9_odds.1 104 = .ok (.istore 6, 2) := by decide +kernel
theorem dX9_odds_106 : decode mX9_odds.1 106 = .ok (.iconst 0, 1) := by decide +kernel
theorem dX9_odds_107 : decode mX9_odds.1 107 = .ok (.istore 7, 2) := by decide +kernel
theorem dX9_odds_109 : decode mX9_odds.1 109 = .ok (.aload_n 0, 1) := by decide +kernel
theorem dX9_odds_110 : decode mX9_odds.1 110 = .ok (.getfield 33, 3) := by decide +kernel
theorem dX9_odds_113 : decode mX9_odds.1 113 = .ok (.aload_n 0, 1) := by decide +kernel
theorem dX9_odds_114 : decode mX9_odds.1 114 = .ok (.getfield 10, 3) := by decide +kernel
theorem dX9_odds_117 : decode mX9_odds.1 117 = .ok (.iload_n 2, 1) := by decide +kernel
theorem dX9_odds_118 : decode mX9_odds.1 118 = .ok (.iload 4, 2) := by decide +kernel
theorem dX9_odds_120 : decode mX9_odds.1 120 = .ok (.invokevirtual 164, 3) := by decide +kernel
theorem dX9_odds_123 : decode mX9_odds.1 123 = .ok (.ifCond .eq 13, 3) := by decide +kernel
theorem dX9_odds_126 : decode mX9_odds.1 126 = .ok (.iload 7, 2) := by decide +kernel
theorem dX9_odds_128 : decode mX9_odds.1 128 = .ok (.bipush 12, 2) := by decide +kernel
theorem dX9_odds_130 : decode mX9_odds.1 130 = .ok (.iload 6, 2) := by decide +kernel
theorem dX9_odds_132 : decode mX9_odds.1 132 = .ok (.isub, 1) := by decide +kernel
theorem dX9_odds_133 : decode mX9_odds.1 133 = .ok (.iadd, 1) := by decide +kernel
theorem dX9_odds_134 : decode mX9_odds.1 134 = .ok (.istore 7, 2) := by decide +kernel
theorem dX9_odds_136 : decode mX9_odds.1 136 = .ok (.aload_n 0, 1) := by decide +kernel
theorem dX9_odds_137 : decode mX9_odds.1 137 = .ok (.getfield 33, 3) := by decide +kernel
theorem dX9_odds_140 : decode mX9_odds.1 140 = .ok (.aload_n 0, 1) := by decide +kernel
theorem dX9_odds_141 : decode mX9_odds.1 141 = .ok (.getfield 10, 3) := by decide +kernel
theorem dX9_odds_144 : decode mX9_odds.1 144 = .ok (.iload_n 2, 1) := by decide +kernel
theorem dX9_odds_145 : decode mX9_odds.1 145 = .ok (.aload_n 0, 1) := by decide +kernel
theorem dX9_odds_146 : decode mX9_odds.1 146 = .ok (.getfield 10, 3) := by decide +kernel
theorem dX9_odds_149 : decode mX9_odds.1 149 = .ok (.iconst 4, 1) := by decide +kernel
theorem dX9_odds_150 : decode mX9_odds.1 150 = .ok (.iload 4, 2) := by decide +kernel
theorem dX9_odds_152 : decode mX9_odds.1 152 = .ok (.invokevirtual 236, 3) := by decide +kernel
theorem dX9_odds_155 : decode mX9_odds.1 155 = .ok (.invokevirtual 164, 3) := by decide +kernel
theorem dX9_odds_158 : decode mX9_odds.1 158 = .ok (.ifCond .eq 10, 3) := by decide +kernel
theorem dX9_odds_161 : decode mX9_odds.1 161 = .ok (.iload 7, 2) := by decide +kernel
theorem dX9_odds_163 : decode mX9_odds.1 163 = .ok (.iload 6, 2) := by decide +kernel
theorem dX9_odds_165 : decode mX9_odds.1 165 = .ok (.iadd, 1) := by decide +kernel
theorem dX9_odds_166 : decode mX9_odds.1 166 = .ok (.istore 7, 2) := by decide +kernel
theorem dX9_odds_168 : decode mX9_odds.1 168 = .ok (.iload 7, 2) := by decide +kernel
theorem dX9_odds_170 : decode mX9_odds.1 170 = .ok (.i2l, 1) := by decide +kernel
theorem dX9_odds_171 : decode mX9_odds.1 171 = .ok (.ldc2_w 242, 3) := by decide +kernel
theorem dX9_odds_174 : decode mX9_odds.1 174 = .ok (.iload_n 3, 1) := by decide +kernel
theorem dX9_odds_175 : decode mX9_odds.1 175 = .ok (.invokestatic 216, 3) := by decide +kernel
theorem dX9_odds_178 : decode mX9_odds.1 178 = .ok (.lreturn, 1) := by decide +kernel
theorem X9_odds_0 (h : mm_M) (a1 : Int) (a2 : Int) (a3 : Int) : mm_ev mX9_odds 6 0 [some (vR 0), some (vI a1), some (vI a2), some (vI a3), none, none, none, none] [] h = if a2 < 0 then some ([vL (-9223372036854775808)], h) else if 4 ≤ a2 then some ([vL (-9223372036854775808)], h) else (mm_call mX9_isPart [vI a3] h).bind (fun w => mm_ev mX9_odds 6 13 [some (vR 0), some (vI a1), some (vI a2), some (vI a3), none, none, none, none] (w.1 ++ []) w.2) := (ev_iload_n 1 dX9_odds_0 rfl rfl).trans ((ev_if_lt 24 4 dX9_odds_1 rfl rfl).trans (mm_ite ((ev_ldc2_w 27 dX9_odds_24 cL_9_202 rfl).trans (ev_lret dX9_odds_27 rfl)) ((ev_iload_n 5 dX9_odds_4 rfl rfl).trans ((ev_iconst 6 (v := 4) dX9_odds_5 rfl rfl).trans ((ev_ic_ge 24 9 dX9_odds_6 rfl rfl).trans (mm_ite ((ev_ldc2_w 27 dX9_odds_24 cL_9_202 rfl).trans (ev_lret dX9_odds_27 rfl)) ((ev_iload_n 10 dX9_odds_9 rfl rfl).trans ((ev_calls mX9_isPart [vI a3] [] 13 dX9_odds_10 ml_9_199 k134 rfl rfl rfl (Nat.le_of_ble_eq_true rfl) (Nat.le_of_ble_eq_true rfl) rfl).trans (if_pos (show 1 < 6 from by decide))))))))))
theorem X9_odds_c (h : mm_M) (a1 : Int) (a2 : Int) (a3 : Int) : mm_call mX9_odds [vR 0, vI a1, vI a2, vI a3] h = if a2 < 0 then some ([vL (-9223372036854775808)], h) else if 4 ≤ a2 then some ([vL (-9223372036854775808)], h) else (mm_call mX9_isPart [vI a3] h).bind (fun w => mm_ev mX9_odds 6 13 [some (vR 0), some (vI a1), some (vI a2), some (vI a3), none, none, none, none] (w.1 ++ []) w.2) := X9_odds_0 h a1 a2 a3
theorem X9_odds_13 (h : mm_M) (a1 : Int) (a2 : Int) (a3 : Int) (s0 : Int) : mm_ev mX9_odds 6 13 [some (vR 0), some (vI a1), some (vI a2), some (vI a3), none, none, none, none] [vI s0] h = if s0 = 0 then some ([vL (-9223372036854775808)], h) else (mm_call mX9_layOut [vR 0, vI a1] h).bind (fun w => mm_ev mX9_odds 6 21 [some (vR 0), some (vI a1), some (vI a2), some (vI a3), none, none, none, none] (w.1 ++ []) w.2) := (ev_if_eq 24 16 dX9_odds_13 rfl rfl).trans (mm_ite ((ev_ldc2_w 27 dX9_odds_24 cL_9_202 rfl).trans (ev_lret dX9_odds_27 rfl)) ((ev_aload_n 17 dX9_odds_16 rfl rfl).trans ((ev_iload_n 18 dX9_odds_17 rfl rfl).trans ((ev_callv mX9_layOut [vR 0, vI a1] [] 21 dX9_odds_18 ml_9_130 k135 rfl oc0 ak0 rfl rfl (Nat.le_of_ble_eq_true rfl) (Nat.le_of_ble_eq_true rfl) rfl).trans (if_pos (show 5 < 6 from by decide))))))
theorem X9_odds_21 (h : mm_M) (a1 : Int) (a2 : Int) (a3 : Int) (s0 : Int) : mm_ev mX9_odds 6 21 [some (vR 0), some (vI a1), some (vI a2), some (vI a3), none, none, none, none] [vI s0] h = if s0 = 0 then (mm_call mX4_the [vR 1, vI 9] h).bind (fun w => mm_ev mX9_odds 6 37 [some (vR 0), some (vI a1), some (vI a2), some (vI a3), none, none, none, none] (w.1 ++ []) w.2) else some ([vL (-9223372036854775808)], h) := (ev_if_eq 28 24 dX9_odds_21 rfl rfl).trans (mm_ite ((ev_aload_n 29 dX9_odds_28 rfl rfl).trans ((ev_getF 32 1 dX9_odds_29 fl_9_10 oc0 ak0 rfl rf_0_0 rfl).trans ((ev_bipush 34 (v := 9) dX9_odds_32 rfl rfl).trans ((ev_callv mX4_the [vR 1, vI 9] [] 37 dX9_odds_34 ml_9_123 k42 rfl oc1 ak1 rfl rfl (Nat.le_of_ble_eq_true rfl) (Nat.le_of_ble_eq_true rfl) rfl).trans (if_pos (show 1 < 6 from by decide)))))) ((ev_ldc2_w 27 dX9_odds_24 cL_9_202 rfl).trans (ev_lret dX9_odds_27 rfl)))
theorem X9_odds_37 (h : mm_M) (a1 : Int) (a2 : Int) (a3 : Int) (s0 : Int) : mm_ev mX9_odds 6 37 [some (vR 0), some (vI a1), some (vI a2), some (vI a3), none, none, none, none] [vI s0] h = (mm_call mX4_get [vR 1, vI 7, vI a2] h).bind (fun w => mm_ev mX9_odds 6 49 [some (vR 0), some (vI a1), some (vI a2), some (vI a3), some (vI s0), none, none, none] (w.1 ++ []) w.2) := (ev_istore 39 [some (vR 0), some (vI a1), some (vI a2), some (vI a3), some (vI s0), none, none, none] dX9_odds_37 rfl rfl).trans ((ev_aload_n 40 dX9_odds_39 rfl rfl).trans ((ev_getF 43 1 dX9_odds_40 fl_9_10 oc0 ak0 rfl rf_0_0 rfl).trans ((ev_bipush 45 (v := 7) dX9_odds_43 rfl rfl).trans ((ev_iload_n 46 dX9_odds_45 rfl rfl).trans ((ev_callv mX4_get [vR 1, vI 7, vI a2] [] 49 dX9_odds_46 ml_9_236 k41 rfl oc1 ak1 rfl rfl (Nat.le_of_ble_eq_true rfl) (Nat.le_of_ble_eq_true rfl) rfl).trans (if_pos (show 1 < 6 from by decide)))))))
theorem X9_odds_49 (h : mm_M) (a1 : Int) (a2 : Int) (a3 : Int) (a4 : Int) (s0 : Int) : mm_ev mX9_odds 6 49 [some (vR 0), some (vI a1), some (vI a2), some (vI a3), some (vI a4), none, none, none] [vI s0] h = (mm_call mX4_isPost [vR 1, vI s0] h).bind (fun w => mm_ev mX9_odds 6 63 [some (vR 0), some (vI a1), some (vI a2), some (vI a3), some (vI a4), some (vI s0), some (vI 0), none] (w.1 ++ []) w.2) := (ev_istore 51 [some (vR 0), some (vI a1), some (vI a2), some (vI a3), some (vI a4), some (vI s0), none, none] dX9_odds_49 rfl rfl).trans ((ev_iconst 52 (v := 0) dX9_odds_51 rfl rfl).trans ((ev_istore 54 [some (vR 0), some (vI a1), some (vI a2), some (vI a3), some (vI a4), some (vI s0), some (vI 0), none] dX9_odds_52 rfl rfl).trans ((ev_aload_n 55 dX9_odds_54 rfl rfl).trans ((ev_getF 58 1 dX9_odds_55 fl_9_10 oc0 ak0 rfl rf_0_0 rfl).trans ((ev_iload 60 dX9_odds_58 rfl rfl).trans ((ev_callv mX4_isPost [vR 1, vI s0] [] 63 dX9_odds_60 ml_9_101 k43 rfl oc1 ak1 rfl rfl (Nat.le_of_ble_eq_true rfl) (Nat.le_of_ble_eq_true rfl) rfl).trans (if_pos (show 1 < 6 from by decide))))))))
theorem X9_odds_63 (h : mm_M) (a1 : Int) (a2 : Int) (a3 : Int) (a4 : Int) (a5 : Int) (a6 : Int) (s0 : Int) : mm_ev mX9_odds 6 63 [some (vR 0), some (vI a1), some (vI a2), some (vI a3), some (vI a4), some (vI a5), some (vI a6), none] [vI s0] h = if s0 = 0 then mm_ev mX9_odds 6 106 [some (vR 0), some (vI a1), some (vI a2), some (vI a3), some (vI a4), some (vI a5), some (vI a6), none] [] h else if 0 ≤ a5 ∧ a5 < 7 then if (h 24 a5) < 0 then mm_ev mX9_odds 6 106 [some (vR 0), some (vI a1), some (vI a2), some (vI a3), some (vI a4), some (vI a5), some (vI a6), none] [] h else if 0 ≤ a5 ∧ a5 < 7 then (mm_call mX3_mishearing [vR 2, vR 1, vI a4, vI a5, vI (h 24 a5)] h).bind (fun w => mm_ev mX9_odds 6 104 [some (vR 0), some (vI a1), some (vI a2), some (vI a3), some (vI a4), some (vI a5), some (vI a6), none] (w.1 ++ []) w.2) else none else none := (ev_if_eq 106 66 dX9_odds_63 rfl rfl).trans (mm_ite (rfl) ((ev_aload_n 67 dX9_odds_66 rfl rfl).trans ((ev_getF 70 4 dX9_odds_67 fl_9_33 oc0 ak0 rfl rf_0_3 rfl).trans ((ev_getF 73 24 dX9_odds_70 fl_9_239 oc4 ak4 rfl rf_4_2 rfl).trans ((ev_iload 75 dX9_odds_73 rfl rfl).trans ((ev_iald 76 7 dX9_odds_75 ak24 an24 rfl).trans (mm_ite ((ev_if_lt 106 79 dX9_odds_76 rfl rfl).trans (mm_ite (rfl) ((ev_aload_n 80 dX9_odds_79 rfl rfl).trans ((ev_getF 83 2 dX9_odds_80 fl_9_19 oc0 ak0 rfl rf_0_1 rfl).trans ((ev_aload_n 84 dX9_odds_83 rfl rfl).trans ((ev_getF 87 1 dX9_odds_84 fl_9_10 oc0 ak0 rfl rf_0_0 rfl).trans ((ev_iload 89 dX9_odds_87 rfl rfl).trans ((ev_iload 91 dX9_odds_89 rfl rfl).trans ((ev_aload_n 92 dX9_odds_91 rfl rfl).trans ((ev_getF 95 4 dX9_odds_92 fl_9_33 oc0 ak0 rfl rf_0_3 rfl).trans ((ev_getF 98 24 dX9_odds_95 fl_9_239 oc4 ak4 rfl rf_4_2 rfl).trans ((ev_iload 100 dX9_odds_98 rfl rfl).trans ((ev_iald 101 7 dX9_odds_100 ak24 an24 rfl).trans (mm_ite ((ev_callv mX3_mishearing [vR 2, vR 1, vI a4, vI a5, vI (h 24 a5)] [] 104 dX9_odds_101 ml_9_126 k32 rfl oc2 ak2 rfl rfl (Nat.le_of_ble_eq_true rfl) (Nat.le_of_ble_eq_true rfl) rfl).trans (if_pos (show 4 < 6 from by decide))) (rfl))))))))))))))) (rfl))))))))
theorem X9_odds_104 (h : mm_M) (a1 : Int) (a2 : Int) (a3 : Int) (a4 : Int) (a5 : Int) (a6 : Int) (s0 : Int) : mm_ev mX9_odds 6 104 [some (vR 0), some (vI a1), some (vI a2), some (vI a3), some (vI a4), some (vI a5), some (vI a6), none] [vI s0] h = mm_ev mX9_odds 6 106 [some (vR 0), some (vI a1), some (vI a2), some (vI a3), some (vI a4), some (vI a5), some (vI s0), none] [] h := ev_istore 106 [some (vR 0), some (vI a1), some (vI a2), some (vI a3), some (vI a4), some (vI a5), some (vI s0), none] dX9_odds_104 rfl rfl
theorem X9_odds_106 (h : mm_M) (a1 : Int) (a2 : Int) (a3 : Int) (a4 : Int) (a5 : Int) (a6 : Int) : mm_ev mX9_odds 6 106 [some (vR 0), some (vI a1), some (vI a2), some (vI a3), some (vI a4), some (vI a5), some (vI a6), none] [] h = (mm_call mX8_goesIn [vR 4, vR 1, vI a2, vI a4] h).bind (fun w => mm_ev mX9_odds 6 123 [some (vR 0), some (vI a1), some (vI a2), some (vI a3), some (vI a4), some (vI a5), some (vI a6), some (vI 0)] (w.1 ++ []) w.2) := (ev_iconst 107 (v := 0) dX9_odds_106 rfl rfl).trans ((ev_istore 109 [some (vR 0), some (vI a1), some (vI a2), some (vI a3), some (vI a4), some (vI a5), some (vI a6), some (vI 0)] dX9_odds_107 rfl rfl).trans ((ev_aload_n 110 dX9_odds_109 rfl rfl).trans ((ev_getF 113 4 dX9_odds_110 fl_9_33 oc0 ak0 rfl rf_0_3 rfl).trans ((ev_aload_n 114 dX9_odds_113 rfl rfl).trans ((ev_getF 117 1 dX9_odds_114 fl_9_10 oc0 ak0 rfl rf_0_0 rfl).trans ((ev_iload_n 118 dX9_odds_117 rfl rfl).trans ((ev_iload 120 dX9_odds_118 rfl rfl).trans ((ev_callv mX8_goesIn [vR 4, vR 1, vI a2, vI a4] [] 123 dX9_odds_120 ml_9_164 k83 rfl oc4 ak4 rfl rfl (Nat.le_of_ble_eq_true rfl) (Nat.le_of_ble_eq_true rfl) rfl).trans (if_pos (show 4 < 6 from by decide))))))))))
theorem X9_odds_123 (h : mm_M) (a1 : Int) (a2 : Int) (a3 : Int) (a4 : Int) (a5 : Int) (a6 : Int) (a7 : Int) (s0 : Int) : mm_ev mX9_odds 6 123 [some (vR 0), some (vI a1), some (vI a2), some (vI a3), some (vI a4), some (vI a5), some (vI a6), some (vI a7)] [vI s0] h = if s0 = 0 then mm_ev mX9_odds 6 136 [some (vR 0), some (vI a1), some (vI a2), some (vI a3), some (vI a4), some (vI a5), some (vI a6), some (vI a7)] [] h else mm_ev mX9_odds 6 136 [some (vR 0), some (vI a1), some (vI a2), some (vI a3), some (vI a4), some (vI a5), some (vI a6), some (vI (w32 (a7 + (w32 (12 - a6)))))] [] h := (ev_if_eq 136 126 dX9_odds_123 rfl rfl).trans (mm_ite (rfl) ((ev_iload 128 dX9_odds_126 rfl rfl).trans ((ev_bipush 130 (v := 12) dX9_odds_128 rfl rfl).trans ((ev_iload 132 dX9_odds_130 rfl rfl).trans ((ev_isub 133 dX9_odds_132 rfl).trans ((ev_iadd 134 dX9_odds_133 rfl).trans (ev_istore 136 [some (vR 0), some (vI a1), some (vI a2), some (vI a3), some (vI a4), some (vI a5), some (vI a6), some (vI (w32 (a7 + (w32 (12 - a6)))))] dX9_odds_134 rfl rfl)))))))
theorem X9_odds_136 (h : mm_M) (a1 : Int) (a2 : Int) (a3 : Int) (a4 : Int) (a5 : Int) (a6 : Int) (a7 : Int) : mm_ev mX9_odds 6 136 [some (vR 0), some (vI a1), some (vI a2), some (vI a3), some (vI a4), some (vI a5), some (vI a6), some (vI a7)] [] h = (mm_call mX4_get [vR 1, vI 4, vI a4] h).bind (fun w => mm_ev mX9_odds 6 155 [some (vR 0), some (vI a1), some (vI a2), some (vI a3), some (vI a4), some (vI a5), some (vI a6), some (vI a7)] (w.1 ++ [vI a2, vR 1, vR 4]) w.2) := (ev_aload_n 137 dX9_odds_136 rfl rfl).trans ((ev_getF 140 4 dX9_odds_137 fl_9_33 oc0 ak0 rfl rf_0_3 rfl).trans ((ev_aload_n 141 dX9_odds_140 rfl rfl).trans ((ev_getF 144 1 dX9_odds_141 fl_9_10 oc0 ak0 rfl rf_0_0 rfl).trans ((ev_iload_n 145 dX9_odds_144 rfl rfl).trans ((ev_aload_n 146 dX9_odds_145 rfl rfl).trans ((ev_getF 149 1 dX9_odds_146 fl_9_10 oc0 ak0 rfl rf_0_0 rfl).trans ((ev_iconst 150 (v := 4) dX9_odds_149 rfl rfl).trans ((ev_iload 152 dX9_odds_150 rfl rfl).trans ((ev_callv mX4_get [vR 1, vI 4, vI a4] [vI a2, vR 1, vR 4] 155 dX9_odds_152 ml_9_236 k41 rfl oc1 ak1 rfl rfl (Nat.le_of_ble_eq_true rfl) (Nat.le_of_ble_eq_true rfl) rfl).trans (if_pos (show 1 < 6 from by decide)))))))))))
theorem X9_odds_155 (h : mm_M) (a1 : Int) (a2 : Int) (a3 : Int) (a4 : Int) (a5 : Int) (a6 : Int) (a7 : Int) (s0 : Int) (s1 : Int) : mm_ev mX9_odds 6 155 [some (vR 0), some (vI a1), some (vI a2), some (vI a3), some (vI a4), some (vI a5), some (vI a6), some (vI a7)] [vI s0, vI s1, vR 1, vR 4] h = (mm_call mX8_goesIn [vR 4, vR 1, vI s1, vI s0] h).bind (fun w => mm_ev mX9_odds 6 158 [some (vR 0), some (vI a1), some (vI a2), some (vI a3), some (vI a4), some (vI a5), some (vI a6), some (vI a7)] (w.1 ++ []) w.2) := (ev_callv mX8_goesIn [vR 4, vR 1, vI s1, vI s0] [] 158 dX9_odds_155 ml_9_164 k83 rfl oc4 ak4 rfl rfl (Nat.le_of_ble_eq_true rfl) (Nat.le_of_ble_eq_true rfl) rfl).trans (if_pos (show 4 < 6 from by decide))
theorem X9_odds_158 (h : mm_M) (a1 : Int) (a2 : Int) (a3 : Int) (a4 : Int) (a5 : Int) (a6 : Int) (a7 : Int) (s0 : Int) : mm_ev mX9_odds 6 158 [some (vR 0), some (vI a1), some (vI a2), some (vI a3), some (vI a4), some (vI a5), some (vI a6), some (vI a7)] [vI s0] h = if s0 = 0 then (mm_call mX9_partOf [vL a7, vL 12, vI a3] h).bind (fun w => mm_ev mX9_odds 6 178 [some (vR 0), some (vI a1), some (vI a2), some (vI a3), some (vI a4), some (vI a5), some (vI a6), some (vI a7)] (w.1 ++ []) w.2) else (mm_call mX9_partOf [vL (w32 (a7 + a6)), vL 12, vI a3] h).bind (fun w => mm_ev mX9_odds 6 178 [some (vR 0), some (vI a1), some (vI a2), some (vI a3), some (vI a4), some (vI a5), some (vI a6), some (vI (w32 (a7 + a6)))] (w.1 ++ []) w.2) := (ev_if_eq 168 161 dX9_odds_158 rfl rfl).trans (mm_ite ((ev_iload 170 dX9_odds_168 rfl rfl).trans ((ev_i2l 171 dX9_odds_170 rfl).trans ((ev_ldc2_w 174 dX9_odds_171 cL_9_242 rfl).trans ((ev_iload_n 175 dX9_odds_174 rfl rfl).trans ((ev_calls mX9_partOf [vL a7, vL 12, vI a3] [] 178 dX9_odds_175 ml_9_216 k141 rfl rfl rfl (Nat.le_of_ble_eq_true rfl) (Nat.le_of_ble_eq_true rfl) rfl).trans (if_pos (show 2 < 6 from by decide))))))) ((ev_iload 163 dX9_odds_161 rfl rfl).trans ((ev_iload 165 dX9_odds_163 rfl rfl).trans ((ev_iadd 166 dX9_odds_165 rfl).trans ((ev_istore 168 [some (vR 0), some (vI a1), some (vI a2), some (vI a3), some (vI a4), some (vI a5), some (vI a6), some (vI (w32 (a7 + a6)))] dX9_odds_166 rfl rfl).trans ((ev_iload 170 dX9_odds_168 rfl rfl).trans ((ev_i2l 171 dX9_odds_170 rfl).trans ((ev_ldc2_w 174 dX9_odds_171 cL_9_242 rfl).trans ((ev_iload_n 175 dX9_odds_174 rfl rfl).trans ((ev_calls mX9_partOf [vL (w32 (a7 + a6)), vL 12, vI a3] [] 178 dX9_odds_175 ml_9_216 k141 rfl rfl rfl (Nat.le_of_ble_eq_true rfl) (Nat.le_of_ble_eq_true rfl) rfl).trans (if_pos (show 2 < 6 from by decide))))))))))))
theorem X9_odds_178 (h : mm_M) (a1 : Int) (a2 : Int) (a3 : Int) (a4 : Int) (a5 : Int) (a6 : Int) (a7 : Int) (s0 : Int) : mm_ev mX9_odds 6 178 [some (vR 0), some (vI a1), some (vI a2), some (vI a3), some (vI a4), some (vI a5), some (vI a6), some (vI a7)] [vL s0] h = some ([vL s0], h) := ev_lret dX9_odds_178 rfl
theorem dX9_word_0 : decode mX9_word.1 0 = .ok (.aload_n 0, 1) := by decide +kernel
theorem dX9_word_1 : decode mX9_word.1 1 = .ok (.iload_n 1, 1) := by decide +kernel
theorem dX9_word_2 : decode mX9_word.1 2 = .ok (.invokevirtual 130, 3) := by decide +kernel
theorem dX9_word_5 : decode mX9_word.1 5 = .ok (.istore_n 2, 1) := by decide +kernel
theorem dX9_word_6 : decode mX9_word.1 6 = .ok (.iload_n 2, 1) := by decide +kernel
theorem dX9_word_7 : decode mX9_word.1 7 = .ok (.ifCond .eq 5, 3) := by decide +kernel
theorem dX9_word_10 : decode mX9_word.1 10 = .ok (.iload_n 2, 1) := by decide +kernel
theorem dX9_word_11 : decode mX9_word.1 11 = .ok (.ireturn, 1) := by decide +kernel
theorem dX9_word_12 : decode mX9_word.1 12 = .ok (.bipush (-2), 2) := by decide +kernel
theorem dX9_word_14 : decode mX9_word.1 14 = .ok (.istore_n 3, 1) := by decide +kernel
theorem dX9_word_15 : decode mX9_word.1 15 = .ok (.ldc2_w 234, 3) := by decide +kernel
theorem dX9_word_18 : decode mX9_word.1 18 = .ok (.lstore 4, 2) := by decide +kernel
theorem dX9_word_20 : decode mX9_word.1 20 = .ok (.iconst 0, 1) := by decide +kernel
theorem dX9_word_21 : decode mX9_word.1 21 = .ok (.istore 6, 2) := by decide +kernel
theorem dX9_word_23 : decode mX9_word.1 23 = .ok (.iload 6, 2) := by decide +kernel
theorem dX9_word_25 : decode mX9_word.1 25 = .ok (.bipush 10, 2) := by decide +kernel
theorem dX9_word_27 : decode mX9_word.1 27 = .ok (.if_icmp .ge 73, 3) := by decide +kernel
theorem dX9_word_30 : decode mX9_word.1 30 = .ok (.iload 6, 2) := by decide +kernel
theorem dX9_word_32 : decode mX9_word.1 32 = .ok (.aload_n 0, 1) := by decide +kernel
theorem dX9_word_33 : decode mX9_word.1 33 = .ok (.getfield 10, 3) := by decide +kernel
theorem dX9_word_36 : decode mX9_word.1 36 = .ok (.bipush 8, 2) := by decide +kernel
theorem dX9_word_38 : decode mX9_word.1 38 = .ok (.invokevirtual 123, 3) := by decide +kernel
theorem dX9_word_41 : decode mX9_word.1 41 = .ok (.if_icmp .eq 53, 3) := by decide +kernel
theorem dX9_word_44 : decode mX9_word.1 44 = .ok (.aload_n 0, 1) := by decide +kernel
theorem dX9_word_45 : decode mX9_word.1 45 = .ok (.getfield 43, 3) := by decide +kernel
theorem dX9_word_48 : decode mX9_word.1 48 = .ok (.aload_n 0, 1) := by decide +kernel
theorem dX9_word_49 : decode mX9_word.1 49 = .ok (.getfield 10, 3) := by decide +kernel
theorem dX9_word_52 : decode mX9_word.1 52 = .ok (.aload_n 0, 1) := by decide +kernel
theorem dX9_word_53 : decode mX9_word.1 53 = .ok (.getfield 19, 3) := by decide +kernel
theorem dX9_word_56 : decode mX9_word.1 56 = .ok (.aload_n 0, 1) := by decide +kernel
theorem dX9_word_57 : decode mX9_word.1 57 = .ok (.getfield 33, 3) := by decide +kernel
theorem dX9_word_60 : decode mX9_word.1 60 = .ok (.iload 6, 2) := by decide +kernel
theorem dX9_word_62 : decode mX9_word.1 62 = .ok (.invokevirtual 204, 3) := by decide +kernel
theorem dX9_word_65 : decode mX9_word.1 65 = .ok (.aload_n 0, 1) := by decide +kernel
theorem dX9_word_66 : decode mX9_word.1 66 = .ok (.getfield 43, 3) := by decide +kernel
theorem dX9_word_69 : decode mX9_word.1 69 = .ok (.aload_n 0, 1) := by decide +kernel
theorem dX9_word_70 : decode mX9_word.1 70 = .ok (.getfield 33, 3) := by decide +kernel
theorem dX9_word_73 : decode mX9_word.1 73 = .ok (.iconst 0, 1) := by decide +kernel
theorem dX9_word_74 : decode mX9_word.1 74 = .ok (.invokevirtual 208, 3) := by decide +kernel
theorem dX9_word_77 : decode mX9_word.1 77 = .ok (.lstore 7, 2) := by decide +kernel
theorem dX9_word_79 : decode mX9_word.1 79 = .ok (.lload 7, 2) := by decide +kernel
theorem dX9_word_81 : decode mX9_word.1 81 = .ok (.lload 4, 2) := by decide +kernel
theorem dX9_word_83 : decode mX9_word.1 83 = .ok (.lcmp, 1) := by decide +kernel
theorem dX9_word_84 : decode mX9_word.1 84 = .ok (.ifCond .le 10, 3) := by decide +kernel
theorem dX9_word_87 : decode mX9_word.1 87 = .ok (.lload 7, 2) := by decide +kernel
theorem dX9_word_89 : decode mX9_word.1 89 = .ok (.lstore 4, 2) := by decide +kernel
theorem dX9_word_91 : decode mX9_word.1 91 = .ok (.iload 6, 2) := by decide +kernel
theorem dX9_word_93 : decode mX9_word.1 93 = .ok (.istore_n 3, 1) := by decide +kernel
theorem dX9_word_94 : decode mX9_word.1 94 = .ok (.iinc 6 1, 3) := by decide +kernel
theorem dX9_word_97 : decode mX9_word.1 97 = .ok (.goto (-74), 3) := by decide +kernel
theorem dX9_word_100 : decode mX9_word.1 100 = .ok (.iload_n 3, 1) := by decide +kernel
theorem dX9_word_101 : decode mX9_word.1 101 = .ok (.ireturn, 1) := by decide +kernel
theorem X9_word_0 (h : mm_M) (a1 : Int) : mm_ev mX9_word 6 0 [some (vR 0), some (vI a1), none, none, none, none, none, none, none] [] h = (mm_call mX9_layOut [vR 0, vI a1] h).bind (fun w => mm_ev mX9_word 6 5 [some (vR 0), some (vI a1), none, none, none, none, none, none, none] (w.1 ++ []) w.2) := (ev_aload_n 1 dX9_word_0 rfl rfl).trans ((ev_iload_n 2 dX9_word_1 rfl rfl).trans ((ev_callv mX9_layOut [vR 0, vI a1] [] 5 dX9_word_2 ml_9_130 k135 rfl oc0 ak0 rfl rfl (Nat.le_of_ble_eq_true rfl) (Nat.le_of_ble_eq_true rfl) rfl).trans (if_pos (show 5 < 6 from by decide))))
theorem X9_word_c (h : mm_M) (a1 : Int) : mm_call mX9_word [vR 0, vI a1] h = (mm_call mX9_layOut [vR 0, vI a1] h).bind (fun w => mm_ev mX9_word 6 5 [some (vR 0), some (vI a1), none, none, none, none, none, none, none] (w.1 ++ []) w.2) := X9_word_0 h a1
theorem X9_word_5 (h : mm_M) (a1 : Int) (s0 : Int) : mm_ev mX9_word 6 5 [some (vR 0), some (vI a1), none, none, none, none, none, none, none] [vI s0] h = if s0 = 0 then mm_ev mX9_word 6 23 [some (vR 0), some (vI a1), some (vI s0), some (vI (-2)), some (vL (-1)), none, some (vI 0), none, none] [] h else some ([vI s0], h) := (ev_istore_n 6 [some (vR 0), some (vI a1), some (vI s0), none, none, none, none, none, none] dX9_word_5 rfl rfl).trans ((ev_iload_n 7 dX9_word_6 rfl rfl).trans ((ev_if_eq 12 10 dX9_word_7 rfl rfl).trans (mm_ite ((ev_bipush 14 (v := (-2)) dX9_word_12 rfl rfl).trans ((ev_istore_n 15 [some (vR 0), some (vI a1), some (vI s0), some (vI (-2)), none, none, none, none, none] dX9_word_14 rfl rfl).trans ((ev_ldc2_w 18 dX9_word_15 cL_9_234 rfl).trans ((ev_lstore 20 [some (vR 0), some (vI a1), some (vI s0), some (vI (-2)), some (vL (-1)), none, none, none, none] dX9_word_18 rfl rfl).trans ((ev_iconst 21 (v := 0) dX9_word_20 rfl rfl).trans (ev_istore 23 [some (vR 0), some (vI a1), some (vI s0), some (vI (-2)), some (vL (-1)), none, some (vI 0), none, none] dX9_word_21 rfl rfl)))))) ((ev_iload_n 11 dX9_word_10 rfl rfl).trans (ev_iret dX9_word_11 rfl)))))
theorem X9_word_23 (h : mm_M) (a1 : Int) (a2 : Int) (a3 : Int) (a4 : Int) (a6 : Int) (o7 : Option mm_V) : mm_ev mX9_word 6 23 [some (vR 0), some (vI a1), some (vI a2), some (vI a3), some (vL a4), none, some (vI a6), o7, none] [] h = if 10 ≤ a6 then some ([vI a3], h) else (mm_call mX4_the [vR 1, vI 8] h).bind (fun w => mm_ev mX9_word 6 41 [some (vR 0), some (vI a1), some (vI a2), some (vI a3), some (vL a4), none, some (vI a6), o7, none] (w.1 ++ [vI a6]) w.2) := (ev_iload 25 dX9_word_23 rfl rfl).trans ((ev_bipush 27 (v := 10) dX9_word_25 rfl rfl).trans ((ev_ic_ge 100 30 dX9_word_27 rfl rfl).trans (mm_ite ((ev_iload_n 101 dX9_word_100 rfl rfl).trans (ev_iret dX9_word_101 rfl)) ((ev_iload 32 dX9_word_30 rfl rfl).trans ((ev_aload_n 33 dX9_word_32 rfl rfl).trans ((ev_getF 36 1 dX9_word_33 fl_9_10 oc0 ak0 rfl rf_0_0 rfl).trans ((ev_bipush 38 (v := 8) dX9_word_36 rfl rfl).trans ((ev_callv mX4_the [vR 1, vI 8] [vI a6] 41 dX9_word_38 ml_9_123 k42 rfl oc1 ak1 rfl rfl (Nat.le_of_ble_eq_true rfl) (Nat.le_of_ble_eq_true rfl) rfl).trans (if_pos (show 1 < 6 from by decide))))))))))
theorem X9_word_41 (h : mm_M) (a1 : Int) (a2 : Int) (a3 : Int) (a4 : Int) (a6 : Int) (o7 : Option mm_V) (s0 : Int) (s1 : Int) : mm_ev mX9_word 6 41 [some (vR 0), some (vI a1), some (vI a2), some (vI a3), some (vL a4), none, some (vI a6), o7, none] [vI s0, vI s1] h = if s1 = s0 then mm_ev mX9_word 6 23 [some (vR 0), some (vI a1), some (vI a2), some (vI a3), some (vL a4), none, some (vI (w32 (a6 + 1))), o7, none] [] h else (mm_call mX1_weigh [vR 6, vR 1, vR 2, vR 4, vI a6] h).bind (fun w => mm_ev mX9_word 6 65 [some (vR 0), some (vI a1), some (vI a2), some (vI a3), some (vL a4), none, some (vI a6), o7, none] (w.1 ++ []) w.2) := (ev_ic_eq 94 44 dX9_word_41 rfl rfl).trans (mm_ite ((ev_iinc 97 [some (vR 0), some (vI a1), some (vI a2), some (vI a3), some (vL a4), none, some (vI (w32 (a6 + 1))), o7, none] dX9_word_94 rfl rfl rfl).trans (ev_goto 23 dX9_word_97 rfl)) ((ev_aload_n 45 dX9_word_44 rfl rfl).trans ((ev_getF 48 6 dX9_word_45 fl_9_43 oc0 ak0 rfl rf_0_5 rfl).trans ((ev_aload_n 49 dX9_word_48 rfl rfl).trans ((ev_getF 52 1 dX9_word_49 fl_9_10 oc0 ak0 rfl rf_0_0 rfl).trans ((ev_aload_n 53 dX9_word_52 rfl rfl).trans ((ev_getF 56 2 dX9_word_53 fl_9_19 oc0 ak0 rfl rf_0_1 rfl).trans ((ev_aload_n 57 dX9_word_56 rfl rfl).trans ((ev_getF 60 4 dX9_word_57 fl_9_33 oc0 ak0 rfl rf_0_3 rfl).trans ((ev_iload 62 dX9_word_60 rfl rfl).trans ((ev_callv mX1_weigh [vR 6, vR 1, vR 2, vR 4, vI a6] [] 65 dX9_word_62 ml_9_204 k8 rfl oc6 ak6 rfl rfl (Nat.le_of_ble_eq_true rfl) (Nat.le_of_ble_eq_true rfl) rfl).trans (if_pos (show 5 < 6 from by decide)))))))))))))
theorem X9_word_65 (h : mm_M) (a1 : Int) (a2 : Int) (a3 : Int) (a4 : Int) (a6 : Int) (o7 : Option mm_V) : mm_ev mX9_word 6 65 [some (vR 0), some (vI a1), some (vI a2), some (vI a3), some (vL a4), none, some (vI a6), o7, none] [] h = (mm_call mX1_ofAll [vR 6, vR 4, vI 0] h).bind (fun w => mm_ev mX9_word 6 77 [some (vR 0), some (vI a1), some (vI a2), some (vI a3), some (vL a4), none, some (vI a6), o7, none] (w.1 ++ []) w.2) := (ev_aload_n 66 dX9_word_65 rfl rfl).trans ((ev_getF 69 6 dX9_word_66 fl_9_43 oc0 ak0 rfl rf_0_5 rfl).trans ((ev_aload_n 70 dX9_word_69 rfl rfl).trans ((ev_getF 73 4 dX9_word_70 fl_9_33 oc0 ak0 rfl rf_0_3 rfl).trans ((ev_iconst 74 (v := 0) dX9_word_73 rfl rfl).trans ((ev_callv mX1_ofAll [vR 6, vR 4, vI 0] [] 77 dX9_word_74 ml_9_208 k10 rfl oc6 ak6 rfl rfl (Nat.le_of_ble_eq_true rfl) (Nat.le_of_ble_eq_true rfl) rfl).trans (if_pos (show 2 < 6 from by decide)))))))
theorem X9_word_77 (h : mm_M) (a1 : Int) (a2 : Int) (a3 : Int) (a4 : Int) (a6 : Int) (o7 : Option mm_V) (s0 : Int) : mm_ev mX9_word 6 77 [some (vR 0), some (vI a1), some (vI a2), some (vI a3), some (vL a4), none, some (vI a6), o7, none] [vL s0] h = if (lCmp s0 a4) ≤ 0 then mm_ev mX9_word 6 23 [some (vR 0), some (vI a1), some (vI a2), some (vI a3), some (vL a4), none, some (vI (w32 (a6 + 1))), some (vL s0), none] [] h else mm_ev mX9_word 6 23 [some (vR 0), some (vI a1), some (vI a2), some (vI a6), some (vL s0), none, some (vI (w32 (a6 + 1))), some (vL s0), none] [] h := (ev_lstore 79 [some (vR 0), some (vI a1), some (vI a2), some (vI a3), some (vL a4), none, some (vI a6), some (vL s0), none] dX9_word_77 rfl rfl).trans ((ev_lload 81 dX9_word_79 rfl rfl).trans ((ev_lload 83 dX9_word_81 rfl rfl).trans ((ev_lcmp 84 dX9_word_83 rfl).trans ((ev_if_le 94 87 dX9_word_84 rfl rfl).trans (mm_ite ((ev_iinc 97 [some (vR 0), some (vI a1), some (vI a2), some (vI a3), some (vL a4), none, some (vI (w32 (a6 + 1))), some (vL s0), none] dX9_word_94 rfl rfl rfl).trans (ev_goto 23 dX9_word_97 rfl)) ((ev_lload 89 dX9_word_87 rfl rfl).trans ((ev_lstore 91 [some (vR 0), some (vI a1), some (vI a2), some (vI a3), some (vL s0), none, some (vI a6), some (vL s0), none] dX9_word_89 rfl rfl).trans ((ev_iload 93 dX9_word_91 rfl rfl).trans ((ev_istore_n 94 [some (vR 0), some (vI a1), some (vI a2), some (vI a6), some (vL s0), none, some (vI a6), some (vL s0), none] dX9_word_93 rfl rfl).trans ((ev_iinc 97 [some (vR 0), some (vI a1), some (vI a2), some (vI a6), some (vL s0), none, some (vI (w32 (a6 + 1))), some (vL s0), none] dX9_word_94 rfl rfl rfl).trans (ev_goto 23 dX9_word_97 rfl)))))))))))
theorem dX9_twice_0 : decode mX9_twice.1 0 = .ok (.iload_n 2, 1) := by decide +kernel
theorem dX9_twice_1 : decode mX9_twice.1 1 = .ok (.ifCond .lt 26, 3) := by decide +kernel
theorem dX9_twice_4 : decode mX9_twice.1 4 = .ok (.iload_n 2, 1) := by decide +kernel
theorem dX9_twice_5 : decode mX9_twice.1 5 = .ok (.bipush 6, 2) := by decide +kernel
theorem dX9_twice_7 : decode mX9_twice.1 7 = .ok (.if_icmp .gt 20, 3) := by decide +kernel
theorem dX9_twice_10 : decode mX9_twice.1 10 = .ok (.iload_n 3, 1) := by decide +kernel
theorem dX9_twice_11 : decode mX9_twice.1 11 = .ok (.ifCond .lt 16, 3) := by decide +kernel
theorem dX9_twice_14 : decode mX9_twice.1 14 = .ok (.iload_n 3, 1) := by decide +kernel
theorem dX9_twice_15 : decode mX9_twice.1 15 = .ok (.iconst 2, 1) := by decide +kernel
theorem dX9_twice_16 : decode mX9_twice.1 16 = .ok (.if_icmp .gt 11, 3) := by decide +kernel
theorem dX9_twice_19 : decode mX9_twice.1 19 = .ok (.aload_n 0, 1) := by decide +kernel
theorem dX9_twice_20 : decode mX9_twice.1 20 = .ok (.iload_n 1, 1) := by decide +kernel
theorem dX9_twice_21 : decode mX9_twice.1 21 = .ok (.invokevirtual 130, 3) := by decide +kernel
theorem dX9_twice_24 : decode mX9_twice.1 24 = .ok (.ifCond .eq 7, 3) := by decide +kernel
theorem dX9_twice_27 : decode mX9_twice.1 27 = .ok (.ldc2_w 202, 3) := by decide +kernel
theorem dX9_twice_30 : decode mX9_twice.1 30 = .ok (.lreturn, 1) := by decide +kernel
theorem dX9_twice_31 : decode mX9_twice.1 31 = .ok (.aload_n 0, 1) := by decide +kernel
theorem dX9_twice_32 : decode mX9_twice.1 32 = .ok (.getfield 43, 3) := by decide +kernel
theorem dX9_twice_35 : decode mX9_twice.1 35 = .ok (.aload_n 0, 1) := by decide +kernel
theorem dX9_twice_36 : decode mX9_twice.1 36 = .ok (.getfield 10, 3) := by decide +kernel
theorem dX9_twice_39 : decode mX9_twice.1 39 = .ok (.aload_n 0, 1) := by decide +kernel
theorem dX9_twice_40 : decode mX9_twice.1 40 = .ok (.getfield 19, 3) := by decide +kernel
theorem dX9_twice_43 : decode mX9_twice.1 43 = .ok (.aload_n 0, 1) := by decide +kernel
theorem dX9_twice_44 : decode mX9_twice.1 44 = .ok (.getfield 33, 3) := by decide +kernel
theorem dX9_twice_47 : decode mX9_twice.1 47 = .ok (.aload_n 0, 1) := by decide +kernel
theorem dX9_twice_48 : decode mX9_twice.1 48 = .ok (.getfield 10, 3) := by decide +kernel
theorem dX9_twice_51 : decode mX9_twice.1 51 = .ok (.bipush 9, 2) := by decide +kernel
theorem dX9_twice_53 : decode mX9_twice.1 53 = .ok (.invokevirtual 123, 3) := by decide +kernel
theorem dX9_twice_56 : decode mX9_twice.1 56 = .ok (.invokevirtual 204, 3) := by decide +kernel
theorem dX9_twice_59 : decode mX9_twice.1 59 = .ok (.aload_n 0, 1) := by decide +kernel
theorem dX9_twice_60 : decode mX9_twice.1 60 = .ok (.getfield 43, 3) := by decide +kernel
theorem dX9_twice_63 : decode mX9_twice.1 63 = .ok (.aload_n 0, 1) := by decide +kernel
theorem dX9_twice_64 : decode mX9_twice.1 64 = .ok (.getfield 33, 3) := by decide +kernel
theorem dX9_twice_67 : decode mX9_twice.1 67 = .ok (.iload_n 2, 1) := by decide +kernel
theorem dX9_twice_68 : decode mX9_twice.1 68 = .ok (.aload_n 0, 1) := by decide +kernel
theorem dX9_twice_69 : decode mX9_twice.1 69 = .ok (.getfield 33, 3) := by decide +kernel
theorem dX9_twice_72 : decode mX9_twice.1 72 = .ok (.getfield 189, 3) := by decide +kernel
theorem dX9_twice_75 : decode mX9_twice.1 75 = .ok (.invokestatic 228, 3) := by decide +kernel
theorem dX9_twice_78 : decode mX9_twice.1 78 = .ok (.invokevirtual 231, 3) := by decide +kernel
theorem dX9_twice_81 : decode mX9_twice.1 81 = .ok (.istore 4, 2) := by decide +kernel
theorem dX9_twice_83 : decode mX9_twice.1 83 = .ok (.iload_n 3, 1) := by decide +kernel
theorem dX9_twice_84 : decode mX9_twice.1 84 = .ok (.iconst 2, 1) := by decide +kernel
theorem dX9_twice_85 : decode mX9_twice.1 85 = .ok (.if_icmp .ne 9, 3) := by decide +kernel
theorem dX9_twice_88 : decode mX9_twice.1 88 = .ok (.iload 4, 2) := by decide +kernel
theorem dX9_twice_90 : decode mX9_twice.1 90 = .ok (.i2l, 1) := by decide +kernel
theorem dX9_twice_91 : decode mX9_twice.1 91 = .ok (.goto 31, 3) := by decide +kernel
theorem dX9_twice_94 : decode mX9_twice.1 94 = .ok (.aload_n 0, 1) := by decide +kernel
theorem dX9_twice_95 : decode mX9_twice.1 95 = .ok (.getfield 43, 3) := by decide +kernel
theorem dX9_twice_98 : decode mX9_twice.1 98 = .ok (.aload_n 0, 1) := by decide +kernel
theorem dX9_twice_99 : decode mX9_twice.1 99 = .ok (.getfield 33, 3) := by decide +kernel
theorem dX9_twice_102 : decode mX9_twice.1 102 = .ok (.iload 4, 2) := by decide +kernel
theorem dX9_twice_104 : decode mX9_twice.1 104 = .ok (.invokevirtual 208, 3) := by decide +kernel
theorem dX9_twice_107 : decode mX9_twice.1 107 = .ok (.aload_n 0, 1) := by decide +kernel
theorem dX9_twice_108 : decode mX9_twice.1 108 = .ok (.getfield 43, 3) := by decide +kernel
theorem dX9_twice_111 : decode mX9_twice.1 111 = .ok (.aload_n 0, 1) := by decide +kernel
theorem dX9_twice_112 : decode mX9_twice.1 112 = .ok (.getfield 33, 3) := by decide +kernel
theorem dX9_twice_115 : decode mX9_twice.1 115 = .ok (.invokevirtual 212, 3) := by decide +kernel
theorem dX9_twice_118 : decode mX9_twice.1 118 = .ok (.iload_n 3, 1) := by decide +kernel
theorem dX9_twice_119 : decode mX9_twice.1 119 = .ok (.invokestatic 216, 3) := by decide +kernel
theorem dX9_twice_122 : decode mX9_twice.1 122 = .ok (.lreturn, 1) := by decide +kernel
theorem X9_twice_0 (h : mm_M) (a1 : Int) (a2 : Int) (a3 : Int) : mm_ev mX9_twice 6 0 [some (vR 0), some (vI a1), some (vI a2), some (vI a3), none] [] h = if a2 < 0 then some ([vL (-9223372036854775808)], h) else if 6 < a2 then some ([vL (-9223372036854775808)], h) else if a3 < 0 then some ([vL (-9223372036854775808)], h) else if 2 < a3 then some ([vL (-9223372036854775808)], h) else (mm_call mX9_layOut [vR 0, vI a1] h).bind (fun w => mm_ev mX9_twice 6 24 [some (vR 0), some (vI a1), some (vI a2), some (vI a3), none] (w.1 ++ []) w.2) := (ev_iload_n 1 dX9_twice_0 rfl rfl).trans ((ev_if_lt 27 4 dX9_twice_1 rfl rfl).trans (mm_ite ((ev_ldc2_w 30 dX9_twice_27 cL_9_202 rfl).trans (ev_lret dX9_twice_30 rfl)) ((ev_iload_n 5 dX9_twice_4 rfl rfl).trans ((ev_bipush 7 (v := 6) dX9_twice_5 rfl rfl).trans ((ev_ic_gt 27 10 dX9_twice_7 rfl rfl).trans (mm_ite ((ev_ldc2_w 30 dX9_twice_27 cL_9_202 rfl).trans (ev_lret dX9_twice_30 rfl)) ((ev_iload_n 11 dX9_twice_10 rfl rfl).trans ((ev_if_lt 27 14 dX9_twice_11 rfl rfl).trans (mm_ite ((ev_ldc2_w 30 dX9_twice_27 cL_9_202 rfl).trans (ev_lret dX9_twice_30 rfl)) ((ev_iload_n 15 dX9_twice_14 rfl rfl).trans ((ev_iconst 16 (v := 2) dX9_twice_15 rfl rfl).trans ((ev_ic_gt 27 19 dX9_twice_16 rfl rfl).trans (mm_ite ((ev_ldc2_w 30 dX9_twice_27 cL_9_202 rfl).trans (ev_lret dX9_twice_30 rfl)) ((ev_aload_n 20 dX9_twice_19 rfl rfl).trans ((ev_iload_n 21 dX9_twice_20 rfl rfl).trans ((ev_callv mX9_layOut [vR 0, vI a1] [] 24 dX9_twice_21 ml_9_130 k135 rfl oc0 ak0 rfl rfl (Nat.le_of_ble_eq_true rfl) (Nat.le_of_ble_eq_true rfl) rfl).trans (if_pos (show 5 < 6 from by decide))))))))))))))))))
theorem X9_twice_c (h : mm_M) (a1 : Int) (a2 : Int) (a3 : Int) : mm_call mX9_twice [vR 0, vI a1, vI a2, vI a3] h = if a2 < 0 then some ([vL (-9223372036854775808)], h) else if 6 < a2 then some ([vL (-9223372036854775808)], h) else if a3 < 0 then some ([vL (-9223372036854775808)], h) else if 2 < a3 then some ([vL (-9223372036854775808)], h) else (mm_call mX9_layOut [vR 0, vI a1] h).bind (fun w => mm_ev mX9_twice 6 24 [some (vR 0), some (vI a1), some (vI a2), some (vI a3), none] (w.1 ++ []) w.2) := X9_twice_0 h a1 a2 a3
theorem X9_twice_24 (h : mm_M) (a1 : Int) (a2 : Int) (a3 : Int) (s0 : Int) : mm_ev mX9_twice 6 24 [some (vR 0), some (vI a1), some (vI a2), some (vI a3), none] [vI s0] h = if s0 = 0 then (mm_call mX4_the [vR 1, vI 9] h).bind (fun w => mm_ev mX9_twice 6 56 [some (vR 0), some (vI a1), some (vI a2), some (vI a3), none] (w.1 ++ [vR 4, vR 2, vR 1, vR 6]) w.2) else some ([vL (-9223372036854775808)], h) := (ev_if_eq 31 27 dX9_twice_24 rfl rfl).trans (mm_ite ((ev_aload_n 32 dX9_twice_31 rfl rfl).trans ((ev_getF 35 6 dX9_twice_32 fl_9_43 oc0 ak0 rfl rf_0_5 rfl).trans ((ev_aload_n 36 dX9_twice_35 rfl rfl).trans ((ev_getF 39 1 dX9_twice_36 fl_9_10 oc0 ak0 rfl rf_0_0 rfl).trans ((ev_aload_n 40 dX9_twice_39 rfl rfl).trans ((ev_getF 43 2 dX9_twice_40 fl_9_19 oc0 ak0 rfl rf_0_1 rfl).trans ((ev_aload_n 44 dX9_twice_43 rfl rfl).trans ((ev_getF 47 4 dX9_twice_44 fl_9_33 oc0 ak0 rfl rf_0_3 rfl).trans ((ev_aload_n 48 dX9_twice_47 rfl rfl).trans ((ev_getF 51 1 dX9_twice_48 fl_9_10 oc0 ak0 rfl rf_0_0 rfl).trans ((ev_bipush 53 (v := 9) dX9_twice_51 rfl rfl).trans ((ev_callv mX4_the [vR 1, vI 9] [vR 4, vR 2, vR 1, vR 6] 56 dX9_twice_53 ml_9_123 k42 rfl oc1 ak1 rfl rfl (Nat.le_of_ble_eq_true rfl) (Nat.le_of_ble_eq_true rfl) rfl).trans (if_pos (show 1 < 6 from by decide)))))))))))))) ((ev_ldc2_w 30 dX9_twice_27 cL_9_202 rfl).trans (ev_lret dX9_twice_30 rfl)))
theorem X9_twice_56 (h : mm_M) (a1 : Int) (a2 : Int) (a3 : Int) (s0 : Int) : mm_ev mX9_twice 6 56 [some (vR 0), some (vI a1), some (vI a2), some (vI a3), none] [vI s0, vR 4, vR 2, vR 1, vR 6] h = (mm_call mX1_weigh [vR 6, vR 1, vR 2, vR 4, vI s0] h).bind (fun w => mm_ev mX9_twice 6 59 [some (vR 0), some (vI a1), some (vI a2), some (vI a3), none] (w.1 ++ []) w.2) := (ev_callv mX1_weigh [vR 6, vR 1, vR 2, vR 4, vI s0] [] 59 dX9_twice_56 ml_9_204 k8 rfl oc6 ak6 rfl rfl (Nat.le_of_ble_eq_true rfl) (Nat.le_of_ble_eq_true rfl) rfl).trans (if_pos (show 5 < 6 from by decide))
theorem X9_twice_59 (h : mm_M) (a1 : Int) (a2 : Int) (a3 : Int) : mm_ev mX9_twice 6 59 [some (vR 0), some (vI a1), some (vI a2), some (vI a3), none] [] h = (mm_call mX1_bestSet [vR 6, vR 4, vI (if (h 4 0) < a2 then (h 4 0) else a2)] h).bind (fun w => mm_ev mX9_twice 6 81 [some (vR 0), some (vI a1), some (vI a2), some (vI a3), none] (w.1 ++ []) w.2) := (ev_aload_n 60 dX9_twice_59 rfl rfl).trans ((ev_getF 63 6 dX9_twice_60 fl_9_43 oc0 ak0 rfl rf_0_5 rfl).trans ((ev_aload_n 64 dX9_twice_63 rfl rfl).trans ((ev_getF 67 4 dX9_twice_64 fl_9_33 oc0 ak0 rfl rf_0_3 rfl).trans ((ev_iload_n 68 dX9_twice_67 rfl rfl).trans ((ev_aload_n 69 dX9_twice_68 rfl rfl).trans ((ev_getF 72 4 dX9_twice_69 fl_9_33 oc0 ak0 rfl rf_0_3 rfl).trans ((ev_getI 75 0 dX9_twice_72 fl_9_189 oc4 ak4 (by decide) rfl rfl).trans ((ev_min 78 dX9_twice_75 ml_9_228 (Nat.le_of_ble_eq_true rfl) rfl).trans ((ev_callv mX1_bestSet [vR 6, vR 4, vI (if (h 4 0) < a2 then (h 4 0) else a2)] [] 81 dX9_twice_78 ml_9_231 k13 rfl oc6 ak6 rfl rfl (Nat.le_of_ble_eq_true rfl) (Nat.le_of_ble_eq_true rfl) rfl).trans (if_pos (show 3 < 6 from by decide)))))))))))
theorem X9_twice_81 (h : mm_M) (a1 : Int) (a2 : Int) (a3 : Int) (s0 : Int) : mm_ev mX9_twice 6 81 [some (vR 0), some (vI a1), some (vI a2), some (vI a3), none] [vI s0] h = if ¬ a3 = 2 then (mm_call mX1_ofAll [vR 6, vR 4, vI s0] h).bind (fun w => mm_ev mX9_twice 6 107 [some (vR 0), some (vI a1), some (vI a2), some (vI a3), some (vI s0)] (w.1 ++ []) w.2) else mm_ev mX9_twice 6 122 [some (vR 0), some (vI a1), some (vI a2), some (vI a3), some (vI s0)] [vL s0] h := (ev_istore 83 [some (vR 0), some (vI a1), some (vI a2), some (vI a3), some (vI s0)] dX9_twice_81 rfl rfl).trans ((ev_iload_n 84 dX9_twice_83 rfl rfl).trans ((ev_iconst 85 (v := 2) dX9_twice_84 rfl rfl).trans ((ev_ic_ne 94 88 dX9_twice_85 rfl rfl).trans (mm_ite ((ev_aload_n 95 dX9_twice_94 rfl rfl).trans ((ev_getF 98 6 dX9_twice_95 fl_9_43 oc0 ak0 rfl rf_0_5 rfl).trans ((ev_aload_n 99 dX9_twice_98 rfl rfl).trans ((ev_getF 102 4 dX9_twice_99 fl_9_33 oc0 ak0 rfl rf_0_3 rfl).trans ((ev_iload 104 dX9_twice_102 rfl rfl).trans ((ev_callv mX1_ofAll [vR 6, vR 4, vI s0] [] 107 dX9_twice_104 ml_9_208 k10 rfl oc6 ak6 rfl rfl (Nat.le_of_ble_eq_true rfl) (Nat.le_of_ble_eq_true rfl) rfl).trans (if_pos (show 2 < 6 from by decide)))))))) ((ev_iload 90 dX9_twice_88 rfl rfl).trans ((ev_i2l 91 dX9_twice_90 rfl).trans (ev_goto 122 dX9_twice_91 rfl)))))))
theorem X9_twice_107 (h : mm_M) (a1 : Int) (a2 : Int) (a3 : Int) (a4 : Int) (s0 : Int) : mm_ev mX9_twice 6 107 [some (vR 0), some (vI a1), some (vI a2), some (vI a3), some (vI a4)] [vL s0] h = (mm_call mX1_belowAll [vR 6, vR 4] h).bind (fun w => mm_ev mX9_twice 6 118 [some (vR 0), some (vI a1), some (vI a2), some (vI a3), some (vI a4)] (w.1 ++ [vL s0]) w.2) := (ev_aload_n 108 dX9_twice_107 rfl rfl).trans ((ev_getF 111 6 dX9_twice_108 fl_9_43 oc0 ak0 rfl rf_0_5 rfl).trans ((ev_aload_n 112 dX9_twice_111 rfl rfl).trans ((ev_getF 115 4 dX9_twice_112 fl_9_33 oc0 ak0 rfl rf_0_3 rfl).trans ((ev_callv mX1_belowAll [vR 6, vR 4] [vL s0] 118 dX9_twice_115 ml_9_212 k11 rfl oc6 ak6 rfl rfl (Nat.le_of_ble_eq_true rfl) (Nat.le_of_ble_eq_true rfl) rfl).trans (if_pos (show 1 < 6 from by decide))))))
theorem X9_twice_118 (h : mm_M) (a1 : Int) (a2 : Int) (a3 : Int) (a4 : Int) (s0 : Int) (s1 : Int) : mm_ev mX9_twice 6 118 [some (vR 0), some (vI a1), some (vI a2), some (vI a3), some (vI a4)] [vL s0, vL s1] h = (mm_call mX9_partOf [vL s1, vL s0, vI a3] h).bind (fun w => mm_ev mX9_twice 6 122 [some (vR 0), some (vI a1), some (vI a2), some (vI a3), some (vI a4)] (w.1 ++ []) w.2) := (ev_iload_n 119 dX9_twice_118 rfl rfl).trans ((ev_calls mX9_partOf [vL s1, vL s0, vI a3] [] 122 dX9_twice_119 ml_9_216 k141 rfl rfl rfl (Nat.le_of_ble_eq_true rfl) (Nat.le_of_ble_eq_true rfl) rfl).trans (if_pos (show 2 < 6 from by decide)))
theorem X9_twice_122 (h : mm_M) (a1 : Int) (a2 : Int) (a3 : Int) (a4 : Int) (s0 : Int) : mm_ev mX9_twice 6 122 [some (vR 0), some (vI a1), some (vI a2), some (vI a3), some (vI a4)] [vL s0] h = some ([vL s0], h) := ev_lret dX9_twice_122 rfl
theorem dX9_right_0 : decode mX9_right.1 0 = .ok (.iload 4, 2) := by decide +kernel
theorem dX9_right_2 : decode mX9_right.1 2 = .ok (.invokestatic 199, 3) := by decide +kernel
theorem dX9_right_5 : decode mX9_right.1 5 = .ok (.ifCond .eq 20, 3) := by decide +kernel
theorem dX9_right_8 : decode mX9_right.1 8 = .ok (.iload_n 2, 1) := by decide +kernel
theorem dX9_right_9 : decode mX9_right.1 9 = .ok (.bipush (-2), 2) := by decide +kernel
theorem dX9_right_11 : decode mX9_right.1 11 = .ok (.if_icmp .lt 14, 3) := by decide +kernel
theorem dX9_right_14 : decode mX9_right.1 14 = .ok (.iload_n 2, 1) := by decide +kernel
theorem dX9_right_15 : decode mX9_right.1 15 = .ok (.aload_n 0, 1) := by decide +kernel
theorem dX9_right_16 : decode mX9_right.1 16 = .ok (.getfield 10, 3) := by decide +kernel
theorem dX9_right_19 : decode mX9_right.1 19 = .ok (.getfield 79, 3) := by decide +kernel
theorem dX9_right_22 : decode mX9_right.1 22 = .ok (.if_icmp .lt 7, 3) := by decide +kernel
theorem dX9_right_25 : decode mX9_right.1 25 = .ok (.ldc2_w 202, 3) := by decide +kernel
theorem dX9_right_28 : decode mX9_right.1 28 = .ok (.lreturn, 1) := by decide +kernel
theorem dX9_right_29 : decode mX9_right.1 29 = .ok (.iload_n 3, 1) := by decide +kernel
theorem dX9_right_30 : decode mX9_right.1 30 = .ok (.ifCond .lt 24, 3) := by decide +kernel
theorem dX9_right_33 : decode mX9_right.1 33 = .ok (.iload_n 3, 1) := by decide +kernel
theorem dX9_right_34 : decode mX9_right.1 34 = .ok (.iconst 1, 1) := by decide +kernel
theorem dX9_right_35 : decode mX9_right.1 35 = .ok (.aload_n 0, 1) := by decide +kernel
theorem dX9_right_36 : decode mX9_right.1 36 = .ok (.getfield 10, 3) := by decide +kernel
theorem dX9_right_39 : decode mX9_right.1 39 = .ok (.getfield 79, 3) := by decide +kernel
theorem dX9_right_42 : decode mX9_right.1 42 = .ok (.ishl, 1) := by decide +kernel
theorem dX9_right_43 : decode mX9_right.1 43 = .ok (.if_icmp .ge 11, 3) := by decide +kernel
theorem dX9_right_46 : decode mX9_right.1 46 = .ok (.aload_n 0, 1) := by decide +kernel
theorem dX9_right_47 : decode mX9_right.1 47 = .ok (.iload_n 1, 1) := by decide +kernel
theorem dX9_right_48 : decode mX9_right.1 48 = .ok (.invokevirtual 130, 3) := by decide +kernel
theorem dX9_right_51 : decode mX9_right.1 51 = .ok (.ifCond .eq 7, 3) := by decide +kernel
theorem dX9_right_54 : decode mX9_right.1 54 = .ok (.ldc2_w 202, 3) := by decide +kernel
theorem dX9_right_57 : decode mX9_right.1 57 = .ok (.lreturn, 1) := by decide +kernel
theorem dX9_right_58 : decode mX9_right.1 58 = .ok (.aload_n 0, 1) := by decide +kernel
theorem dX9_right_59 : decode mX9_right.1 59 = .ok (.getfield 43, 3) := by decide +kernel
theorem dX9_right_62 : decode mX9_right.1 62 = .ok (.aload_n 0, 1) := by decide +kernel
theorem dX9_right_63 : decode mX9_right.1 63 = .ok (.getfield 10, 3) := by decide +kernel
theorem dX9_right_66 : decode mX9_right.1 66 = .ok (.aload_n 0, 1) := by decide +kernel
theorem dX9_right_67 : decode mX9_right.1 67 = .ok (.getfield 19, 3) := by decide +kernel
theorem dX9_right_70 : decode mX9_right.1 70 = .ok (.aload_n 0, 1) := by decide +kernel
theorem dX9_right_71 : decode mX9_right.1 71 = .ok (.getfield 33, 3) := by decide +kernel
theorem dX9_right_74 : decode mX9_right.1 74 = .ok (.aload_n 0, 1) := by decide +kernel
theorem dX9_right_75 : decode mX9_right.1 75 = .ok (.getfield 10, 3) := by decide +kernel
theorem dX9_right_78 : decode mX9_right.1 78 = .ok (.bipush 9, 2) := by decide +kernel
theorem dX9_right_80 : decode mX9_right.1 80 = .ok (.invokevirtual 123, 3) := by decide +kernel
theorem dX9_right_83 : decode mX9_right.1 83 = .ok (.invokevirtual 204, 3) := by decide +kernel
theorem dX9_right_86 : decode mX9_right.1 86 = .ok (.iload_n 2, 1) := by decide +kernel
theorem dX9_right_87 : decode mX9_right.1 87 = .ok (.iconst (-1), 1) := by decide +kernel
theorem dX9_right_88 : decode mX9_right.1 88 = .ok (.if_icmp .ne 32, 3) := by decide +kernel
theorem dX9_right_91 : decode mX9_right.1 91 = .ok (.aload_n 0, 1) := by decide +kernel
theorem dX9_right_92 : decode mX9_right.1 92 = .ok (.getfield 43, 3) := by decide +kernel
theorem dX9_right_95 : decode mX9_right.1 95 = .ok (.aload_n 0, 1) := by decide +kernel
theorem dX9_right_96 : decode mX9_right.1 96 = .ok (.getfield 33, 3) := by decide +kernel
theorem dX9_right_99 : decode mX9_right.1 99 = .ok (.iload_n 3, 1) := by decide +kernel
theorem dX9_right_100 : decode mX9_right.1 100 = .ok (.invokevirtual 208, 3) := by decide +kernel
theorem dX9_right_103 : decode mX9_right.1 103 = .ok (.aload_n 0, 1) := by decide +kernel
theorem dX9_right_104 : decode mX9_right.1 104 = .ok (.getfield 43, 3) := by decide +kernel
theorem dX9_right_107 : decode mX9_right.1 107 = .ok (.aload_n 0, 1) := by decide +kernel
theorem dX9_right_108 : decode mX9_right.1 108 = .ok (.getfield 33, 3) := by decide +kernel
theorem dX9_right_111 : decode mX9_right.1 111 = .ok (.invokevirtual 212, 3) := by decide +kernel
theorem dX9_right_114 : decode mX9_right.1 114 = .ok (.iload 4, 2) := by decide +kernel
theorem dX9_right_116 : decode mX9_right.1 116 = .ok (.invokestatic 216, 3) := by decide +kernel
theorem dX9_right_119 : decode mX9_right.1 119 = .ok (.lreturn, 1) := by decide +kernel
theorem dX9_right_120 : decode mX9_right.1 120 = .ok (.iload_n 2, 1) := by decide +kernel
theorem dX9_right_121 : decode mX9_right.1 121 = .ok (.bipush (-2), 2) := by decide +kernel
theorem dX9_right_123 : decode mX9_right.1 123 = .ok (.if_icmp .ne 25, 3) := by decide +kernel
theorem dX9_right_126 : decode mX9_right.1 126 = .ok (.aload_n 0, 1) := by decide +kernel
theorem dX9_right_127 : decode mX9_right.1 127 = .ok (.getfield 43, 3) := by decide +kernel
theorem dX9_right_130 : decode mX9_right.1 130 = .ok (.aload_n 0, 1) := by decide +kernel
theorem dX9_right_131 : decode mX9_right.1 131 = .ok (.getfield 33, 3) := by decide +kernel
theorem dX9_right_134 : decode mX9_right.1 134 = .ok (.iload_n 3, 1) := by decide +kernel
theorem dX9_right_135 : decode mX9_right.1 135 = .ok (.invokevirtual 220, 3) := by decide +kernel
theorem dX9_right_138 : decode mX9_right.1 138 = .ok (.i2l, 1) := by decide +kernel
theorem dX9_right_139 : decode mX9_right.1 139 = .ok (.ldc2_w 223, 3) := by decide +kernel
theorem dX9_right_142 : decode mX9_right.1 142 = .ok (.iload 4, 2) := by decide +kernel
theorem dX9_right_144 : decode mX9_right.1 144 = .ok (.invokestatic 216, 3) := by decide +kernel
theorem dX9_right_147 : decode mX9_right.1 147 = .ok (.lreturn, 1) := by decide +kernel
theorem dX9_right_148 : decode mX9_right.1 148 = .ok (.aload_n 0, 1) := by decide +kernel
theorem dX9_right_149 : decode mX9_right.1 149 = .ok (.getfield 43, 3) := by decide +kernel
theorem dX9_right_152 : decode mX9_right.1 152 = .ok (.iload_n 2, 1) := by decide +kernel
theorem dX9_right_153 : decode mX9_right.1 153 = .ok (.iload_n 3, 1) := by decide +kernel
theorem dX9_right_154 : decode mX9_right.1 154 = .ok (.invokevirtual 225, 3) := by decide +kernel
theorem dX9_right_157 : decode mX9_right.1 157 = .ok (.i2l, 1) := by decide +kernel
theorem dX9_right_158 : decode mX9_right.1 158 = .ok (.ldc2_w 223, 3) := by decide +kernel
theorem dX9_right_161 : decode mX9_right.1 161 = .ok (.iload 4, 2) := by decide +kernel
theorem dX9_right_163 : decode mX9_right.1 163 = .ok (.invokestatic 216, 3) := by decide +kernel
theorem dX9_right_166 : decode mX9_right.1 166 = .ok (.lreturn, 1) := by decide +kernel
theorem X9_right_0 (h : mm_M) (a1 : Int) (a2 : Int) (a3 : Int) (a4 : Int) : mm_ev mX9_right 6 0 [some (vR 0), some (vI a1), some (vI a2), some (vI a3), some (vI a4)] [] h = (mm_call mX9_isPart [vI a4] h).bind (fun w => mm_ev mX9_right 6 5 [some (vR 0), some (vI a1), some (vI a2), some (vI a3), some (vI a4)] (w.1 ++ []) w.2) := (ev_iload 2 dX9_right_0 rfl rfl).trans ((ev_calls mX9_isPart [vI a4] [] 5 dX9_right_2 ml_9_199 k134 rfl rfl rfl (Nat.le_of_ble_eq_true rfl) (Nat.le_of_ble_eq_true rfl) rfl).trans (if_pos (show 1 < 6 from by decide)))
theorem X9_right_c (h : mm_M) (a1 : Int) (a2 : Int) (a3 : Int) (a4 : Int) : mm_call mX9_right [vR 0, vI a1, vI a2, vI a3, vI a4] h = (mm_call mX9_isPart [vI a4] h).bind (fun w => mm_ev mX9_right 6 5 [some (vR 0), some (vI a1), some (vI a2), some (vI a3), some (vI a4)] (w.1 ++ []) w.2) := X9_right_0 h a1 a2 a3 a4
theorem X9_right_5 (h : mm_M) (a1 : Int) (a2 : Int) (a3 : Int) (a4 : Int) (s0 : Int) : mm_ev mX9_right 6 5 [some (vR 0), some (vI a1), some (vI a2), some (vI a3), some (vI a4)] [vI s0] h = if s0 = 0 then some ([vL (-9223372036854775808)], h) else if a2 < (-2) then some ([vL (-9223372036854775808)], h) else if a2 < (h 1 1) then if a3 < 0 then some ([vL (-9223372036854775808)], h) else if (iShl 1 (h 1 1)) ≤ a3 then some ([vL (-9223372036854775808)], h) else (mm_call mX9_layOut [vR 0, vI a1] h).bind (fun w => mm_ev mX9_right 6 51 [some (vR 0), some (vI a1), some (vI a2), some (vI a3), some (vI a4)] (w.1 ++ []) w.2) else some ([vL (-9223372036854775808)], h) := (ev_if_eq 25 8 dX9_right_5 rfl rfl).trans (mm_ite ((ev_ldc2_w 28 dX9_right_25 cL_9_202 rfl).trans (ev_lret dX9_right_28 rfl)) ((ev_iload_n 9 dX9_right_8 rfl rfl).trans ((ev_bipush 11 (v := (-2)) dX9_right_9 rfl rfl).trans ((ev_ic_lt 25 14 dX9_right_11 rfl rfl).trans (mm_ite ((ev_ldc2_w 28 dX9_right_25 cL_9_202 rfl).trans (ev_lret dX9_right_28 rfl)) ((ev_iload_n 15 dX9_right_14 rfl rfl).trans ((ev_aload_n 16 dX9_right_15 rfl rfl).trans ((ev_getF 19 1 dX9_right_16 fl_9_10 oc0 ak0 rfl rf_0_0 rfl).trans ((ev_getI 22 1 dX9_right_19 fl_9_79 oc1 ak1 (by decide) rfl rfl).trans ((ev_ic_lt 29 25 dX9_right_22 rfl rfl).trans (mm_ite ((ev_iload_n 30 dX9_right_29 rfl rfl).trans ((ev_if_lt 54 33 dX9_right_30 rfl rfl).trans (mm_ite ((ev_ldc2_w 57 dX9_right_54 cL_9_202 rfl).trans (ev_lret dX9_right_57 rfl)) ((ev_iload_n 34 dX9_right_33 rfl rfl).trans ((ev_iconst 35 (v := 1) dX9_right_34 rfl rfl).trans ((ev_aload_n 36 dX9_right_35 rfl rfl).trans ((ev_getF 39 1 dX9_right_36 fl_9_10 oc0 ak0 rfl rf_0_0 rfl).trans ((ev_getI 42 1 dX9_right_39 fl_9_79 oc1 ak1 (by decide) rfl rfl).trans ((ev_ishl 43 dX9_right_42 rfl).trans ((ev_ic_ge 54 46 dX9_right_43 rfl rfl).trans (mm_ite ((ev_ldc2_w 57 dX9_right_54 cL_9_202 rfl).trans (ev_lret dX9_right_57 rfl)) ((ev_aload_n 47 dX9_right_46 rfl rfl).trans ((ev_iload_n 48 dX9_right_47 rfl rfl).trans ((ev_callv mX9_layOut [vR 0, vI a1] [] 51 dX9_right_48 ml_9_130 k135 rfl oc0 ak0 rfl rfl (Nat.le_of_ble_eq_true rfl) (Nat.le_of_ble_eq_true rfl) rfl).trans (if_pos (show 5 < 6 from by decide)))))))))))))))) ((ev_ldc2_w 28 dX9_right_25 cL_9_202 rfl).trans (ev_lret dX9_right_28 rfl)))))))))))))
theorem X9_right_51 (h : mm_M) (a1 : Int) (a2 : Int) (a3 : Int) (a4 : Int) (s0 : Int) : mm_ev mX9_right 6 51 [some (vR 0), some (vI a1), some (vI a2), some (vI a3), some (vI a4)] [vI s0] h = if s0 = 0 then (mm_call mX4_the [vR 1, vI 9] h).bind (fun w => mm_ev mX9_right 6 83 [some (vR 0), some (vI a1), some (vI a2), some (vI a3), some (vI a4)] (w.1 ++ [vR 4, vR 2, vR 1, vR 6]) w.2) else some ([vL (-9223372036854775808)], h) := (ev_if_eq 58 54 dX9_right_51 rfl rfl).trans (mm_ite ((ev_aload_n 59 dX9_right_58 rfl rfl).trans ((ev_getF 62 6 dX9_right_59 fl_9_43 oc0 ak0 rfl rf_0_5 rfl).trans ((ev_aload_n 63 dX9_right_62 rfl rfl).trans ((ev_getF 66 1 dX9_right_63 fl_9_10 oc0 ak0 rfl rf_0_0 rfl).trans ((ev_aload_n 67 dX9_right_66 rfl rfl).trans ((ev_getF 70 2 dX9_right_67 fl_9_19 oc0 ak0 rfl rf_0_1 rfl).trans ((ev_aload_n 71 dX9_right_70 rfl rfl).trans ((ev_getF 74 4 dX9_right_71 fl_9_33 oc0 ak0 rfl rf_0_3 rfl).trans ((ev_aload_n 75 dX9_right_74 rfl rfl).trans ((ev_getF 78 1 dX9_right_75 fl_9_10 oc0 ak0 rfl rf_0_0 rfl).trans ((ev_bipush 80 (v := 9) dX9_right_78 rfl rfl).trans ((ev_callv mX4_the [vR 1, vI 9] [vR 4, vR 2, vR 1, vR 6] 83 dX9_right_80 ml_9_123 k42 rfl oc1 ak1 rfl rfl (Nat.le_of_ble_eq_true rfl) (Nat.le_of_ble_eq_true rfl) rfl).trans (if_pos (show 1 < 6 from by decide)))))))))))))) ((ev_ldc2_w 57 dX9_right_54 cL_9_202 rfl).trans (ev_lret dX9_right_57 rfl)))
theorem X9_right_83 (h : mm_M) (a1 : Int) (a2 : Int) (a3 : Int) (a4 : Int) (s0 : Int) : mm_ev mX9_right 6 83 [some (vR 0), some (vI a1), some (vI a2), some (vI a3), some (vI a4)] [vI s0, vR 4, vR 2, vR 1, vR 6] h = (mm_call mX1_weigh [vR 6, vR 1, vR 2, vR 4, vI s0] h).bind (fun w => mm_ev mX9_right 6 86 [some (vR 0), some (vI a1), some (vI a2), some (vI a3), some (vI a4)] (w.1 ++ []) w.2) := (ev_callv mX1_weigh [vR 6, vR 1, vR 2, vR 4, vI s0] [] 86 dX9_right_83 ml_9_204 k8 rfl oc6 ak6 rfl rfl (Nat.le_of_ble_eq_true rfl) (Nat.le_of_ble_eq_true rfl) rfl).trans (if_pos (show 5 < 6 from by decide))
theorem X9_right_86 (h : mm_M) (a1 : Int) (a2 : Int) (a3 : Int) (a4 : Int) : mm_ev mX9_right 6 86 [some (vR 0), some (vI a1), some (vI a2), some (vI a3), some (vI a4)] [] h = if ¬ a2 = (-1) then if ¬ a2 = (-2) then (mm_call mX1_ofOne [vR 6, vI a2, vI a3] h).bind (fun w => mm_ev mX9_right 6 157 [some (vR 0), some (vI a1), some (vI a2), some (vI a3), some (vI a4)] (w.1 ++ []) w.2) else (mm_call mX1_together [vR 6, vR 4, vI a3] h).bind (fun w => mm_ev mX9_right 6 138 [some (vR 0), some (vI a1), some (vI a2), some (vI a3), some (vI a4)] (w.1 ++ []) w.2) else (mm_call mX1_ofAll [vR 6, vR 4, vI a3] h).bind (fun w => mm_ev mX9_right 6 103 [some (vR 0), some (vI a1), some (vI a2), some (vI a3), some (vI a4)] (w.1 ++ []) w.2) := (ev_iload_n 87 dX9_right_86 rfl rfl).trans ((ev_iconst 88 (v := (-1)) dX9_right_87 rfl rfl).trans ((ev_ic_ne 120 91 dX9_right_88 rfl rfl).trans (mm_ite ((ev_iload_n 121 dX9_right_120 rfl rfl).trans ((ev_bipush 123 (v := (-2)) dX9_right_121 rfl rfl).trans ((ev_ic_ne 148 126 dX9_right_123 rfl rfl).trans (mm_ite ((ev_aload_n 149 dX9_right_148 rfl rfl).trans ((ev_getF 152 6 dX9_right_149 fl_9_43 oc0 ak0 rfl rf_0_5 rfl).trans ((ev_iload_n 153 dX9_right_152 rfl rfl).trans ((ev_iload_n 154 dX9_right_153 rfl rfl).trans ((ev_callv mX1_ofOne [vR 6, vI a2, vI a3] [] 157 dX9_right_154 ml_9_225 k9 rfl oc6 ak6 rfl rfl (Nat.le_of_ble_eq_true rfl) (Nat.le_of_ble_eq_true rfl) rfl).trans (if_pos (show 1 < 6 from by decide))))))) ((ev_aload_n 127 dX9_right_126 rfl rfl).trans ((ev_getF 130 6 dX9_right_127 fl_9_43 oc0 ak0 rfl rf_0_5 rfl).trans ((ev_aload_n 131 dX9_right_130 rfl rfl).trans ((ev_getF 134 4 dX9_right_131 fl_9_33 oc0 ak0 rfl rf_0_3 rfl).trans ((ev_iload_n 135 dX9_right_134 rfl rfl).trans ((ev_callv mX1_together [vR 6, vR 4, vI a3] [] 138 dX9_right_135 ml_9_220 k12 rfl oc6 ak6 rfl rfl (Nat.le_of_ble_eq_true rfl) (Nat.le_of_ble_eq_true rfl) rfl).trans (if_pos (show 2 < 6 from by decide)))))))))))) ((ev_aload_n 92 dX9_right_91 rfl rfl).trans ((ev_getF 95 6 dX9_right_92 fl_9_43 oc0 ak0 rfl rf_0_5 rfl).trans ((ev_aload_n 96 dX9_right_95 rfl rfl).trans ((ev_getF 99 4 dX9_right_96 fl_9_33 oc0 ak0 rfl rf_0_3 rfl).trans ((ev_iload_n 100 dX9_right_99 rfl rfl).trans ((ev_callv mX1_ofAll [vR 6, vR 4, vI a3] [] 103 dX9_right_100 ml_9_208 k10 rfl oc6 ak6 rfl rfl (Nat.le_of_ble_eq_true rfl) (Nat.le_of_ble_eq_true rfl) rfl).trans (if_pos (show 2 < 6 from by decide)))))))))))
theorem X9_right_103 (h : mm_M) (a1 : Int) (a2 : Int) (a3 : Int) (a4 : Int) (s0 : Int) : mm_ev mX9_right 6 103 [some (vR 0), some (vI a1), some (vI a2), some (vI a3), some (vI a4)] [vL s0] h = (mm_call mX1_belowAll [vR 6, vR 4] h).bind (fun w => mm_ev mX9_right 6 114 [some (vR 0), some (vI a1), some (vI a2), some (vI a3), some (vI a4)] (w.1 ++ [vL s0]) w.2) := (ev_aload_n 104 dX9_right_103 rfl rfl).trans ((ev_getF 107 6 dX9_right_104 fl_9_43 oc0 ak0 rfl rf_0_5 rfl).trans ((ev_aload_n 108 dX9_right_107 rfl rfl).trans ((ev_getF 111 4 dX9_right_108 fl_9_33 oc0 ak0 rfl rf_0_3 rfl).trans ((ev_callv mX1_belowAll [vR 6, vR 4] [vL s0] 114 dX9_right_111 ml_9_212 k11 rfl oc6 ak6 rfl rfl (Nat.le_of_ble_eq_true rfl) (Nat.le_of_ble_eq_true rfl) rfl).trans (if_pos (show 1 < 6 from by decide))))))
theorem X9_right_114 (h : mm_M) (a1 : Int) (a2 : Int) (a3 : Int) (a4 : Int) (s0 : Int) (s1 : Int) : mm_ev mX9_right 6 114 [some (vR 0), some (vI a1), some (vI a2), some (vI a3), some (vI a4)] [vL s0, vL s1] h = (mm_call mX9_partOf [vL s1, vL s0, vI a4] h).bind (fun w => mm_ev mX9_right 6 119 [some (vR 0), some (vI a1), some (vI a2), some (vI a3), some (vI a4)] (w.1 ++ []) w.2) := (ev_iload 116 dX9_right_114 rfl rfl).trans ((ev_calls mX9_partOf [vL s1, vL s0, vI a4] [] 119 dX9_right_116 ml_9_216 k141 rfl rfl rfl (Nat.le_of_ble_eq_true rfl) (Nat.le_of_ble_eq_true rfl) rfl).trans (if_pos (show 2 < 6 from by decide)))
theorem X9_right_119 (h : mm_M) (a1 : Int) (a2 : Int) (a3 : Int) (a4 : Int) (s0 : Int) : mm_ev mX9_right 6 119 [some (vR 0), some (vI a1), some (vI a2), some (vI a3), some (vI a4)] [vL s0] h = some ([vL s0], h) := ev_lret dX9_right_119 rfl
theorem X9_right_138 (h : mm_M) (a1 : Int) (a2 : Int) (a3 : Int) (a4 : Int) (s0 : Int) : mm_ev mX9_right 6 138 [some (vR 0), some (vI a1), some (vI a2), some (vI a3), some (vI a4)] [vI s0] h = (mm_call mX9_partOf [vL s0, vL 144, vI a4] h).bind (fun w => mm_ev mX9_right 6 147 [some (vR 0), some (vI a1), some (vI a2), some (vI a3), some (vI a4)] (w.1 ++ []) w.2) := (ev_i2l 139 dX9_right_138 rfl).trans ((ev_ldc2_w 142 dX9_right_139 cL_9_223 rfl).trans ((ev_iload 144 dX9_right_142 rfl rfl).trans ((ev_calls mX9_partOf [vL s0, vL 144, vI a4] [] 147 dX9_right_144 ml_9_216 k141 rfl rfl rfl (Nat.le_of_ble_eq_true rfl) (Nat.le_of_ble_eq_true rfl) rfl).trans (if_pos (show 2 < 6 from by decide)))))
theorem X9_right_147 (h : mm_M) (a1 : Int) (a2 : Int) (a3 : Int) (a4 : Int) (s0 : Int) : mm_ev mX9_right 6 147 [some (vR 0), some (vI a1), some (vI a2), some (vI a3), some (vI a4)] [vL s0] h = some ([vL s0], h) := ev_lret dX9_right_147 rfl
theorem X9_right_157 (h : mm_M) (a1 : Int) (a2 : Int) (a3 : Int) (a4 : Int) (s0 : Int) : mm_ev mX9_right 6 157 [some (vR 0), some (vI a1), some (vI a2), some (vI a3), some (vI a4)] [vI s0] h = (mm_call mX9_partOf [vL s0, vL 144, vI a4] h).bind (fun w => mm_ev mX9_right 6 166 [some (vR 0), some (vI a1), some (vI a2), some (vI a3), some (vI a4)] (w.1 ++ []) w.2) := (ev_i2l 158 dX9_right_157 rfl).trans ((ev_ldc2_w 161 dX9_right_158 cL_9_223 rfl).trans ((ev_iload 163 dX9_right_161 rfl rfl).trans ((ev_calls mX9_partOf [vL s0, vL 144, vI a4] [] 166 dX9_right_163 ml_9_216 k141 rfl rfl rfl (Nat.le_of_ble_eq_true rfl) (Nat.le_of_ble_eq_true rfl) rfl).trans (if_pos (show 2 < 6 from by decide)))))
theorem X9_right_166 (h : mm_M) (a1 : Int) (a2 : Int) (a3 : Int) (a4 : Int) (s0 : Int) : mm_ev mX9_right 6 166 [some (vR 0), some (vI a1), some (vI a2), some (vI a3), some (vI a4)] [vL s0] h = some ([vL s0], h) := ev_lret dX9_right_166 rfl
theorem dX9_first_0 : decode mX9_first.1 0 = .ok (.iload_n 2, 1) := by decide +kernel
theorem dX9_first_1 : decode mX9_first.1 1 = .ok (.ifCond .lt 8, 3) := by decide +kernel
theorem dX9_first_4 : decode mX9_first.1 4 = .ok (.iload_n 2, 1) := by decide +kernel
theorem dX9_first_5 : decode mX9_first.1 5 = .ok (.iconst 1, 1) := by decide +kernel
theorem dX9_first_6 : decode mX9_first.1 6 = .ok (.if_icmp .le 5, 3) := by decide +kernel
theorem dX9_first_9 : decode mX9_first.1 9 = .ok (.iconst (-1), 1) := by decide +kernel
theorem dX9_first_10 : decode mX9_first.1 10 = .ok (.ireturn, 1) := by decide +kernel
theorem dX9_first_11 : decode mX9_first.1 11 = .ok (.aload_n 0, 1) := by decide +kernel
theorem dX9_first_12 : decode mX9_first.1 12 = .ok (.iload_n 1, 1) := by decide +kernel
theorem dX9_first_13 : decode mX9_first.1 13 = .ok (.invokevirtual 130, 3) := by decide +kernel
theorem dX9_first_16 : decode mX9_first.1 16 = .ok (.istore_n 3, 1) := by decide +kernel
theorem dX9_first_17 : decode mX9_first.1 17 = .ok (.iload_n 3, 1) := by decide +kernel
theorem dX9_first_18 : decode mX9_first.1 18 = .ok (.ifCond .eq 5, 3) := by decide +kernel
theorem dX9_first_21 : decode mX9_first.1 21 = .ok (.iload_n 3, 1) := by decide +kernel
theorem dX9_first_22 : decode mX9_first.1 22 = .ok (.ireturn, 1) := by decide +kernel
theorem dX9_first_23 : decode mX9_first.1 23 = .ok (.bipush (-2), 2) := by decide +kernel
theorem dX9_first_25 : decode mX9_first.1 25 = .ok (.istore 4, 2) := by decide +kernel
theorem dX9_first_27 : decode mX9_first.1 27 = .ok (.bipush (-2), 2) := by decide +kernel
theorem dX9_first_29 : decode mX9_first.1 29 = .ok (.istore 5, 2) := by decide +kernel
theorem dX9_first_31 : decode mX9_first.1 31 = .ok (.iconst 0, 1) := by decide +kernel
theorem dX9_first_32 : decode mX9_first.1 32 = .ok (.istore 6, 2) := by decide +kernel
theorem dX9_first_34 : decode mX9_first.1 34 = .ok (.iload 6, 2) := by decide +kernel
theorem dX9_first_36 : decode mX9_first.1 36 = .ok (.aload_n 0, 1) := by decide +kernel
theorem dX9_first_37 : decode mX9_first.1 37 = .ok (.getfield 33, 3) := by decide +kernel
theorem dX9_first_40 : decode mX9_first.1 40 = .ok (.getfield 189, 3) := by decide +kernel
theorem dX9_first_43 : decode mX9_first.1 43 = .ok (.if_icmp .ge 63, 3) := by decide +kernel
theorem dX9_first_46 : decode mX9_first.1 46 = .ok (.aload_n 0, 1) := by decide +kernel
theorem dX9_first_47 : decode mX9_first.1 47 = .ok (.getfield 37, 3) := by decide +kernel
theorem dX9_first_50 : decode mX9_first.1 50 = .ok (.aload_n 0, 1) := by decide +kernel
theorem dX9_first_51 : decode mX9_first.1 51 = .ok (.getfield 10, 3) := by decide +kernel
theorem dX9_first_54 : decode mX9_first.1 54 = .ok (.aload_n 0, 1) := by decide +kernel
theorem dX9_first_55 : decode mX9_first.1 55 = .ok (.getfield 33, 3) := by decide +kernel
theorem dX9_first_58 : decode mX9_first.1 58 = .ok (.iload 6, 2) := by decide +kernel
theorem dX9_first_60 : decode mX9_first.1 60 = .ok (.invokevirtual 192, 3) := by decide +kernel
theorem dX9_first_63 : decode mX9_first.1 63 = .ok (.aload_n 0, 1) := by decide +kernel
theorem dX9_first_64 : decode mX9_first.1 64 = .ok (.getfield 37, 3) := by decide +kernel
theorem dX9_first_67 : decode mX9_first.1 67 = .ok (.aload_n 0, 1) := by decide +kernel
theorem dX9_first_68 : decode mX9_first.1 68 = .ok (.getfield 10, 3) := by decide +kernel
theorem dX9_first_71 : decode mX9_first.1 71 = .ok (.iconst 0, 1) := by decide +kernel
theorem dX9_first_72 : decode mX9_first.1 72 = .ok (.invokevirtual 161, 3) := by decide +kernel
theorem dX9_first_75 : decode mX9_first.1 75 = .ok (.istore 7, 2) := by decide +kernel
theorem dX9_first_77 : decode mX9_first.1 77 = .ok (.iload 7, 2) := by decide +kernel
theorem dX9_first_79 : decode mX9_first.1 79 = .ok (.iload 5, 2) := by decide +kernel
theorem dX9_first_81 : decode mX9_first.1 81 = .ok (.if_icmp .le 19, 3) := by decide +kernel
theorem dX9_first_84 : decode mX9_first.1 84 = .ok (.iload 7, 2) := by decide +kernel
theorem dX9_first_86 : decode mX9_first.1 86 = .ok (.istore 5, 2) := by decide +kernel
theorem dX9_first_88 : decode mX9_first.1 88 = .ok (.aload_n 0, 1) := by decide +kernel
theorem dX9_first_89 : decode mX9_first.1 89 = .ok (.getfield 33, 3) := by decide +kernel
theorem dX9_first_92 : decode mX9_first.1 92 = .ok (.getfield 196, 3) := by decide +kernel
theorem dX9_first_95 : decode mX9_first.1 95 = .ok (.iload 6, 2) := by decide +kernel
theorem dX9_first_97 : decode mX9_first.1 97 = .ok (.iaload, 1) := by decide +kernel
theorem dX9_first_98 : decode mX9_first.1 98 = .ok (.istore 4, 2) := by decide +kernel
theorem dX9_first_100 : decode mX9_first.1 100 = .ok (.iinc 6 1, 3) := by decide +kernel
theorem dX9_first_103 : decode mX9_first.1 103 = .ok (.goto (-69), 3) := by decide +kernel
theorem dX9_first_106 : decode mX9_first.1 106 = .ok (.iload_n 2, 1) := by decide +kernel
theorem dX9_first_107 : decode mX9_first.1 107 = .ok (.ifCond .ne 8, 3) := by decide +kernel
theorem dX9_first_110 : decode mX9_first.1 110 = .ok (.iload 4, 2) := by decide +kernel
theorem dX9_first_112 : decode mX9_first.1 112 = .ok (.goto 5, 3) := by decide +kernel
theorem dX9_first_115 : decode mX9_first.1 115 = .ok (.iload 5, 2) := by decide +kernel
theorem dX9_first_117 : decode mX9_first.1 117 = .ok (.ireturn, 1) := by decide +kernel
theorem X9_first_0 (h : mm_M) (a1 : Int) (a2 : Int) : mm_ev mX9_first 6 0 [some (vR 0), some (vI a1), some (vI a2), none, none, none, none, none] [] h = if a2 < 0 then some ([vI (-1)], h) else if a2 ≤ 1 then (mm_call mX9_layOut [vR 0, vI a1] h).bind (fun w => mm_ev mX9_first 6 16 [some (vR 0), some (vI a1), some (vI a2), none, none, none, none, none] (w.1 ++ []) w.2) else some ([vI (-1)], h) := (ev_iload_n 1 dX9_first_0 rfl rfl).trans ((ev_if_lt 9 4 dX9_first_1 rfl rfl).trans (mm_ite ((ev_iconst 10 (v := (-1)) dX9_first_9 rfl rfl).trans (ev_iret dX9_first_10 rfl)) ((ev_iload_n 5 dX9_first_4 rfl rfl).trans ((ev_iconst 6 (v := 1) dX9_first_5 rfl rfl).trans ((ev_ic_le 11 9 dX9_first_6 rfl rfl).trans (mm_ite ((ev_aload_n 12 dX9_first_11 rfl rfl).trans ((ev_iload_n 13 dX9_first_12 rfl rfl).trans ((ev_callv mX9_layOut [vR 0, vI a1] [] 16 dX9_first_13 ml_9_130 k135 rfl oc0 ak0 rfl rfl (Nat.le_of_ble_eq_true rfl) (Nat.le_of_ble_eq_true rfl) rfl).trans (if_pos (show 5 < 6 from by decide))))) ((ev_iconst 10 (v := (-1)) dX9_first_9 rfl rfl).trans (ev_iret dX9_first_10 rfl))))))))
theorem X9_first_c (h : mm_M) (a1 : Int) (a2 : Int) : mm_call mX9_first [vR 0, vI a1, vI a2] h = if a2 < 0 then some ([vI (-1)], h) else if a2 ≤ 1 then (mm_call mX9_layOut [vR 0, vI a1] h).bind (fun w => mm_ev mX9_first 6 16 [some (vR 0), some (vI a1), some (vI a2), none, none, none, none, none] (w.1 ++ []) w.2) else some ([vI (-1)], h) := X9_first_0 h a1 a2
theorem X9_first_16 (h : mm_M) (a1 : Int) (a2 : Int) (s0 : Int) : mm_ev mX9_first 6 16 [some (vR 0), some (vI a1), some (vI a2), none, none, none, none, none] [vI s0] h = if s0 = 0 then mm_ev mX9_first 6 34 [some (vR 0), some (vI a1), some (vI a2), some (vI s0), some (vI (-2)), some (vI (-2)), some (vI 0), none] [] h else some ([vI s0], h) := (ev_istore_n 17 [some (vR 0), some (vI a1), some (vI a2), some (vI s0), none, none, none, none] dX9_first_16 rfl rfl).trans ((ev_iload_n 18 dX9_first_17 rfl rfl).trans ((ev_if_eq 23 21 dX9_first_18 rfl rfl).trans (mm_ite ((ev_bipush 25 (v := (-2)) dX9_first_23 rfl rfl).trans ((ev_istore 27 [some (vR 0), some (vI a1), some (vI a2), some (vI s0), some (vI (-2)), none, none, none] dX9_first_25 rfl rfl).trans ((ev_bipush 29 (v := (-2)) dX9_first_27 rfl rfl).trans ((ev_istore 31 [some (vR 0), some (vI a1), some (vI a2), some (vI s0), some (vI (-2)), some (vI (-2)), none, none] dX9_first_29 rfl rfl).trans ((ev_iconst 32 (v := 0) dX9_first_31 rfl rfl).trans (ev_istore 34 [some (vR 0), some (vI a1), some (vI a2), some (vI s0), some (vI (-2)), some (vI (-2)), some (vI 0), none] dX9_first_32 rfl rfl)))))) ((ev_iload_n 22 dX9_first_21 rfl rfl).trans (ev_iret dX9_first_22 rfl)))))
theorem X9_first_34 (h : mm_M) (a1 : Int) (a2 : Int) (a3 : Int) (a4 : Int) (a5 : Int) (a6 : Int) (o7 : Option mm_V) : mm_ev mX9_first 6 34 [some (vR 0), some (vI a1), some (vI a2), some (vI a3), some (vI a4), some (vI a5), some (vI a6), o7] [] h = if (h 4 0) ≤ a6 then if ¬ a2 = 0 then some ([vI a5], h) else some ([vI a4], h) else (mm_call mX8_takeWithFirst [vR 5, vR 1, vR 4, vI a6] h).bind (fun w => mm_ev mX9_first 6 63 [some (vR 0), some (vI a1), some (vI a2), some (vI a3), some (vI a4), some (vI a5), some (vI a6), o7] (w.1 ++ []) w.2) := (ev_iload 36 dX9_first_34 rfl rfl).trans ((ev_aload_n 37 dX9_first_36 rfl rfl).trans ((ev_getF 40 4 dX9_first_37 fl_9_33 oc0 ak0 rfl rf_0_3 rfl).trans ((ev_getI 43 0 dX9_first_40 fl_9_189 oc4 ak4 (by decide) rfl rfl).trans ((ev_ic_ge 106 46 dX9_first_43 rfl rfl).trans (mm_ite ((ev_iload_n 107 dX9_first_106 rfl rfl).trans ((ev_if_ne 115 110 dX9_first_107 rfl rfl).trans (mm_ite ((ev_iload 117 dX9_first_115 rfl rfl).trans (ev_iret dX9_first_117 rfl)) ((ev_iload 112 dX9_first_110 rfl rfl).trans ((ev_goto 117 dX9_first_112 rfl).trans (ev_iret dX9_first_117 rfl)))))) ((ev_aload_n 47 dX9_first_46 rfl rfl).trans ((ev_getF 50 5 dX9_first_47 fl_9_37 oc0 ak0 rfl rf_0_4 rfl).trans ((ev_aload_n 51 dX9_first_50 rfl rfl).trans ((ev_getF 54 1 dX9_first_51 fl_9_10 oc0 ak0 rfl rf_0_0 rfl).trans ((ev_aload_n 55 dX9_first_54 rfl rfl).trans ((ev_getF 58 4 dX9_first_55 fl_9_33 oc0 ak0 rfl rf_0_3 rfl).trans ((ev_iload 60 dX9_first_58 rfl rfl).trans ((ev_callv mX8_takeWithFirst [vR 5, vR 1, vR 4, vI a6] [] 63 dX9_first_60 ml_9_192 k74 rfl oc5 ak5 rfl rfl (Nat.le_of_ble_eq_true rfl) (Nat.le_of_ble_eq_true rfl) rfl).trans (if_pos (show 4 < 6 from by decide)))))))))))))))
theorem X9_first_63 (h : mm_M) (a1 : Int) (a2 : Int) (a3 : Int) (a4 : Int) (a5 : Int) (a6 : Int) (o7 : Option mm_V) : mm_ev mX9_first 6 63 [some (vR 0), some (vI a1), some (vI a2), some (vI a3), some (vI a4), some (vI a5), some (vI a6), o7] [] h = (mm_call mX8_patrolsIn [vR 5, vR 1, vI 0] h).bind (fun w => mm_ev mX9_first 6 75 [some (vR 0), some (vI a1), some (vI a2), some (vI a3), some (vI a4), some (vI a5), some (vI a6), o7] (w.1 ++ []) w.2) := (ev_aload_n 64 dX9_first_63 rfl rfl).trans ((ev_getF 67 5 dX9_first_64 fl_9_37 oc0 ak0 rfl rf_0_4 rfl).trans ((ev_aload_n 68 dX9_first_67 rfl rfl).trans ((ev_getF 71 1 dX9_first_68 fl_9_10 oc0 ak0 rfl rf_0_0 rfl).trans ((ev_iconst 72 (v := 0) dX9_first_71 rfl rfl).trans ((ev_callv mX8_patrolsIn [vR 5, vR 1, vI 0] [] 75 dX9_first_72 ml_9_161 k85 rfl oc5 ak5 rfl rfl (Nat.le_of_ble_eq_true rfl) (Nat.le_of_ble_eq_true rfl) rfl).trans (if_pos (show 5 < 6 from by decide)))))))
theorem X9_first_75 (h : mm_M) (a1 : Int) (a2 : Int) (a3 : Int) (a4 : Int) (a5 : Int) (a6 : Int) (o7 : Option mm_V) (s0 : Int) : mm_ev mX9_first 6 75 [some (vR 0), some (vI a1), some (vI a2), some (vI a3), some (vI a4), some (vI a5), some (vI a6), o7] [vI s0] h = if s0 ≤ a5 then mm_ev mX9_first 6 34 [some (vR 0), some (vI a1), some (vI a2), some (vI a3), some (vI a4), some (vI a5), some (vI (w32 (a6 + 1))), some (vI s0)] [] h else if 0 ≤ a6 ∧ a6 < 6 then mm_ev mX9_first 6 34 [some (vR 0), some (vI a1), some (vI a2), some (vI a3), some (vI (h 23 a6)), some (vI s0), some (vI (w32 (a6 + 1))), some (vI s0)] [] h else none := (ev_istore 77 [some (vR 0), some (vI a1), some (vI a2), some (vI a3), some (vI a4), some (vI a5), some (vI a6), some (vI s0)] dX9_first_75 rfl rfl).trans ((ev_iload 79 dX9_first_77 rfl rfl).trans ((ev_iload 81 dX9_first_79 rfl rfl).trans ((ev_ic_le 100 84 dX9_first_81 rfl rfl).trans (mm_ite ((ev_iinc 103 [some (vR 0), some (vI a1), some (vI a2), some (vI a3), some (vI a4), some (vI a5), some (vI (w32 (a6 + 1))), some (vI s0)] dX9_first_100 rfl rfl rfl).trans (ev_goto 34 dX9_first_103 rfl)) ((ev_iload 86 dX9_first_84 rfl rfl).trans ((ev_istore 88 [some (vR 0), some (vI a1), some (vI a2), some (vI a3), some (vI a4), some (vI s0), some (vI a6), some (vI s0)] dX9_first_86 rfl rfl).trans ((ev_aload_n 89 dX9_first_88 rfl rfl).trans ((ev_getF 92 4 dX9_first_89 fl_9_33 oc0 ak0 rfl rf_0_3 rfl).trans ((ev_getF 95 23 dX9_first_92 fl_9_196 oc4 ak4 rfl rf_4_1 rfl).trans ((ev_iload 97 dX9_first_95 rfl rfl).trans ((ev_iald 98 6 dX9_first_97 ak23 an23 rfl).trans (mm_ite ((ev_istore 100 [some (vR 0), some (vI a1), some (vI a2), some (vI a3), some (vI (h 23 a6)), some (vI s0), some (vI a6), some (vI s0)] dX9_first_98 rfl rfl).trans ((ev_iinc 103 [some (vR 0), some (vI a1), some (vI a2), some (vI a3), some (vI (h 23 a6)), some (vI s0), some (vI (w32 (a6 + 1))), some (vI s0)] dX9_first_100 rfl rfl rfl).trans (ev_goto 34 dX9_first_103 rfl))) (rfl)))))))))))))
theorem dX9_safe_0 : decode mX9_safe.1 0 = .ok (.aload_n 0, 1) := by decide +kernel
theorem dX9_safe_1 : decode mX9_safe.1 1 = .ok (.iload_n 2, 1) := by decide +kernel
theorem dX9_safe_2 : decode mX9_safe.1 2 = .ok (.invokevirtual 154, 3) := by decide +kernel
theorem dX9_safe_5 : decode mX9_safe.1 5 = .ok (.ifCond .eq 14, 3) := by decide +kernel
theorem dX9_safe_8 : decode mX9_safe.1 8 = .ok (.iload_n 3, 1) := by decide +kernel
theorem dX9_safe_9 : decode mX9_safe.1 9 = .ok (.ifCond .lt 10, 3) := by decide +kernel
theorem dX9_safe_12 : decode mX9_safe.1 12 = .ok (.iload_n 3, 1) := by decide +kernel
theorem dX9_safe_13 : decode mX9_safe.1 13 = .ok (.sipush 1000, 3) := by decide +kernel
theorem dX9_safe_16 : decode mX9_safe.1 16 = .ok (.if_icmp .lt 5, 3) := by decide +kernel
theorem dX9_safe_19 : decode mX9_safe.1 19 = .ok (.iconst (-1), 1) := by decide +kernel
theorem dX9_safe_20 : decode mX9_safe.1 20 = .ok (.ireturn, 1) := by decide +kernel
theorem dX9_safe_21 : decode mX9_safe.1 21 = .ok (.aload_n 0, 1) := by decide +kernel
theorem dX9_safe_22 : decode mX9_safe.1 22 = .ok (.iload_n 1, 1) := by decide +kernel
theorem dX9_safe_23 : decode mX9_safe.1 23 = .ok (.invokevirtual 130, 3) := by decide +kernel
theorem dX9_safe_26 : decode mX9_safe.1 26 = .ok (.istore 4, 2) := by decide +kernel
theorem dX9_safe_28 : decode mX9_safe.1 28 = .ok (.iload 4, 2) := by decide +kernel
theorem dX9_safe_30 : decode mX9_safe.1 30 = .ok (.ifCond .eq 6, 3) := by decide +kernel
theorem dX9_safe_33 : decode mX9_safe.1 33 = .ok (.iload 4, 2) := by decide +kernel
theorem dX9_safe_35 : decode mX9_safe.1 35 = .ok (.ireturn, 1) := by decide +kernel
theorem dX9_safe_36 : decode mX9_safe.1 36 = .ok (.aload_n 0, 1) := by decide +kernel
theorem dX9_safe_37 : decode mX9_safe.1 37 = .ok (.iload_n 2, 1) := by decide +kernel
theorem dX9_safe_38 : decode mX9_safe.1 38 = .ok (.invokevirtual 176, 3) := by decide +kernel
theorem dX9_safe_41 : decode mX9_safe.1 41 = .ok (.aload_n 0, 1) := by decide +kernel
theorem dX9_safe_42 : decode mX9_safe.1 42 = .ok (.getfield 10, 3) := by decide +kernel
theorem dX9_safe_45 : decode mX9_safe.1 45 = .ok (.bipush 9, 2) := by decide +kernel
theorem dX9_safe_47 : decode mX9_safe.1 47 = .ok (.invokevirtual 123, 3) := by decide +kernel
theorem dX9_safe_50 : decode mX9_safe.1 50 = .ok (.if_icmp .ne 11, 3) := by decide +kernel
theorem dX9_safe_53 : decode mX9_safe.1 53 = .ok (.aload_n 0, 1) := by decide +kernel
theorem dX9_safe_54 : decode mX9_safe.1 54 = .ok (.iload_n 3, 1) := by decide +kernel
theorem dX9_safe_55 : decode mX9_safe.1 55 = .ok (.invokevirtual 183, 3) := by decide +kernel
theorem dX9_safe_58 : decode mX9_safe.1 58 = .ok (.goto 8, 3) := by decide +kernel
theorem dX9_safe_61 : decode mX9_safe.1 61 = .ok (.aload_n 0, 1) := by decide +kernel
theorem dX9_safe_62 : decode mX9_safe.1 62 = .ok (.iload_n 3, 1) := by decide +kernel
theorem dX9_safe_63 : decode mX9_safe.1 63 = .ok (.invokevirtual 186, 3) := by decide +kernel
theorem dX9_safe_66 : decode mX9_safe.1 66 = .ok (.ireturn, 1) := by decide +kernel
theorem X9_safe_0 (h : mm_M) (a1 : Int) (a2 : Int) (a3 : Int) : mm_ev mX9_safe 6 0 [some (vR 0), some (vI a1), some (vI a2), some (vI a3), none] [] h = (mm_call mX9_isPlaceAndMinute [vR 0, vI a2] h).bind (fun w => mm_ev mX9_safe 6 5 [some (vR 0), some (vI a1), some (vI a2), some (vI a3), none] (w.1 ++ []) w.2) := (ev_aload_n 1 dX9_safe_0 rfl rfl).trans ((ev_iload_n 2 dX9_safe_1 rfl rfl).trans ((ev_callv mX9_isPlaceAndMinute [vR 0, vI a2] [] 5 dX9_safe_2 ml_9_154 k133 rfl oc0 ak0 rfl rfl (Nat.le_of_ble_eq_true rfl) (Nat.le_of_ble_eq_true rfl) rfl).trans (if_pos (show 2 < 6 from by decide))))
theorem X9_safe_c (h : mm_M) (a1 : Int) (a2 : Int) (a3 : Int) : mm_call mX9_safe [vR 0, vI a1, vI a2, vI a3] h = (mm_call mX9_isPlaceAndMinute [vR 0, vI a2] h).bind (fun w => mm_ev mX9_safe 6 5 [some (vR 0), some (vI a1), some (vI a2), some (vI a3), none] (w.1 ++ []) w.2) := X9_safe_0 h a1 a2 a3
theorem X9_safe_5 (h : mm_M) (a1 : Int) (a2 : Int) (a3 : Int) (s0 : Int) : mm_ev mX9_safe 6 5 [some (vR 0), some (vI a1), some (vI a2), some (vI a3), none] [vI s0] h = if s0 = 0 then some ([vI (-1)], h) else if a3 < 0 then some ([vI (-1)], h) else if a3 < 1000 then (mm_call mX9_layOut [vR 0, vI a1] h).bind (fun w => mm_ev mX9_safe 6 26 [some (vR 0), some (vI a1), some (vI a2), some (vI a3), none] (w.1 ++ []) w.2) else some ([vI (-1)], h) := (ev_if_eq 19 8 dX9_safe_5 rfl rfl).trans (mm_ite ((ev_iconst 20 (v := (-1)) dX9_safe_19 rfl rfl).trans (ev_iret dX9_safe_20 rfl)) ((ev_iload_n 9 dX9_safe_8 rfl rfl).trans ((ev_if_lt 19 12 dX9_safe_9 rfl rfl).trans (mm_ite ((ev_iconst 20 (v := (-1)) dX9_safe_19 rfl rfl).trans (ev_iret dX9_safe_20 rfl)) ((ev_iload_n 13 dX9_safe_12 rfl rfl).trans ((ev_sipush 16 (v := 1000) dX9_safe_13 rfl rfl).trans ((ev_ic_lt 21 19 dX9_safe_16 rfl rfl).trans (mm_ite ((ev_aload_n 22 dX9_safe_21 rfl rfl).trans ((ev_iload_n 23 dX9_safe_22 rfl rfl).trans ((ev_callv mX9_layOut [vR 0, vI a1] [] 26 dX9_safe_23 ml_9_130 k135 rfl oc0 ak0 rfl rfl (Nat.le_of_ble_eq_true rfl) (Nat.le_of_ble_eq_true rfl) rfl).trans (if_pos (show 5 < 6 from by decide))))) ((ev_iconst 20 (v := (-1)) dX9_safe_19 rfl rfl).trans (ev_iret dX9_safe_20 rfl))))))))))
theorem X9_safe_26 (h : mm_M) (a1 : Int) (a2 : Int) (a3 : Int) (s0 : Int) : mm_ev mX9_safe 6 26 [some (vR 0), some (vI a1), some (vI a2), some (vI a3), none] [vI s0] h = if s0 = 0 then (mm_call mX9_overheard [vR 0, vI a2] h).bind (fun w => mm_ev mX9_safe 6 41 [some (vR 0), some (vI a1), some (vI a2), some (vI a3), some (vI s0)] (w.1 ++ []) w.2) else some ([vI s0], h) := (ev_istore 28 [some (vR 0), some (vI a1), some (vI a2), some (vI a3), some (vI s0)] dX9_safe_26 rfl rfl).trans ((ev_iload 30 dX9_safe_28 rfl rfl).trans ((ev_if_eq 36 33 dX9_safe_30 rfl rfl).trans (mm_ite ((ev_aload_n 37 dX9_safe_36 rfl rfl).trans ((ev_iload_n 38 dX9_safe_37 rfl rfl).trans ((ev_callv mX9_overheard [vR 0, vI a2] [] 41 dX9_safe_38 ml_9_176 k137 rfl oc0 ak0 rfl rfl (Nat.le_of_ble_eq_true rfl) (Nat.le_of_ble_eq_true rfl) rfl).trans (if_pos (show 4 < 6 from by decide))))) ((ev_iload 35 dX9_safe_33 rfl rfl).trans (ev_iret dX9_safe_35 rfl)))))
theorem X9_safe_41 (h : mm_M) (a1 : Int) (a2 : Int) (a3 : Int) (a4 : Int) (s0 : Int) : mm_ev mX9_safe 6 41 [some (vR 0), some (vI a1), some (vI a2), some (vI a3), some (vI a4)] [vI s0] h = (mm_call mX4_the [vR 1, vI 9] h).bind (fun w => mm_ev mX9_safe 6 50 [some (vR 0), some (vI a1), some (vI a2), some (vI a3), some (vI a4)] (w.1 ++ [vI s0]) w.2) := (ev_aload_n 42 dX9_safe_41 rfl rfl).trans ((ev_getF 45 1 dX9_safe_42 fl_9_10 oc0 ak0 rfl rf_0_0 rfl).trans ((ev_bipush 47 (v := 9) dX9_safe_45 rfl rfl).trans ((ev_callv mX4_the [vR 1, vI 9] [vI s0] 50 dX9_safe_47 ml_9_123 k42 rfl oc1 ak1 rfl rfl (Nat.le_of_ble_eq_true rfl) (Nat.le_of_ble_eq_true rfl) rfl).trans (if_pos (show 1 < 6 from by decide)))))
theorem X9_safe_50 (h : mm_M) (a1 : Int) (a2 : Int) (a3 : Int) (a4 : Int) (s0 : Int) (s1 : Int) : mm_ev mX9_safe 6 50 [some (vR 0), some (vI a1), some (vI a2), some (vI a3), some (vI a4)] [vI s0, vI s1] h = if ¬ s1 = s0 then (mm_call mX9_safeFromOld [vR 0, vI a3] h).bind (fun w => mm_ev mX9_safe 6 66 [some (vR 0), some (vI a1), some (vI a2), some (vI a3), some (vI a4)] (w.1 ++ []) w.2) else (mm_call mX9_safeFromNew [vR 0, vI a3] h).bind (fun w => mm_ev mX9_safe 6 58 [some (vR 0), some (vI a1), some (vI a2), some (vI a3), some (vI a4)] (w.1 ++ []) w.2) := (ev_ic_ne 61 53 dX9_safe_50 rfl rfl).trans (mm_ite ((ev_aload_n 62 dX9_safe_61 rfl rfl).trans ((ev_iload_n 63 dX9_safe_62 rfl rfl).trans ((ev_callv mX9_safeFromOld [vR 0, vI a3] [] 66 dX9_safe_63 ml_9_186 k139 rfl oc0 ak0 rfl rfl (Nat.le_of_ble_eq_true rfl) (Nat.le_of_ble_eq_true rfl) rfl).trans (if_pos (show 3 < 6 from by decide))))) ((ev_aload_n 54 dX9_safe_53 rfl rfl).trans ((ev_iload_n 55 dX9_safe_54 rfl rfl).trans ((ev_callv mX9_safeFromNew [vR 0, vI a3] [] 58 dX9_safe_55 ml_9_183 k138 rfl oc0 ak0 rfl rfl (Nat.le_of_ble_eq_true rfl) (Nat.le_of_ble_eq_true rfl) rfl).trans (if_pos (show 3 < 6 from by decide))))))
theorem X9_safe_58 (h : mm_M) (a1 : Int) (a2 : Int) (a3 : Int) (a4 : Int) (s0 : Int) : mm_ev mX9_safe 6 58 [some (vR 0), some (vI a1), some (vI a2), some (vI a3), some (vI a4)] [vI s0] h = mm_ev mX9_safe 6 66 [some (vR 0), some (vI a1), some (vI a2), some (vI a3), some (vI a4)] [vI s0] h := ev_goto 66 dX9_safe_58 rfl
theorem X9_safe_66 (h : mm_M) (a1 : Int) (a2 : Int) (a3 : Int) (a4 : Int) (s0 : Int) : mm_ev mX9_safe 6 66 [some (vR 0), some (vI a1), some (vI a2), some (vI a3), some (vI a4)] [vI s0] h = some ([vI s0], h) := ev_iret dX9_safe_66 rfl
theorem dX9_overheard_0 : decode mX9_overheard.1 0 = .ok (.aload_n 0, 1) := by decide +kernel
theorem dX9_overheard_1 : decode mX9_overheard.1 1 = .ok (.getfield 10, 3) := by decide +kernel
theorem dX9_overheard_4 : decode mX9_overheard.1 4 = .ok (.aload_n 0, 1) := by decide +kernel
theorem dX9_overheard_5 : decode mX9_overheard.1 5 = .ok (.getfield 33, 3) := by decide +kernel
theorem dX9_overheard_8 : decode mX9_overheard.1 8 = .ok (.aload_n 0, 1) := by decide +kernel
theorem dX9_overheard_9 : decode mX9_overheard.1 9 = .ok (.getfield 10, 3) := by decide +kernel
theorem dX9_overheard_12 : decode mX9_overheard.1 12 = .ok (.iload_n 1, 1) := by decide +kernel
theorem dX9_overheard_13 : decode mX9_overheard.1 13 = .ok (.sipush 1000, 3) := by decide +kernel
theorem dX9_overheard_16 : decode mX9_overheard.1 16 = .ok (.idiv, 1) := by decide +kernel
theorem dX9_overheard_17 : decode mX9_overheard.1 17 = .ok (.iload_n 1, 1) := by decide +kernel
theorem dX9_overheard_18 : decode mX9_overheard.1 18 = .ok (.sipush 1000, 3) := by decide +kernel
theorem dX9_overheard_21 : decode mX9_overheard.1 21 = .ok (.irem, 1) := by decide +kernel
theorem dX9_overheard_22 : decode mX9_overheard.1 22 = .ok (.invokevirtual 157, 3) := by decide +kernel
theorem dX9_overheard_25 : decode mX9_overheard.1 25 = .ok (.iconst 1, 1) := by decide +kernel
theorem dX9_overheard_26 : decode mX9_overheard.1 26 = .ok (.if_icmp .ne 8, 3) := by decide +kernel
theorem dX9_overheard_29 : decode mX9_overheard.1 29 = .ok (.bipush 8, 2) := by decide +kernel
theorem dX9_overheard_31 : decode mX9_overheard.1 31 = .ok (.goto 5, 3) := by decide +kernel
theorem dX9_overheard_34 : decode mX9_overheard.1 34 = .ok (.bipush 9, 2) := by decide +kernel
theorem dX9_overheard_36 : decode mX9_overheard.1 36 = .ok (.invokevirtual 123, 3) := by decide +kernel
theorem dX9_overheard_39 : decode mX9_overheard.1 39 = .ok (.ireturn, 1) := by decide +kernel
theorem X9_overheard_0 (h : mm_M) (a1 : Int) : mm_ev mX9_overheard 4 0 [some (vR 0), some (vI a1)] [] h = (mm_call mX8_lets [vR 4, vR 1, vI (w32 (a1.tdiv 1000)), vI (a1.tmod 1000)] h).bind (fun w => mm_ev mX9_overheard 4 25 [some (vR 0), some (vI a1)] (w.1 ++ [vR 1]) w.2) := (ev_aload_n 1 dX9_overheard_0 rfl rfl).trans ((ev_getF 4 1 dX9_overheard_1 fl_9_10 oc0 ak0 rfl rf_0_0 rfl).trans ((ev_aload_n 5 dX9_overheard_4 rfl rfl).trans ((ev_getF 8 4 dX9_overheard_5 fl_9_33 oc0 ak0 rfl rf_0_3 rfl).trans ((ev_aload_n 9 dX9_overheard_8 rfl rfl).trans ((ev_getF 12 1 dX9_overheard_9 fl_9_10 oc0 ak0 rfl rf_0_0 rfl).trans ((ev_iload_n 13 dX9_overheard_12 rfl rfl).trans ((ev_sipush 16 (v := 1000) dX9_overheard_13 rfl rfl).trans (((ev_idiv 17 dX9_overheard_16 rfl).trans (if_neg (by decide))).trans ((ev_iload_n 18 dX9_overheard_17 rfl rfl).trans ((ev_sipush 21 (v := 1000) dX9_overheard_18 rfl rfl).trans (((ev_irem 22 dX9_overheard_21 rfl).trans (if_neg (by decide))).trans ((ev_callv mX8_lets [vR 4, vR 1, vI (w32 (a1.tdiv 1000)), vI (a1.tmod 1000)] [vR 1] 25 dX9_overheard_22 ml_9_157 k81 rfl oc4 ak4 rfl rfl (Nat.le_of_ble_eq_true rfl) (Nat.le_of_ble_eq_true rfl) rfl).trans (if_pos (show 3 < 4 from by decide))))))))))))))
theorem X9_overheard_c (h : mm_M) (a1 : Int) : mm_call mX9_overheard [vR 0, vI a1] h = (mm_call mX8_lets [vR 4, vR 1, vI (w32 (a1.tdiv 1000)), vI (a1.tmod 1000)] h).bind (fun w => mm_ev mX9_overheard 4 25 [some (vR 0), some (vI a1)] (w.1 ++ [vR 1]) w.2) := X9_overheard_0 h a1
theorem X9_overheard_25 (h : mm_M) (a1 : Int) (s0 : Int) : mm_ev mX9_overheard 4 25 [some (vR 0), some (vI a1)] [vI s0, vR 1] h = if ¬ s0 = 1 then (mm_call mX4_the [vR 1, vI 9] h).bind (fun w => mm_ev mX9_overheard 4 39 [some (vR 0), some (vI a1)] (w.1 ++ []) w.2) else (mm_call mX4_the [vR 1, vI 8] h).bind (fun w => mm_ev mX9_overheard 4 39 [some (vR 0), some (vI a1)] (w.1 ++ []) w.2) := (ev_iconst 26 (v := 1) dX9_overheard_25 rfl rfl).trans ((ev_ic_ne 34 29 dX9_overheard_26 rfl rfl).trans (mm_ite ((ev_bipush 36 (v := 9) dX9_overheard_34 rfl rfl).trans ((ev_callv mX4_the [vR 1, vI 9] [] 39 dX9_overheard_36 ml_9_123 k42 rfl oc1 ak1 rfl rfl (Nat.le_of_ble_eq_true rfl) (Nat.le_of_ble_eq_true rfl) rfl).trans (if_pos (show 1 < 4 from by decide)))) ((ev_bipush 31 (v := 8) dX9_overheard_29 rfl rfl).trans ((ev_goto 36 dX9_overheard_31 rfl).trans ((ev_callv mX4_the [vR 1, vI 8] [] 39 dX9_overheard_36 ml_9_123 k42 rfl oc1 ak1 rfl rfl (Nat.le_of_ble_eq_true rfl) (Nat.le_of_ble_eq_true rfl) rfl).trans (if_pos (show 1 < 4 from by decide)))))))
theorem X9_overheard_39 (h : mm_M) (a1 : Int) (s0 : Int) : mm_ev mX9_overheard 4 39 [some (vR 0), some (vI a1)] [vI s0] h = some ([vI s0], h) := ev_iret dX9_overheard_39 rfl
theorem dX9_safeFromNew_0 : decode mX9_safeFromNew.1 0 = .ok (.iconst 0, 1) := by decide +kernel
theorem dX9_safeFromNew_1 : decode mX9_safeFromNew.1 1 = .ok (.istore_n 2, 1) := by decide +kernel
theorem dX9_safeFromNew_2 : decode mX9_safeFromNew.1 2 = .ok (.iload_n 2, 1) := by decide +kernel
theorem dX9_safeFromNew_3 : decode mX9_safeFromNew.1 3 = .ok (.aload_n 0, 1) := by decide +kernel
theorem dX9_safeFromNew_4 : decode mX9_safeFromNew.1 4 = .ok (.getfield 10, 3) := by decide +kernel
theorem dX9_safeFromNew_7 : decode mX9_safeFromNew.1 7 = .ok (.getfield 79, 3) := by decide +kernel
theorem dX9_safeFromNew_10 : decode mX9_safeFromNew.1 10 = .ok (.if_icmp .ge 38, 3) := by decide +kernel
theorem dX9_safeFromNew_13 : decode mX9_safeFromNew.1 13 = .ok (.aload_n 0, 1) := by decide +kernel
theorem dX9_safeFromNew_14 : decode mX9_safeFromNew.1 14 = .ok (.getfield 10, 3) := by decide +kernel
theorem dX9_safeFromNew_17 : decode mX9_safeFromNew.1 17 = .ok (.invokevirtual 244, 3) := by decide +kernel
theorem dX9_safeFromNew_20 : decode mX9_safeFromNew.1 20 = .ok (.ifCond .ne 19, 3) := by decide +kernel
theorem dX9_safeFromNew_23 : decode mX9_safeFromNew.1 23 = .ok (.aload_n 0, 1) := by decide +kernel
theorem dX9_safeFromNew_24 : decode mX9_safeFromNew.1 24 = .ok (.getfield 33, 3) := by decide +kernel
theorem dX9_safeFromNew_27 : decode mX9_safeFromNew.1 27 = .ok (.aload_n 0, 1) := by decide +kernel
theorem dX9_safeFromNew_28 : decode mX9_safeFromNew.1 28 = .ok (.getfield 10, 3) := by decide +kernel
theorem dX9_safeFromNew_31 : decode mX9_safeFromNew.1 31 = .ok (.iload_n 2, 1) := by decide +kernel
theorem dX9_safeFromNew_32 : decode mX9_safeFromNew.1 32 = .ok (.invokevirtual 139, 3) := by decide +kernel
theorem dX9_safeFromNew_35 : decode mX9_safeFromNew.1 35 = .ok (.iload_n 1, 1) := by decide +kernel
theorem dX9_safeFromNew_36 : decode mX9_safeFromNew.1 36 = .ok (.if_icmp .gt 6, 3) := by decide +kernel
theorem dX9_safeFromNew_39 : decode mX9_safeFromNew.1 39 = .ok (.bipush (-2), 2) := by decide +kernel
theorem dX9_safeFromNew_41 : decode mX9_safeFromNew.1 41 = .ok (.ireturn, 1) := by decide +kernel
theorem dX9_safeFromNew_42 : decode mX9_safeFromNew.1 42 = .ok (.iinc 2 1, 3) := by decide +kernel
theorem dX9_safeFromNew_45 : decode mX9_safeFromNew.1 45 = .ok (.goto (-43), 3) := by decide +kernel
theorem dX9_safeFromNew_48 : decode mX9_safeFromNew.1 48 = .ok (.sipush 999, 3) := by decide +kernel
theorem dX9_safeFromNew_51 : decode mX9_safeFromNew.1 51 = .ok (.ireturn, 1) := by decide +kernel
theorem X9_safeFromNew_0 (h : mm_M) (a1 : Int) : mm_ev mX9_safeFromNew 3 0 [some (vR 0), some (vI a1), none] [] h = mm_ev mX9_safeFromNew 3 2 [some (vR 0), some (vI a1), some (vI 0)] [] h := (ev_iconst 1 (v := 0) dX9_safeFromNew_0 rfl rfl).trans (ev_istore_n 2 [some (vR 0), some (vI a1), some (vI 0)] dX9_safeFromNew_1 rfl rfl)
theorem X9_safeFromNew_c (h : mm_M) (a1 : Int) : mm_call mX9_safeFromNew [vR 0, vI a1] h = mm_ev mX9_safeFromNew 3 2 [some (vR 0), some (vI a1), some (vI 0)] [] h := X9_safeFromNew_0 h a1
theorem X9_safeFromNew_2 (h : mm_M) (a1 : Int) (a2 : Int) : mm_ev mX9_safeFromNew 3 2 [some (vR 0), some (vI a1), some (vI a2)] [] h = if (h 1 1) ≤ a2 then some ([vI 999], h) else (mm_call mX4_areAlike [vR 1] h).bind (fun w => mm_ev mX9_safeFromNew 3 20 [some (vR 0), some (vI a1), some (vI a2)] (w.1 ++ []) w.2) := (ev_iload_n 3 dX9_safeFromNew_2 rfl rfl).trans ((ev_aload_n 4 dX9_safeFromNew_3 rfl rfl).trans ((ev_getF 7 1 dX9_safeFromNew_4 fl_9_10 oc0 ak0 rfl rf_0_0 rfl).trans ((ev_getI 10 1 dX9_safeFromNew_7 fl_9_79 oc1 ak1 (by decide) rfl rfl).trans ((ev_ic_ge 48 13 dX9_safeFromNew_10 rfl rfl).trans (mm_ite ((ev_sipush 51 (v := 999) dX9_safeFromNew_48 rfl rfl).trans (ev_iret dX9_safeFromNew_51 rfl)) ((ev_aload_n 14 dX9_safeFromNew_13 rfl rfl).trans ((ev_getF 17 1 dX9_safeFromNew_14 fl_9_10 oc0 ak0 rfl rf_0_0 rfl).trans ((ev_callv mX4_areAlike [vR 1] [] 20 dX9_safeFromNew_17 ml_9_244 k44 rfl oc1 ak1 rfl rfl (Nat.le_of_ble_eq_true rfl) (Nat.le_of_ble_eq_true rfl) rfl).trans (if_pos (show 2 < 3 from by decide))))))))))
theorem X9_safeFromNew_20 (h : mm_M) (a1 : Int) (a2 : Int) (s0 : Int) : mm_ev mX9_safeFromNew 3 20 [some (vR 0), some (vI a1), some (vI a2)] [vI s0] h = if ¬ s0 = 0 then some ([vI (-2)], h) else (mm_call mX8_hearing [vR 4, vR 1, vI a2] h).bind (fun w => mm_ev mX9_safeFromNew 3 35 [some (vR 0), some (vI a1), some (vI a2)] (w.1 ++ []) w.2) := (ev_if_ne 39 23 dX9_safeFromNew_20 rfl rfl).trans (mm_ite ((ev_bipush 41 (v := (-2)) dX9_safeFromNew_39 rfl rfl).trans (ev_iret dX9_safeFromNew_41 rfl)) ((ev_aload_n 24 dX9_safeFromNew_23 rfl rfl).trans ((ev_getF 27 4 dX9_safeFromNew_24 fl_9_33 oc0 ak0 rfl rf_0_3 rfl).trans ((ev_aload_n 28 dX9_safeFromNew_27 rfl rfl).trans ((ev_getF 31 1 dX9_safeFromNew_28 fl_9_10 oc0 ak0 rfl rf_0_0 rfl).trans ((ev_iload_n 32 dX9_safeFromNew_31 rfl rfl).trans ((ev_callv mX8_hearing [vR 4, vR 1, vI a2] [] 35 dX9_safeFromNew_32 ml_9_139 k80 rfl oc4 ak4 rfl rfl (Nat.le_of_ble_eq_true rfl) (Nat.le_of_ble_eq_true rfl) rfl).trans (if_pos (show 2 < 3 from by decide)))))))))
theorem X9_safeFromNew_35 (h : mm_M) (a1 : Int) (a2 : Int) (s0 : Int) : mm_ev mX9_safeFromNew 3 35 [some (vR 0), some (vI a1), some (vI a2)] [vI s0] h = if a1 < s0 then mm_ev mX9_safeFromNew 3 2 [some (vR 0), some (vI a1), some (vI (w32 (a2 + 1)))] [] h else some ([vI (-2)], h) := (ev_iload_n 36 dX9_safeFromNew_35 rfl rfl).trans ((ev_ic_gt 42 39 dX9_safeFromNew_36 rfl rfl).trans (mm_ite ((ev_iinc 45 [some (vR 0), some (vI a1), some (vI (w32 (a2 + 1)))] dX9_safeFromNew_42 rfl rfl rfl).trans (ev_goto 2 dX9_safeFromNew_45 rfl)) ((ev_bipush 41 (v := (-2)) dX9_safeFromNew_39 rfl rfl).trans (ev_iret dX9_safeFromNew_41 rfl))))
theorem dX9_safeFromOld_0 : decode mX9_safeFromOld.1 0 = .ok (.sipush 999, 3) := by decide +kernel
theorem dX9_safeFromOld_3 : decode mX9_safeFromOld.1 3 = .ok (.istore_n 2, 1) := by decide +kernel
theorem dX9_safeFromOld_4 : decode mX9_safeFromOld.1 4 = .ok (.iconst 0, 1) := by decide +kernel
theorem dX9_safeFromOld_5 : decode mX9_safeFromOld.1 5 = .ok (.istore_n 3, 1) := by decide +kernel
theorem dX9_safeFromOld_6 : decode mX9_safeFromOld.1 6 = .ok (.iload_n 3, 1) := by decide +kernel
theorem dX9_safeFromOld_7 : decode mX9_safeFromOld.1 7 = .ok (.aload_n 0, 1) := by decide +kernel
theorem dX9_safeFromOld_8 : decode mX9_safeFromOld.1 8 = .ok (.getfield 10, 3) := by decide +kernel
theorem dX9_safeFromOld_11 : decode mX9_safeFromOld.1 11 = .ok (.getfield 79, 3) := by decide +kernel
theorem dX9_safeFromOld_14 : decode mX9_safeFromOld.1 14 = .ok (.if_icmp .ge 28, 3) := by decide +kernel
theorem dX9_safeFromOld_17 : decode mX9_safeFromOld.1 17 = .ok (.iload_n 2, 1) := by decide +kernel
theorem dX9_safeFromOld_18 : decode mX9_safeFromOld.1 18 = .ok (.iload_n 1, 1) := by decide +kernel
theorem dX9_safeFromOld_19 : decode mX9_safeFromOld.1 19 = .ok (.aload_n 0, 1) := by decide +kernel
theorem dX9_safeFromOld_20 : decode mX9_safeFromOld.1 20 = .ok (.getfield 33, 3) := by decide +kernel
theorem dX9_safeFromOld_23 : decode mX9_safeFromOld.1 23 = .ok (.aload_n 0, 1) := by decide +kernel
theorem dX9_safeFromOld_24 : decode mX9_safeFromOld.1 24 = .ok (.getfield 10, 3) := by decide +kernel
theorem dX9_safeFromOld_27 : decode mX9_safeFromOld.1 27 = .ok (.iload_n 3, 1) := by decide +kernel
theorem dX9_safeFromOld_28 : decode mX9_safeFromOld.1 28 = .ok (.invokevirtual 139, 3) := by decide +kernel
theorem dX9_safeFromOld_31 : decode mX9_safeFromOld.1 31 = .ok (.isub, 1) := by decide +kernel
theorem dX9_safeFromOld_32 : decode mX9_safeFromOld.1 32 = .ok (.invokestatic 228, 3) := by decide +kernel
theorem dX9_safeFromOld_35 : decode mX9_safeFromOld.1 35 = .ok (.istore_n 2, 1) := by decide +kernel
theorem dX9_safeFromOld_36 : decode mX9_safeFromOld.1 36 = .ok (.iinc 3 1, 3) := by decide +kernel
theorem dX9_safeFromOld_39 : decode mX9_safeFromOld.1 39 = .ok (.goto (-33), 3) := by decide +kernel
theorem dX9_safeFromOld_42 : decode mX9_safeFromOld.1 42 = .ok (.iload_n 2, 1) := by decide +kernel
theorem dX9_safeFromOld_43 : decode mX9_safeFromOld.1 43 = .ok (.ifCond .ge 8, 3) := by decide +kernel
theorem dX9_safeFromOld_46 : decode mX9_safeFromOld.1 46 = .ok (.bipush (-2), 2) := by decide +kernel
theorem dX9_safeFromOld_48 : decode mX9_safeFromOld.1 48 = .ok (.goto 4, 3) := by decide +kernel
theorem dX9_safeFromOld_51 : decode mX9_safeFromOld.1 51 = .ok (.iload_n 2, 1) := by decide +kernel
theorem dX9_safeFromOld_52 : decode mX9_safeFromOld.1 52 = .ok (.ireturn, 1) := by decide +kernel
theorem X9_safeFromOld_0 (h : mm_M) (a1 : Int) : mm_ev mX9_safeFromOld 3 0 [some (vR 0), some (vI a1), none, none] [] h = mm_ev mX9_safeFromOld 3 6 [some (vR 0), some (vI a1), some (vI 999), some (vI 0)] [] h := (ev_sipush 3 (v := 999) dX9_safeFromOld_0 rfl rfl).trans ((ev_istore_n 4 [some (vR 0), some (vI a1), some (vI 999), none] dX9_safeFromOld_3 rfl rfl).trans ((ev_iconst 5 (v := 0) dX9_safeFromOld_4 rfl rfl).trans (ev_istore_n 6 [some (vR 0), some (vI a1), some (vI 999), some (vI 0)] dX9_safeFromOld_5 rfl rfl)))
theorem X9_safeFromOld_c (h : mm_M) (a1 : Int) : mm_call mX9_safeFromOld [vR 0, vI a1] h = mm_ev mX9_safeFromOld 3 6 [some (vR 0), some (vI a1), some (vI 999), some (vI 0)] [] h := X9_safeFromOld_0 h a1
theorem X9_safeFromOld_6 (h : mm_M) (a1 : Int) (a2 : Int) (a3 : Int) : mm_ev mX9_safeFromOld 3 6 [some (vR 0), some (vI a1), some (vI a2), some (vI a3)] [] h = if (h 1 1) ≤ a3 then if 0 ≤ a2 then some ([vI a2], h) else some ([vI (-2)], h) else (mm_call mX8_hearing [vR 4, vR 1, vI a3] h).bind (fun w => mm_ev mX9_safeFromOld 3 31 [some (vR 0), some (vI a1), some (vI a2), some (vI a3)] (w.1 ++ [vI a1, vI a2]) w.2) := (ev_iload_n 7 dX9_safeFromOld_6 rfl rfl).trans ((ev_aload_n 8 dX9_safeFromOld_7 rfl rfl).trans ((ev_getF 11 1 dX9_safeFromOld_8 fl_9_10 oc0 ak0 rfl rf_0_0 rfl).trans ((ev_getI 14 1 dX9_safeFromOld_11 fl_9_79 oc1 ak1 (by decide) rfl rfl).trans ((ev_ic_ge 42 17 dX9_safeFromOld_14 rfl rfl).trans (mm_ite ((ev_iload_n 43 dX9_safeFromOld_42 rfl rfl).trans ((ev_if_ge 51 46 dX9_safeFromOld_43 rfl rfl).trans (mm_ite ((ev_iload_n 52 dX9_safeFromOld_51 rfl rfl).trans (ev_iret dX9_safeFromOld_52 rfl)) ((ev_bipush 48 (v := (-2)) dX9_safeFromOld_46 rfl rfl).trans ((ev_goto 52 dX9_safeFromOld_48 rfl).trans (ev_iret dX9_safeFromOld_52 rfl)))))) ((ev_iload_n 18 dX9_safeFromOld_17 rfl rfl).trans ((ev_iload_n 19 dX9_safeFromOld_18 rfl rfl).trans ((ev_aload_n 20 dX9_safeFromOld_19 rfl rfl).trans ((ev_getF 23 4 dX9_safeFromOld_20 fl_9_33 oc0 ak0 rfl rf_0_3 rfl).trans ((ev_aload_n 24 dX9_safeFromOld_23 rfl rfl).trans ((ev_getF 27 1 dX9_safeFromOld_24 fl_9_10 oc0 ak0 rfl rf_0_0 rfl).trans ((ev_iload_n 28 dX9_safeFromOld_27 rfl rfl).trans ((ev_callv mX8_hearing [vR 4, vR 1, vI a3] [vI a1, vI a2] 31 dX9_safeFromOld_28 ml_9_139 k80 rfl oc4 ak4 rfl rfl (Nat.le_of_ble_eq_true rfl) (Nat.le_of_ble_eq_true rfl) rfl).trans (if_pos (show 2 < 3 from by decide)))))))))))))))
theorem X9_safeFromOld_31 (h : mm_M) (a1 : Int) (a2 : Int) (a3 : Int) (s0 : Int) (s1 : Int) (s2 : Int) : mm_ev mX9_safeFromOld 3 31 [some (vR 0), some (vI a1), some (vI a2), some (vI a3)] [vI s0, vI s1, vI s2] h = mm_ev mX9_safeFromOld 3 6 [some (vR 0), some (vI a1), some (vI (if (w32 (s1 - s0)) < s2 then (w32 (s1 - s0)) else s2)), some (vI (w32 (a3 + 1)))] [] h := (ev_isub 32 dX9_safeFromOld_31 rfl).trans ((ev_min 35 dX9_safeFromOld_32 ml_9_228 (Nat.le_of_ble_eq_true rfl) rfl).trans ((ev_istore_n 36 [some (vR 0), some (vI a1), some (vI (if (w32 (s1 - s0)) < s2 then (w32 (s1 - s0)) else s2)), some (vI a3)] dX9_safeFromOld_35 rfl rfl).trans ((ev_iinc 39 [some (vR 0), some (vI a1), some (vI (if (w32 (s1 - s0)) < s2 then (w32 (s1 - s0)) else s2)), some (vI (w32 (a3 + 1)))] dX9_safeFromOld_36 rfl rfl rfl).trans (ev_goto 6 dX9_safeFromOld_39 rfl))))
theorem dX9_stranger_0 : decode mX9_stranger.1 0 = .ok (.aload_n 0, 1) := by decide +kernel
theorem dX9_stranger_1 : decode mX9_stranger.1 1 = .ok (.iload_n 2, 1) := by decide +kernel
theorem dX9_stranger_2 : decode mX9_stranger.1 2 = .ok (.invokevirtual 154, 3) := by decide +kernel
theorem dX9_stranger_5 : decode mX9_stranger.1 5 = .ok (.ifCond .eq 14, 3) := by decide +kernel
theorem dX9_stranger_8 : decode mX9_stranger.1 8 = .ok (.aload_n 0, 1) := by decide +kernel
theorem dX9_stranger_9 : decode mX9_stranger.1 9 = .ok (.getfield 10, 3) := by decide +kernel
theorem dX9_stranger_12 : decode mX9_stranger.1 12 = .ok (.iload_n 3, 1) := by decide +kernel
theorem dX9_stranger_13 : decode mX9_stranger.1 13 = .ok (.invokevirtual 101, 3) := by decide +kernel
theorem dX9_stranger_16 : decode mX9_stranger.1 16 = .ok (.ifCond .ne 5, 3) := by decide +kernel
theorem dX9_stranger_19 : decode mX9_stranger.1 19 = .ok (.iconst (-1), 1) := by decide +kernel
theorem dX9_stranger_20 : decode mX9_stranger.1 20 = .ok (.ireturn, 1) := by decide +kernel
theorem dX9_stranger_21 : decode mX9_stranger.1 21 = .ok (.aload_n 0, 1) := by decide +kernel
theorem dX9_stranger_22 : decode mX9_stranger.1 22 = .ok (.iload_n 1, 1) := by decide +kernel
theorem dX9_stranger_23 : decode mX9_stranger.1 23 = .ok (.invokevirtual 130, 3) := by decide +kernel
theorem dX9_stranger_26 : decode mX9_stranger.1 26 = .ok (.istore 4, 2) := by decide +kernel
theorem dX9_stranger_28 : decode mX9_stranger.1 28 = .ok (.iload 4, 2) := by decide +kernel
theorem dX9_stranger_30 : decode mX9_stranger.1 30 = .ok (.ifCond .eq 6, 3) := by decide +kernel
theorem dX9_stranger_33 : decode mX9_stranger.1 33 = .ok (.iload 4, 2) := by decide +kernel
theorem dX9_stranger_35 : decode mX9_stranger.1 35 = .ok (.ireturn, 1) := by decide +kernel
theorem dX9_stranger_36 : decode mX9_stranger.1 36 = .ok (.aload_n 0, 1) := by decide +kernel
theorem dX9_stranger_37 : decode mX9_stranger.1 37 = .ok (.getfield 10, 3) := by decide +kernel
theorem dX9_stranger_40 : decode mX9_stranger.1 40 = .ok (.bipush 9, 2) := by decide +kernel
theorem dX9_stranger_42 : decode mX9_stranger.1 42 = .ok (.invokevirtual 123, 3) := by decide +kernel
theorem dX9_stranger_45 : decode mX9_stranger.1 45 = .ok (.istore 5, 2) := by decide +kernel
theorem dX9_stranger_47 : decode mX9_stranger.1 47 = .ok (.aload_n 0, 1) := by decide +kernel
theorem dX9_stranger_48 : decode mX9_stranger.1 48 = .ok (.iload_n 2, 1) := by decide +kernel
theorem dX9_stranger_49 : decode mX9_stranger.1 49 = .ok (.invokevirtual 176, 3) := by decide +kernel
theorem dX9_stranger_52 : decode mX9_stranger.1 52 = .ok (.istore 6, 2) := by decide +kernel
theorem dX9_stranger_54 : decode mX9_stranger.1 54 = .ok (.aload_n 0, 1) := by decide +kernel
theorem dX9_stranger_55 : decode mX9_stranger.1 55 = .ok (.getfield 33, 3) := by decide +kernel
theorem dX9_stranger_58 : decode mX9_stranger.1 58 = .ok (.aload_n 0, 1) := by decide +kernel
theorem dX9_stranger_59 : decode mX9_stranger.1 59 = .ok (.getfield 10, 3) := by decide +kernel
theorem dX9_stranger_62 : decode mX9_stranger.1 62 = .ok (.iload_n 3, 1) := by decide +kernel
theorem dX9_stranger_63 : decode mX9_stranger.1 63 = .ok (.iload_n 2, 1) := by decide +kernel
theorem dX9_stranger_64 : decode mX9_stranger.1 64 = .ok (.sipush 1000, 3) := by decide +kernel
theorem dX9_stranger_67 : decode mX9_stranger.1 67 = .ok (.irem, 1) := by decide +kernel
theorem dX9_stranger_68 : decode mX9_stranger.1 68 = .ok (.iload 6, 2) := by decide +kernel
theorem dX9_stranger_70 : decode mX9_stranger.1 70 = .ok (.iload 5, 2) := by decide +kernel
theorem dX9_stranger_72 : decode mX9_stranger.1 72 = .ok (.invokevirtual 179, 3) := by decide +kernel
theorem dX9_stranger_75 : decode mX9_stranger.1 75 = .ok (.ifCond .ne 6, 3) := by decide +kernel
theorem dX9_stranger_78 : decode mX9_stranger.1 78 = .ok (.bipush (-3), 2) := by decide +kernel
theorem dX9_stranger_80 : decode mX9_stranger.1 80 = .ok (.ireturn, 1) := by decide +kernel
theorem dX9_stranger_81 : decode mX9_stranger.1 81 = .ok (.aload_n 0, 1) := by decide +kernel
theorem dX9_stranger_82 : decode mX9_stranger.1 82 = .ok (.getfield 33, 3) := by decide +kernel
theorem dX9_stranger_85 : decode mX9_stranger.1 85 = .ok (.aload_n 0, 1) := by decide +kernel
theorem dX9_stranger_86 : decode mX9_stranger.1 86 = .ok (.getfield 10, 3) := by decide +kernel
theorem dX9_stranger_89 : decode mX9_stranger.1 89 = .ok (.iload_n 3, 1) := by decide +kernel
theorem dX9_stranger_90 : decode mX9_stranger.1 90 = .ok (.invokevirtual 139, 3) := by decide +kernel
theorem dX9_stranger_93 : decode mX9_stranger.1 93 = .ok (.istore 7, 2) := by decide +kernel
theorem dX9_stranger_95 : decode mX9_stranger.1 95 = .ok (.iload 6, 2) := by decide +kernel
theorem dX9_stranger_97 : decode mX9_stranger.1 97 = .ok (.iload 5, 2) := by decide +kernel
theorem dX9_stranger_99 : decode mX9_stranger.1 99 = .ok (.if_icmp .eq 10, 3) := by decide +kernel
theorem dX9_stranger_102 : decode mX9_stranger.1 102 = .ok (.iload 7, 2) := by decide +kernel
theorem dX9_stranger_104 : decode mX9_stranger.1 104 = .ok (.ldc 143, 2) := by decide +kernel
theorem dX9_stranger_106 : decode mX9_stranger.1 106 = .ok (.if_icmp .ne 8, 3) := by decide +kernel
theorem dX9_stranger_109 : decode mX9_stranger.1 109 = .ok (.bipush (-2), 2) := by decide +kernel
theorem dX9_stranger_111 : decode mX9_stranger.1 111 = .ok (.goto 15, 3) := by decide +kernel
theorem dX9_stranger_114 : decode mX9_stranger.1 114 = .ok (.iload 7, 2) := by decide +kernel
theorem dX9_stranger_116 : decode mX9_stranger.1 116 = .ok (.aload_n 0, 1) := by decide +kernel
theorem dX9_stranger_117 : decode mX9_stranger.1 117 = .ok (.getfield 10, 3) := by decide +kernel
theorem dX9_stranger_120 : decode mX9_stranger.1 120 = .ok (.bipush 11, 2) := by decide +kernel
theorem dX9_stranger_122 : decode mX9_stranger.1 122 = .ok (.invokevirtual 123, 3) := by decide +kernel
theorem dX9_stranger_125 : decode mX9_stranger.1 125 = .ok (.iadd, 1) := by decide +kernel
theorem dX9_stranger_126 : decode mX9_stranger.1 126 = .ok (.ireturn, 1) := by decide +kernel
theorem X9_stranger_0 (h : mm_M) (a1 : Int) (a2 : Int) (a3 : Int) : mm_ev mX9_stranger 6 0 [some (vR 0), some (vI a1), some (vI a2), some (vI a3), none, none, none, none] [] h = (mm_call mX9_isPlaceAndMinute [vR 0, vI a2] h).bind (fun w => mm_ev mX9_stranger 6 5 [some (vR 0), some (vI a1), some (vI a2), some (vI a3), none, none, none, none] (w.1 ++ []) w.2) := (ev_aload_n 1 dX9_stranger_0 rfl rfl).trans ((ev_iload_n 2 dX9_stranger_1 rfl rfl).trans ((ev_callv mX9_isPlaceAndMinute [vR 0, vI a2] [] 5 dX9_stranger_2 ml_9_154 k133 rfl oc0 ak0 rfl rfl (Nat.le_of_ble_eq_true rfl) (Nat.le_of_ble_eq_true rfl) rfl).trans (if_pos (show 2 < 6 from by decide))))
theorem X9_stranger_c (h : mm_M) (a1 : Int) (a2 : Int) (a3 : Int) : mm_call mX9_stranger [vR 0, vI a1, vI a2, vI a3] h = (mm_call mX9_isPlaceAndMinute [vR 0, vI a2] h).bind (fun w => mm_ev mX9_stranger 6 5 [some (vR 0), some (vI a1), some (vI a2), some (vI a3), none, none, none, none] (w.1 ++ []) w.2) := X9_stranger_0 h a1 a2 a3
theorem X9_stranger_5 (h : mm_M) (a1 : Int) (a2 : Int) (a3 : Int) (s0 : Int) : mm_ev mX9_stranger 6 5 [some (vR 0), some (vI a1), some (vI a2), some (vI a3), none, none, none, none] [vI s0] h = if s0 = 0 then some ([vI (-1)], h) else (mm_call mX4_isPost [vR 1, vI a3] h).bind (fun w => mm_ev mX9_stranger 6 16 [some (vR 0), some (vI a1), some (vI a2), some (vI a3), none, none, none, none] (w.1 ++ []) w.2) := (ev_if_eq 19 8 dX9_stranger_5 rfl rfl).trans (mm_ite ((ev_iconst 20 (v := (-1)) dX9_stranger_19 rfl rfl).trans (ev_iret dX9_stranger_20 rfl)) ((ev_aload_n 9 dX9_stranger_8 rfl rfl).trans ((ev_getF 12 1 dX9_stranger_9 fl_9_10 oc0 ak0 rfl rf_0_0 rfl).trans ((ev_iload_n 13 dX9_stranger_12 rfl rfl).trans ((ev_callv mX4_isPost [vR 1, vI a3] [] 16 dX9_stranger_13 ml_9_101 k43 rfl oc1 ak1 rfl rfl (Nat.le_of_ble_eq_true rfl) (Nat.le_of_ble_eq_true rfl) rfl).trans (if_pos (show 1 < 6 from by decide)))))))
theorem X9_stranger_16 (h : mm_M) (a1 : Int) (a2 : Int) (a3 : Int) (s0 : Int) : mm_ev mX9_stranger 6 16 [some (vR 0), some (vI a1), some (vI a2), some (vI a3), none, none, none, none] [vI s0] h = if ¬ s0 = 0 then (mm_call mX9_layOut [vR 0, vI a1] h).bind (fun w => mm_ev mX9_stranger 6 26 [some (vR 0), some (vI a1), some (vI a2), some (vI a3), none, none, none, none] (w.1 ++ []) w.2) else some ([vI (-1)], h) := (ev_if_ne 21 19 dX9_stranger_16 rfl rfl).trans (mm_ite ((ev_aload_n 22 dX9_stranger_21 rfl rfl).trans ((ev_iload_n 23 dX9_stranger_22 rfl rfl).trans ((ev_callv mX9_layOut [vR 0, vI a1] [] 26 dX9_stranger_23 ml_9_130 k135 rfl oc0 ak0 rfl rfl (Nat.le_of_ble_eq_true rfl) (Nat.le_of_ble_eq_true rfl) rfl).trans (if_pos (show 5 < 6 from by decide))))) ((ev_iconst 20 (v := (-1)) dX9_stranger_19 rfl rfl).trans (ev_iret dX9_stranger_20 rfl)))
theorem X9_stranger_26 (h : mm_M) (a1 : Int) (a2 : Int) (a3 : Int) (s0 : Int) : mm_ev mX9_stranger 6 26 [some (vR 0), some (vI a1), some (vI a2), some (vI a3), none, none, none, none] [vI s0] h = if s0 = 0 then (mm_call mX4_the [vR 1, vI 9] h).bind (fun w => mm_ev mX9_stranger 6 45 [some (vR 0), some (vI a1), some (vI a2), some (vI a3), some (vI s0), none, none, none] (w.1 ++ []) w.2) else some ([vI s0], h) := (ev_istore 28 [some (vR 0), some (vI a1), some (vI a2), some (vI a3), some (vI s0), none, none, none] dX9_stranger_26 rfl rfl).trans ((ev_iload 30 dX9_stranger_28 rfl rfl).trans ((ev_if_eq 36 33 dX9_stranger_30 rfl rfl).trans (mm_ite ((ev_aload_n 37 dX9_stranger_36 rfl rfl).trans ((ev_getF 40 1 dX9_stranger_37 fl_9_10 oc0 ak0 rfl rf_0_0 rfl).trans ((ev_bipush 42 (v := 9) dX9_stranger_40 rfl rfl).trans ((ev_callv mX4_the [vR 1, vI 9] [] 45 dX9_stranger_42 ml_9_123 k42 rfl oc1 ak1 rfl rfl (Nat.le_of_ble_eq_true rfl) (Nat.le_of_ble_eq_true rfl) rfl).trans (if_pos (show 1 < 6 from by decide)))))) ((ev_iload 35 dX9_stranger_33 rfl rfl).trans (ev_iret dX9_stranger_35 rfl)))))
theorem X9_stranger_45 (h : mm_M) (a1 : Int) (a2 : Int) (a3 : Int) (a4 : Int) (s0 : Int) : mm_ev mX9_stranger 6 45 [some (vR 0), some (vI a1), some (vI a2), some (vI a3), some (vI a4), none, none, none] [vI s0] h = (mm_call mX9_overheard [vR 0, vI a2] h).bind (fun w => mm_ev mX9_stranger 6 52 [some (vR 0), some (vI a1), some (vI a2), some (vI a3), some (vI a4), some (vI s0), none, none] (w.1 ++ []) w.2) := (ev_istore 47 [some (vR 0), some (vI a1), some (vI a2), some (vI a3), some (vI a4), some (vI s0), none, none] dX9_stranger_45 rfl rfl).trans ((ev_aload_n 48 dX9_stranger_47 rfl rfl).trans ((ev_iload_n 49 dX9_stranger_48 rfl rfl).trans ((ev_callv mX9_overheard [vR 0, vI a2] [] 52 dX9_stranger_49 ml_9_176 k137 rfl oc0 ak0 rfl rfl (Nat.le_of_ble_eq_true rfl) (Nat.le_of_ble_eq_true rfl) rfl).trans (if_pos (show 4 < 6 from by decide)))))
theorem X9_stranger_52 (h : mm_M) (a1 : Int) (a2 : Int) (a3 : Int) (a4 : Int) (a5 : Int) (s0 : Int) : mm_ev mX9_stranger 6 52 [some (vR 0), some (vI a1), some (vI a2), some (vI a3), some (vI a4), some (vI a5), none, none] [vI s0] h = (mm_call mX8_admits [vR 4, vR 1, vI a3, vI (a2.tmod 1000), vI s0, vI a5] h).bind (fun w => mm_ev mX9_stranger 6 75 [some (vR 0), some (vI a1), some (vI a2), some (vI a3), some (vI a4), some (vI a5), some (vI s0), none] (w.1 ++ []) w.2) := (ev_istore 54 [some (vR 0), some (vI a1), some (vI a2), some (vI a3), some (vI a4), some (vI a5), some (vI s0), none] dX9_stranger_52 rfl rfl).trans ((ev_aload_n 55 dX9_stranger_54 rfl rfl).trans ((ev_getF 58 4 dX9_stranger_55 fl_9_33 oc0 ak0 rfl rf_0_3 rfl).trans ((ev_aload_n 59 dX9_stranger_58 rfl rfl).trans ((ev_getF 62 1 dX9_stranger_59 fl_9_10 oc0 ak0 rfl rf_0_0 rfl).trans ((ev_iload_n 63 dX9_stranger_62 rfl rfl).trans ((ev_iload_n 64 dX9_stranger_63 rfl rfl).trans ((ev_sipush 67 (v := 1000) dX9_stranger_64 rfl rfl).trans (((ev_irem 68 dX9_stranger_67 rfl).trans (if_neg (by decide))).trans ((ev_iload 70 dX9_stranger_68 rfl rfl).trans ((ev_iload 72 dX9_stranger_70 rfl rfl).trans ((ev_callv mX8_admits [vR 4, vR 1, vI a3, vI (a2.tmod 1000), vI s0, vI a5] [] 75 dX9_stranger_72 ml_9_179 k82 rfl oc4 ak4 rfl rfl (Nat.le_of_ble_eq_true rfl) (Nat.le_of_ble_eq_true rfl) rfl).trans (if_pos (show 3 < 6 from by decide)))))))))))))
theorem X9_stranger_75 (h : mm_M) (a1 : Int) (a2 : Int) (a3 : Int) (a4 : Int) (a5 : Int) (a6 : Int) (s0 : Int) : mm_ev mX9_stranger 6 75 [some (vR 0), some (vI a1), some (vI a2), some (vI a3), some (vI a4), some (vI a5), some (vI a6), none] [vI s0] h = if ¬ s0 = 0 then (mm_call mX8_hearing [vR 4, vR 1, vI a3] h).bind (fun w => mm_ev mX9_stranger 6 93 [some (vR 0), some (vI a1), some (vI a2), some (vI a3), some (vI a4), some (vI a5), some (vI a6), none] (w.1 ++ []) w.2) else some ([vI (-3)], h) := (ev_if_ne 81 78 dX9_stranger_75 rfl rfl).trans (mm_ite ((ev_aload_n 82 dX9_stranger_81 rfl rfl).trans ((ev_getF 85 4 dX9_stranger_82 fl_9_33 oc0 ak0 rfl rf_0_3 rfl).trans ((ev_aload_n 86 dX9_stranger_85 rfl rfl).trans ((ev_getF 89 1 dX9_stranger_86 fl_9_10 oc0 ak0 rfl rf_0_0 rfl).trans ((ev_iload_n 90 dX9_stranger_89 rfl rfl).trans ((ev_callv mX8_hearing [vR 4, vR 1, vI a3] [] 93 dX9_stranger_90 ml_9_139 k80 rfl oc4 ak4 rfl rfl (Nat.le_of_ble_eq_true rfl) (Nat.le_of_ble_eq_true rfl) rfl).trans (if_pos (show 2 < 6 from by decide)))))))) ((ev_bipush 80 (v := (-3)) dX9_stranger_78 rfl rfl).trans (ev_iret dX9_stranger_80 rfl)))
theorem X9_stranger_93 (h : mm_M) (a1 : Int) (a2 : Int) (a3 : Int) (a4 : Int) (a5 : Int) (a6 : Int) (s0 : Int) : mm_ev mX9_stranger 6 93 [some (vR 0), some (vI a1), some (vI a2), some (vI a3), some (vI a4), some (vI a5), some (vI a6), none] [vI s0] h = if a6 = a5 then some ([vI (-2)], h) else if ¬ s0 = 1000000 then (mm_call mX4_the [vR 1, vI 11] h).bind (fun w => mm_ev mX9_stranger 6 125 [some (vR 0), some (vI a1), some (vI a2), some (vI a3), some (vI a4), some (vI a5), some (vI a6), some (vI s0)] (w.1 ++ [vI s0]) w.2) else some ([vI (-2)], h) := (ev_istore 95 [some (vR 0), some (vI a1), some (vI a2), some (vI a3), some (vI a4), some (vI a5), some (vI a6), some (vI s0)] dX9_stranger_93 rfl rfl).trans ((ev_iload 97 dX9_stranger_95 rfl rfl).trans ((ev_iload 99 dX9_stranger_97 rfl rfl).trans ((ev_ic_eq 109 102 dX9_stranger_99 rfl rfl).trans (mm_ite ((ev_bipush 111 (v := (-2)) dX9_stranger_109 rfl rfl).trans ((ev_goto 126 dX9_stranger_111 rfl).trans (ev_iret dX9_stranger_126 rfl))) ((ev_iload 104 dX9_stranger_102 rfl rfl).trans ((ev_ldc 106 dX9_stranger_104 cI_9_143 rfl).trans ((ev_ic_ne 114 109 dX9_stranger_106 rfl rfl).trans (mm_ite ((ev_iload 116 dX9_stranger_114 rfl rfl).trans ((ev_aload_n 117 dX9_stranger_116 rfl rfl).trans ((ev_getF 120 1 dX9_stranger_117 fl_9_10 oc0 ak0 rfl rf_0_0 rfl).trans ((ev_bipush 122 (v := 11) dX9_stranger_120 rfl rfl).trans ((ev_callv mX4_the [vR 1, vI 11] [vI s0] 125 dX9_stranger_122 ml_9_123 k42 rfl oc1 ak1 rfl rfl (Nat.le_of_ble_eq_true rfl) (Nat.le_of_ble_eq_true rfl) rfl).trans (if_pos (show 1 < 6 from by decide))))))) ((ev_bipush 111 (v := (-2)) dX9_stranger_109 rfl rfl).trans ((ev_goto 126 dX9_stranger_111 rfl).trans (ev_iret dX9_stranger_126 rfl)))))))))))
theorem X9_stranger_125 (h : mm_M) (a1 : Int) (a2 : Int) (a3 : Int) (a4 : Int) (a5 : Int) (a6 : Int) (a7 : Int) (s0 : Int) (s1 : Int) : mm_ev mX9_stranger 6 125 [some (vR 0), some (vI a1), some (vI a2), some (vI a3), some (vI a4), some (vI a5), some (vI a6), some (vI a7)] [vI s0, vI s1] h = some ([vI (w32 (s1 + s0))], h) := (ev_iadd 126 dX9_stranger_125 rfl).trans (ev_iret dX9_stranger_126 rfl)
theorem dX9_holdsFor_0 : decode mX9_holdsFor.1 0 = .ok (.aload_n 0, 1) := by decide +kernel
theorem dX9_holdsFor_1 : decode mX9_holdsFor.1 1 = .ok (.iload_n 1, 1) := by decide +kernel
theorem dX9_holdsFor_2 : decode mX9_holdsFor.1 2 = .ok (.invokevirtual 130, 3) := by decide +kernel
theorem dX9_holdsFor_5 : decode mX9_holdsFor.1 5 = .ok (.istore_n 2, 1) := by decide +kernel
theorem dX9_holdsFor_6 : decode mX9_holdsFor.1 6 = .ok (.iload_n 2, 1) := by decide +kernel
theorem dX9_holdsFor_7 : decode mX9_holdsFor.1 7 = .ok (.ifCond .eq 5, 3) := by decide +kernel
theorem dX9_holdsFor_10 : decode mX9_holdsFor.1 10 = .ok (.iload_n 2, 1) := by decide +kernel
theorem dX9_holdsFor_11 : decode mX9_holdsFor.1 11 = .ok (.ireturn, 1) := by decide +kernel
theorem dX9_holdsFor_12 : decode mX9_holdsFor.1 12 = .ok (.iconst 0, 1) := by decide +kernel
theorem dX9_holdsFor_13 : decode mX9_holdsFor.1 13 = .ok (.istore_n 3, 1) := by decide +kernel
theorem dX9_holdsFor_14 : decode mX9_holdsFor.1 14 = .ok (.iconst 0, 1) := by decide +kernel
theorem dX9_holdsFor_15 : decode mX9_holdsFor.1 15 = .ok (.istore 4, 2) := by decide +kernel
theorem dX9_holdsFor_17 : decode mX9_holdsFor.1 17 = .ok (.iload 4, 2) := by decide +kernel
theorem dX9_holdsFor_19 : decode mX9_holdsFor.1 19 = .ok (.iconst 4, 1) := by decide +kernel
theorem dX9_holdsFor_20 : decode mX9_holdsFor.1 20 = .ok (.if_icmp .ge 42, 3) := by decide +kernel
theorem dX9_holdsFor_23 : decode mX9_holdsFor.1 23 = .ok (.aload_n 0, 1) := by decide +kernel
theorem dX9_holdsFor_24 : decode mX9_holdsFor.1 24 = .ok (.getfield 33, 3) := by decide +kernel
theorem dX9_holdsFor_27 : decode mX9_holdsFor.1 27 = .ok (.aload_n 0, 1) := by decide +kernel
theorem dX9_holdsFor_28 : decode mX9_holdsFor.1 28 = .ok (.getfield 10, 3) := by decide +kernel
theorem dX9_holdsFor_31 : decode mX9_holdsFor.1 31 = .ok (.iload 4, 2) := by decide +kernel
theorem dX9_holdsFor_33 : decode mX9_holdsFor.1 33 = .ok (.invokevirtual 168, 3) := by decide +kernel
theorem dX9_holdsFor_36 : decode mX9_holdsFor.1 36 = .ok (.istore 5, 2) := by decide +kernel
theorem dX9_holdsFor_38 : decode mX9_holdsFor.1 38 = .ok (.iload 5, 2) := by decide +kernel
theorem dX9_holdsFor_40 : decode mX9_holdsFor.1 40 = .ok (.sipush 1000, 3) := by decide +kernel
theorem dX9_holdsFor_43 : decode mX9_holdsFor.1 43 = .ok (.if_icmp .lt 6, 3) := by decide +kernel
theorem dX9_holdsFor_46 : decode mX9_holdsFor.1 46 = .ok (.bipush (-2), 2) := by decide +kernel
theorem dX9_holdsFor_48 : decode mX9_holdsFor.1 48 = .ok (.ireturn, 1) := by decide +kernel
theorem dX9_holdsFor_49 : decode mX9_holdsFor.1 49 = .ok (.iload_n 3, 1) := by decide +kernel
theorem dX9_holdsFor_50 : decode mX9_holdsFor.1 50 = .ok (.iload 5, 2) := by decide +kernel
theorem dX9_holdsFor_52 : decode mX9_holdsFor.1 52 = .ok (.invokestatic 171, 3) := by decide +kernel
theorem dX9_holdsFor_55 : decode mX9_holdsFor.1 55 = .ok (.istore_n 3, 1) := by decide +kernel
theorem dX9_holdsFor_56 : decode mX9_holdsFor.1 56 = .ok (.iinc 4 1, 3) := by decide +kernel
theorem dX9_holdsFor_59 : decode mX9_holdsFor.1 59 = .ok (.goto (-42), 3) := by decide +kernel
theorem dX9_holdsFor_62 : decode mX9_holdsFor.1 62 = .ok (.iload_n 3, 1) := by decide +kernel
theorem dX9_holdsFor_63 : decode mX9_holdsFor.1 63 = .ok (.ireturn, 1) := by decide +kernel
theorem X9_holdsFor_0 (h : mm_M) (a1 : Int) : mm_ev mX9_holdsFor 6 0 [some (vR 0), some (vI a1), none, none, none, none] [] h = (mm_call mX9_layOut [vR 0, vI a1] h).bind (fun w => mm_ev mX9_holdsFor 6 5 [some (vR 0), some (vI a1), none, none, none, none] (w.1 ++ []) w.2) := (ev_aload_n 1 dX9_holdsFor_0 rfl rfl).trans ((ev_iload_n 2 dX9_holdsFor_1 rfl rfl).trans ((ev_callv mX9_layOut [vR 0, vI a1] [] 5 dX9_holdsFor_2 ml_9_130 k135 rfl oc0 ak0 rfl rfl (Nat.le_of_ble_eq_true rfl) (Nat.le_of_ble_eq_true rfl) rfl).trans (if_pos (show 5 < 6 from by decide))))
theorem X9_holdsFor_c (h : mm_M) (a1 : Int) : mm_call mX9_holdsFor [vR 0, vI a1] h = (mm_call mX9_layOut [vR 0, vI a1] h).bind (fun w => mm_ev mX9_holdsFor 6 5 [some (vR 0), some (vI a1), none, none, none, none] (w.1 ++ []) w.2) := X9_holdsFor_0 h a1
theorem X9_holdsFor_5 (h : mm_M) (a1 : Int) (s0 : Int) : mm_ev mX9_holdsFor 6 5 [some (vR 0), some (vI a1), none, none, none, none] [vI s0] h = if s0 = 0 then mm_ev mX9_holdsFor 6 17 [some (vR 0), some (vI a1), some (vI s0), some (vI 0), some (vI 0), none] [] h else some ([vI s0], h) := (ev_istore_n 6 [some (vR 0), some (vI a1), some (vI s0), none, none, none] dX9_holdsFor_5 rfl rfl).trans ((ev_iload_n 7 dX9_holdsFor_6 rfl rfl).trans ((ev_if_eq 12 10 dX9_holdsFor_7 rfl rfl).trans (mm_ite ((ev_iconst 13 (v := 0) dX9_holdsFor_12 rfl rfl).trans ((ev_istore_n 14 [some (vR 0), some (vI a1), some (vI s0), some (vI 0), none, none] dX9_holdsFor_13 rfl rfl).trans ((ev_iconst 15 (v := 0) dX9_holdsFor_14 rfl rfl).trans (ev_istore 17 [some (vR 0), some (vI a1), some (vI s0), some (vI 0), some (vI 0), none] dX9_holdsFor_15 rfl rfl)))) ((ev_iload_n 11 dX9_holdsFor_10 rfl rfl).trans (ev_iret dX9_holdsFor_11 rfl)))))
theorem X9_holdsFor_17 (h : mm_M) (a1 : Int) (a2 : Int) (a3 : Int) (a4 : Int) (o5 : Option mm_V) : mm_ev mX9_holdsFor 6 17 [some (vR 0), some (vI a1), some (vI a2), some (vI a3), some (vI a4), o5] [] h = if 4 ≤ a4 then some ([vI a3], h) else (mm_call mX8_holdsNeeded [vR 4, vR 1, vI a4] h).bind (fun w => mm_ev mX9_holdsFor 6 36 [some (vR 0), some (vI a1), some (vI a2), some (vI a3), some (vI a4), o5] (w.1 ++ []) w.2) := (ev_iload 19 dX9_holdsFor_17 rfl rfl).trans ((ev_iconst 20 (v := 4) dX9_holdsFor_19 rfl rfl).trans ((ev_ic_ge 62 23 dX9_holdsFor_20 rfl rfl).trans (mm_ite ((ev_iload_n 63 dX9_holdsFor_62 rfl rfl).trans (ev_iret dX9_holdsFor_63 rfl)) ((ev_aload_n 24 dX9_holdsFor_23 rfl rfl).trans ((ev_getF 27 4 dX9_holdsFor_24 fl_9_33 oc0 ak0 rfl rf_0_3 rfl).trans ((ev_aload_n 28 dX9_holdsFor_27 rfl rfl).trans ((ev_getF 31 1 dX9_holdsFor_28 fl_9_10 oc0 ak0 rfl rf_0_0 rfl).trans ((ev_iload 33 dX9_holdsFor_31 rfl rfl).trans ((ev_callv mX8_holdsNeeded [vR 4, vR 1, vI a4] [] 36 dX9_holdsFor_33 ml_9_168 k86 rfl oc4 ak4 rfl rfl (Nat.le_of_ble_eq_true rfl) (Nat.le_of_ble_eq_true rfl) rfl).trans (if_pos (show 3 < 6 from by decide)))))))))))
theorem X9_holdsFor_36 (h : mm_M) (a1 : Int) (a2 : Int) (a3 : Int) (a4 : Int) (o5 : Option mm_V) (s0 : Int) : mm_ev mX9_holdsFor 6 36 [some (vR 0), some (vI a1), some (vI a2), some (vI a3), some (vI a4), o5] [vI s0] h = if s0 < 1000 then mm_ev mX9_holdsFor 6 17 [some (vR 0), some (vI a1), some (vI a2), some (vI (if a3 < s0 then s0 else a3)), some (vI (w32 (a4 + 1))), some (vI s0)] [] h else some ([vI (-2)], h) := (ev_istore 38 [some (vR 0), some (vI a1), some (vI a2), some (vI a3), some (vI a4), some (vI s0)] dX9_holdsFor_36 rfl rfl).trans ((ev_iload 40 dX9_holdsFor_38 rfl rfl).trans ((ev_sipush 43 (v := 1000) dX9_holdsFor_40 rfl rfl).trans ((ev_ic_lt 49 46 dX9_holdsFor_43 rfl rfl).trans (mm_ite ((ev_iload_n 50 dX9_holdsFor_49 rfl rfl).trans ((ev_iload 52 dX9_holdsFor_50 rfl rfl).trans ((ev_max 55 dX9_holdsFor_52 ml_9_171 (Nat.le_of_ble_eq_true rfl) rfl).trans ((ev_istore_n 56 [some (vR 0), some (vI a1), some (vI a2), some (vI (if a3 < s0 then s0 else a3)), some (vI a4), some (vI s0)] dX9_holdsFor_55 rfl rfl).trans ((ev_iinc 59 [some (vR 0), some (vI a1), some (vI a2), some (vI (if a3 < s0 then s0 else a3)), some (vI (w32 (a4 + 1))), some (vI s0)] dX9_holdsFor_56 rfl rfl rfl).trans (ev_goto 17 dX9_holdsFor_59 rfl)))))) ((ev_bipush 48 (v := (-2)) dX9_holdsFor_46 rfl rfl).trans (ev_iret dX9_holdsFor_48 rfl))))))
theorem dX9_patrol_0 : decode mX9_patrol.1 0 = .ok (.iload_n 2, 1) := by decide +kernel
theorem dX9_patrol_1 : decode mX9_patrol.1 1 = .ok (.iconst (-1), 1) := by decide +kernel
theorem dX9_patrol_2 : decode mX9_patrol.1 2 = .ok (.if_icmp .lt 8, 3) := by decide +kernel
theorem dX9_patrol_5 : decode mX9_patrol.1 5 = .ok (.iload_n 2, 1) := by decide +kernel
theorem dX9_patrol_6 : decode mX9_patrol.1 6 = .ok (.iconst 4, 1) := by decide +kernel
theorem dX9_patrol_7 : decode mX9_patrol.1 7 = .ok (.if_icmp .lt 5, 3) := by decide +kernel
theorem dX9_patrol_10 : decode mX9_patrol.1 10 = .ok (.iconst (-1), 1) := by decide +kernel
theorem dX9_patrol_11 : decode mX9_patrol.1 11 = .ok (.ireturn, 1) := by decide +kernel
theorem dX9_patrol_12 : decode mX9_patrol.1 12 = .ok (.aload_n 0, 1) := by decide +kernel
theorem dX9_patrol_13 : decode mX9_patrol.1 13 = .ok (.iload_n 1, 1) := by decide +kernel
theorem dX9_patrol_14 : decode mX9_patrol.1 14 = .ok (.invokevirtual 130, 3) := by decide +kernel
theorem dX9_patrol_17 : decode mX9_patrol.1 17 = .ok (.istore_n 3, 1) := by decide +kernel
theorem dX9_patrol_18 : decode mX9_patrol.1 18 = .ok (.iload_n 3, 1) := by decide +kernel
theorem dX9_patrol_19 : decode mX9_patrol.1 19 = .ok (.ifCond .eq 5, 3) := by decide +kernel
theorem dX9_patrol_22 : decode mX9_patrol.1 22 = .ok (.iload_n 3, 1) := by decide +kernel
theorem dX9_patrol_23 : decode mX9_patrol.1 23 = .ok (.ireturn, 1) := by decide +kernel
theorem dX9_patrol_24 : decode mX9_patrol.1 24 = .ok (.iload_n 2, 1) := by decide +kernel
theorem dX9_patrol_25 : decode mX9_patrol.1 25 = .ok (.ifCond .ge 18, 3) := by decide +kernel
theorem dX9_patrol_28 : decode mX9_patrol.1 28 = .ok (.iconst 4, 1) := by decide +kernel
theorem dX9_patrol_29 : decode mX9_patrol.1 29 = .ok (.aload_n 0, 1) := by decide +kernel
theorem dX9_patrol_30 : decode mX9_patrol.1 30 = .ok (.getfield 33, 3) := by decide +kernel
theorem dX9_patrol_33 : decode mX9_patrol.1 33 = .ok (.aload_n 0, 1) := by decide +kernel
theorem dX9_patrol_34 : decode mX9_patrol.1 34 = .ok (.getfield 10, 3) := by decide +kernel
theorem dX9_patrol_37 : decode mX9_patrol.1 37 = .ok (.iconst 0, 1) := by decide +kernel
theorem dX9_patrol_38 : decode mX9_patrol.1 38 = .ok (.invokevirtual 161, 3) := by decide +kernel
theorem dX9_patrol_41 : decode mX9_patrol.1 41 = .ok (.isub, 1) := by decide +kernel
theorem dX9_patrol_42 : decode mX9_patrol.1 42 = .ok (.ireturn, 1) := by decide +kernel
theorem dX9_patrol_43 : decode mX9_patrol.1 43 = .ok (.aload_n 0, 1) := by decide +kernel
theorem dX9_patrol_44 : decode mX9_patrol.1 44 = .ok (.getfield 33, 3) := by decide +kernel
theorem dX9_patrol_47 : decode mX9_patrol.1 47 = .ok (.aload_n 0, 1) := by decide +kernel
theorem dX9_patrol_48 : decode mX9_patrol.1 48 = .ok (.getfield 10, 3) := by decide +kernel
theorem dX9_patrol_51 : decode mX9_patrol.1 51 = .ok (.iload_n 2, 1) := by decide +kernel
theorem dX9_patrol_52 : decode mX9_patrol.1 52 = .ok (.aload_n 0, 1) := by decide +kernel
theorem dX9_patrol_53 : decode mX9_patrol.1 53 = .ok (.getfield 10, 3) := by decide +kernel
theorem dX9_patrol_56 : decode mX9_patrol.1 56 = .ok (.bipush 9, 2) := by decide +kernel
theorem dX9_patrol_58 : decode mX9_patrol.1 58 = .ok (.invokevirtual 123, 3) := by decide +kernel
theorem dX9_patrol_61 : decode mX9_patrol.1 61 = .ok (.invokevirtual 164, 3) := by decide +kernel
theorem dX9_patrol_64 : decode mX9_patrol.1 64 = .ok (.ifCond .eq 7, 3) := by decide +kernel
theorem dX9_patrol_67 : decode mX9_patrol.1 67 = .ok (.iconst 1, 1) := by decide +kernel
theorem dX9_patrol_68 : decode mX9_patrol.1 68 = .ok (.goto 4, 3) := by decide +kernel
theorem dX9_patrol_71 : decode mX9_patrol.1 71 = .ok (.iconst 0, 1) := by decide +kernel
theorem dX9_patrol_72 : decode mX9_patrol.1 72 = .ok (.ireturn, 1) := by decide +kernel
theorem X9_patrol_0 (h : mm_M) (a1 : Int) (a2 : Int) : mm_ev mX9_patrol 6 0 [some (vR 0), some (vI a1), some (vI a2), none] [] h = if a2 < (-1) then some ([vI (-1)], h) else if a2 < 4 then (mm_call mX9_layOut [vR 0, vI a1] h).bind (fun w => mm_ev mX9_patrol 6 17 [some (vR 0), some (vI a1), some (vI a2), none] (w.1 ++ []) w.2) else some ([vI (-1)], h) := (ev_iload_n 1 dX9_patrol_0 rfl rfl).trans ((ev_iconst 2 (v := (-1)) dX9_patrol_1 rfl rfl).trans ((ev_ic_lt 10 5 dX9_patrol_2 rfl rfl).trans (mm_ite ((ev_iconst 11 (v := (-1)) dX9_patrol_10 rfl rfl).trans (ev_iret dX9_patrol_11 rfl)) ((ev_iload_n 6 dX9_patrol_5 rfl rfl).trans ((ev_iconst 7 (v := 4) dX9_patrol_6 rfl rfl).trans ((ev_ic_lt 12 10 dX9_patrol_7 rfl rfl).trans (mm_ite ((ev_aload_n 13 dX9_patrol_12 rfl rfl).trans ((ev_iload_n 14 dX9_patrol_13 rfl rfl).trans ((ev_callv mX9_layOut [vR 0, vI a1] [] 17 dX9_patrol_14 ml_9_130 k135 rfl oc0 ak0 rfl rfl (Nat.le_of_ble_eq_true rfl) (Nat.le_of_ble_eq_true rfl) rfl).trans (if_pos (show 5 < 6 from by decide))))) ((ev_iconst 11 (v := (-1)) dX9_patrol_10 rfl rfl).trans (ev_iret dX9_patrol_11 rfl)))))))))
theorem X9_patrol_c (h : mm_M) (a1 : Int) (a2 : Int) : mm_call mX9_patrol [vR 0, vI a1, vI a2] h = if a2 < (-1) then some ([vI (-1)], h) else if a2 < 4 then (mm_call mX9_layOut [vR 0, vI a1] h).bind (fun w => mm_ev mX9_patrol 6 17 [some (vR 0), some (vI a1), some (vI a2), none] (w.1 ++ []) w.2) else some ([vI (-1)], h) := X9_patrol_0 h a1 a2
theorem X9_patrol_17 (h : mm_M) (a1 : Int) (a2 : Int) (s0 : Int) : mm_ev mX9_patrol 6 17 [some (vR 0), some (vI a1), some (vI a2), none] [vI s0] h = if s0 = 0 then if 0 ≤ a2 then (mm_call mX4_the [vR 1, vI 9] h).bind (fun w => mm_ev mX9_patrol 6 61 [some (vR 0), some (vI a1), some (vI a2), some (vI s0)] (w.1 ++ [vI a2, vR 1, vR 4]) w.2) else (mm_call mX8_patrolsIn [vR 4, vR 1, vI 0] h).bind (fun w => mm_ev mX9_patrol 6 41 [some (vR 0), some (vI a1), some (vI a2), some (vI s0)] (w.1 ++ [vI 4]) w.2) else some ([vI s0], h) := (ev_istore_n 18 [some (vR 0), some (vI a1), some (vI a2), some (vI s0)] dX9_patrol_17 rfl rfl).trans ((ev_iload_n 19 dX9_patrol_18 rfl rfl).trans ((ev_if_eq 24 22 dX9_patrol_19 rfl rfl).trans (mm_ite ((ev_iload_n 25 dX9_patrol_24 rfl rfl).trans ((ev_if_ge 43 28 dX9_patrol_25 rfl rfl).trans (mm_ite ((ev_aload_n 44 dX9_patrol_43 rfl rfl).trans ((ev_getF 47 4 dX9_patrol_44 fl_9_33 oc0 ak0 rfl rf_0_3 rfl).trans ((ev_aload_n 48 dX9_patrol_47 rfl rfl).trans ((ev_getF 51 1 dX9_patrol_48 fl_9_10 oc0 ak0 rfl rf_0_0 rfl).trans ((ev_iload_n 52 dX9_patrol_51 rfl rfl).trans ((ev_aload_n 53 dX9_patrol_52 rfl rfl).trans ((ev_getF 56 1 dX9_patrol_53 fl_9_10 oc0 ak0 rfl rf_0_0 rfl).trans ((ev_bipush 58 (v := 9) dX9_patrol_56 rfl rfl).trans ((ev_callv mX4_the [vR 1, vI 9] [vI a2, vR 1, vR 4] 61 dX9_patrol_58 ml_9_123 k42 rfl oc1 ak1 rfl rfl (Nat.le_of_ble_eq_true rfl) (Nat.le_of_ble_eq_true rfl) rfl).trans (if_pos (show 1 < 6 from by decide))))))))))) ((ev_iconst 29 (v := 4) dX9_patrol_28 rfl rfl).trans ((ev_aload_n 30 dX9_patrol_29 rfl rfl).trans ((ev_getF 33 4 dX9_patrol_30 fl_9_33 oc0 ak0 rfl rf_0_3 rfl).trans ((ev_aload_n 34 dX9_patrol_33 rfl rfl).trans ((ev_getF 37 1 dX9_patrol_34 fl_9_10 oc0 ak0 rfl rf_0_0 rfl).trans ((ev_iconst 38 (v := 0) dX9_patrol_37 rfl rfl).trans ((ev_callv mX8_patrolsIn [vR 4, vR 1, vI 0] [vI 4] 41 dX9_patrol_38 ml_9_161 k85 rfl oc4 ak4 rfl rfl (Nat.le_of_ble_eq_true rfl) (Nat.le_of_ble_eq_true rfl) rfl).trans (if_pos (show 5 < 6 from by decide)))))))))))) ((ev_iload_n 23 dX9_patrol_22 rfl rfl).trans (ev_iret dX9_patrol_23 rfl)))))
theorem X9_patrol_41 (h : mm_M) (a1 : Int) (a2 : Int) (a3 : Int) (s0 : Int) (s1 : Int) : mm_ev mX9_patrol 6 41 [some (vR 0), some (vI a1), some (vI a2), some (vI a3)] [vI s0, vI s1] h = some ([vI (w32 (s1 - s0))], h) := (ev_isub 42 dX9_patrol_41 rfl).trans (ev_iret dX9_patrol_42 rfl)
theorem X9_patrol_61 (h : mm_M) (a1 : Int) (a2 : Int) (a3 : Int) (s0 : Int) (s1 : Int) : mm_ev mX9_patrol 6 61 [some (vR 0), some (vI a1), some (vI a2), some (vI a3)] [vI s0, vI s1, vR 1, vR 4] h = (mm_call mX8_goesIn [vR 4, vR 1, vI s1, vI s0] h).bind (fun w => mm_ev mX9_patrol 6 64 [some (vR 0), some (vI a1), some (vI a2), some (vI a3)] (w.1 ++ []) w.2) := (ev_callv mX8_goesIn [vR 4, vR 1, vI s1, vI s0] [] 64 dX9_patrol_61 ml_9_164 k83 rfl oc4 ak4 rfl rfl (Nat.le_of_ble_eq_true rfl) (Nat.le_of_ble_eq_true rfl) rfl).trans (if_pos (show 4 < 6 from by decide))
theorem X9_patrol_64 (h : mm_M) (a1 : Int) (a2 : Int) (a3 : Int) (s0 : Int) : mm_ev mX9_patrol 6 64 [some (vR 0), some (vI a1), some (vI a2), some (vI a3)] [vI s0] h = if s0 = 0 then some ([vI 0], h) else some ([vI 1], h) := (ev_if_eq 71 67 dX9_patrol_64 rfl rfl).trans (mm_ite ((ev_iconst 72 (v := 0) dX9_patrol_71 rfl rfl).trans (ev_iret dX9_patrol_72 rfl)) ((ev_iconst 68 (v := 1) dX9_patrol_67 rfl rfl).trans ((ev_goto 72 dX9_patrol_68 rfl).trans (ev_iret dX9_patrol_72 rfl))))
theorem dX9_letsIn_0 : decode mX9_letsIn.1 0 = .ok (.aload_n 0, 1) := by decide +kernel
theorem dX9_letsIn_1 : decode mX9_letsIn.1 1 = .ok (.iload_n 2, 1) := by decide +kernel
theorem dX9_letsIn_2 : decode mX9_letsIn.1 2 = .ok (.invokevirtual 154, 3) := by decide +kernel
theorem dX9_letsIn_5 : decode mX9_letsIn.1 5 = .ok (.ifCond .ne 5, 3) := by decide +kernel
theorem dX9_letsIn_8 : decode mX9_letsIn.1 8 = .ok (.iconst (-1), 1) := by decide +kernel
theorem dX9_letsIn_9 : decode mX9_letsIn.1 9 = .ok (.ireturn, 1) := by decide +kernel
theorem dX9_letsIn_10 : decode mX9_letsIn.1 10 = .ok (.aload_n 0, 1) := by decide +kernel
theorem dX9_letsIn_11 : decode mX9_letsIn.1 11 = .ok (.iload_n 1, 1) := by decide +kernel
theorem dX9_letsIn_12 : decode mX9_letsIn.1 12 = .ok (.invokevirtual 130, 3) := by decide +kernel
theorem dX9_letsIn_15 : decode mX9_letsIn.1 15 = .ok (.istore_n 3, 1) := by decide +kernel
theorem dX9_letsIn_16 : decode mX9_letsIn.1 16 = .ok (.iload_n 3, 1) := by decide +kernel
theorem dX9_letsIn_17 : decode mX9_letsIn.1 17 = .ok (.ifCond .eq 7, 3) := by decide +kernel
theorem dX9_letsIn_20 : decode mX9_letsIn.1 20 = .ok (.iload_n 3, 1) := by decide +kernel
theorem dX9_letsIn_21 : decode mX9_letsIn.1 21 = .ok (.goto 24, 3) := by decide +kernel
theorem dX9_letsIn_24 : decode mX9_letsIn.1 24 = .ok (.aload_n 0, 1) := by decide +kernel
theorem dX9_letsIn_25 : decode mX9_letsIn.1 25 = .ok (.getfield 33, 3) := by decide +kernel
theorem dX9_letsIn_28 : decode mX9_letsIn.1 28 = .ok (.aload_n 0, 1) := by decide +kernel
theorem dX9_letsIn_29 : decode mX9_letsIn.1 29 = .ok (.getfield 10, 3) := by decide +kernel
theorem dX9_letsIn_32 : decode mX9_letsIn.1 32 = .ok (.iload_n 2, 1) := by decide +kernel
theorem dX9_letsIn_33 : decode mX9_letsIn.1 33 = .ok (.sipush 1000, 3) := by decide +kernel
theorem dX9_letsIn_36 : decode mX9_letsIn.1 36 = .ok (.idiv, 1) := by decide +kernel
theorem dX9_letsIn_37 : decode mX9_letsIn.1 37 = .ok (.iload_n 2, 1) := by decide +kernel
theorem dX9_letsIn_38 : decode mX9_letsIn.1 38 = .ok (.sipush 1000, 3) := by decide +kernel
theorem dX9_letsIn_41 : decode mX9_letsIn.1 41 = .ok (.irem, 1) := by decide +kernel
theorem dX9_letsIn_42 : decode mX9_letsIn.1 42 = .ok (.invokevirtual 157, 3) := by decide +kernel
theorem dX9_letsIn_45 : decode mX9_letsIn.1 45 = .ok (.ireturn, 1) := by decide +kernel
theorem X9_letsIn_0 (h : mm_M) (a1 : Int) (a2 : Int) : mm_ev mX9_letsIn 6 0 [some (vR 0), some (vI a1), some (vI a2), none] [] h = (mm_call mX9_isPlaceAndMinute [vR 0, vI a2] h).bind (fun w => mm_ev mX9_letsIn 6 5 [some (vR 0), some (vI a1), some (vI a2), none] (w.1 ++ []) w.2) := (ev_aload_n 1 dX9_letsIn_0 rfl rfl).trans ((ev_iload_n 2 dX9_letsIn_1 rfl rfl).trans ((ev_callv mX9_isPlaceAndMinute [vR 0, vI a2] [] 5 dX9_letsIn_2 ml_9_154 k133 rfl oc0 ak0 rfl rfl (Nat.le_of_ble_eq_true rfl) (Nat.le_of_ble_eq_true rfl) rfl).trans (if_pos (show 2 < 6 from by decide))))
theorem X9_letsIn_c (h : mm_M) (a1 : Int) (a2 : Int) : mm_call mX9_letsIn [vR 0, vI a1, vI a2] h = (mm_call mX9_isPlaceAndMinute [vR 0, vI a2] h).bind (fun w => mm_ev mX9_letsIn 6 5 [some (vR 0), some (vI a1), some (vI a2), none] (w.1 ++ []) w.2) := X9_letsIn_0 h a1 a2
theorem X9_letsIn_5 (h : mm_M) (a1 : Int) (a2 : Int) (s0 : Int) : mm_ev mX9_letsIn 6 5 [some (vR 0), some (vI a1), some (vI a2), none] [vI s0] h = if ¬ s0 = 0 then (mm_call mX9_layOut [vR 0, vI a1] h).bind (fun w => mm_ev mX9_letsIn 6 15 [some (vR 0), some (vI a1), some (vI a2), none] (w.1 ++ []) w.2) else some ([vI (-1)], h) := (ev_if_ne 10 8 dX9_letsIn_5 rfl rfl).trans (mm_ite ((ev_aload_n 11 dX9_letsIn_10 rfl rfl).trans ((ev_iload_n 12 dX9_letsIn_11 rfl rfl).trans ((ev_callv mX9_layOut [vR 0, vI a1] [] 15 dX9_letsIn_12 ml_9_130 k135 rfl oc0 ak0 rfl rfl (Nat.le_of_ble_eq_true rfl) (Nat.le_of_ble_eq_true rfl) rfl).trans (if_pos (show 5 < 6 from by decide))))) ((ev_iconst 9 (v := (-1)) dX9_letsIn_8 rfl rfl).trans (ev_iret dX9_letsIn_9 rfl)))
theorem X9_letsIn_15 (h : mm_M) (a1 : Int) (a2 : Int) (s0 : Int) : mm_ev mX9_letsIn 6 15 [some (vR 0), some (vI a1), some (vI a2), none] [vI s0] h = if s0 = 0 then (mm_call mX8_lets [vR 4, vR 1, vI (w32 (a2.tdiv 1000)), vI (a2.tmod 1000)] h).bind (fun w => mm_ev mX9_letsIn 6 45 [some (vR 0), some (vI a1), some (vI a2), some (vI s0)] (w.1 ++ []) w.2) else mm_ev mX9_letsIn 6 45 [some (vR 0), some (vI a1), some (vI a2), some (vI s0)] [vI s0] h := (ev_istore_n 16 [some (vR 0), some (vI a1), some (vI a2), some (vI s0)] dX9_letsIn_15 rfl rfl).trans ((ev_iload_n 17 dX9_letsIn_16 rfl rfl).trans ((ev_if_eq 24 20 dX9_letsIn_17 rfl rfl).trans (mm_ite ((ev_aload_n 25 dX9_letsIn_24 rfl rfl).trans ((ev_getF 28 4 dX9_letsIn_25 fl_9_33 oc0 ak0 rfl rf_0_3 rfl).trans ((ev_aload_n 29 dX9_letsIn_28 rfl rfl).trans ((ev_getF 32 1 dX9_letsIn_29 fl_9_10 oc0 ak0 rfl rf_0_0 rfl).trans ((ev_iload_n 33 dX9_letsIn_32 rfl rfl).trans ((ev_sipush 36 (v := 1000) dX9_letsIn_33 rfl rfl).trans (((ev_idiv 37 dX9_letsIn_36 rfl).trans (if_neg (by decide))).trans ((ev_iload_n 38 dX9_letsIn_37 rfl rfl).trans ((ev_sipush 41 (v := 1000) dX9_letsIn_38 rfl rfl).trans (((ev_irem 42 dX9_letsIn_41 rfl).trans (if_neg (by decide))).trans ((ev_callv mX8_lets [vR 4, vR 1, vI (w32 (a2.tdiv 1000)), vI (a2.tmod 1000)] [] 45 dX9_letsIn_42 ml_9_157 k81 rfl oc4 ak4 rfl rfl (Nat.le_of_ble_eq_true rfl) (Nat.le_of_ble_eq_true rfl) rfl).trans (if_pos (show 3 < 6 from by decide))))))))))))) ((ev_iload_n 21 dX9_letsIn_20 rfl rfl).trans (ev_goto 45 dX9_letsIn_21 rfl)))))
theorem X9_letsIn_45 (h : mm_M) (a1 : Int) (a2 : Int) (a3 : Int) (s0 : Int) : mm_ev mX9_letsIn 6 45 [some (vR 0), some (vI a1), some (vI a2), some (vI a3)] [vI s0] h = some ([vI s0], h) := ev_iret dX9_letsIn_45 rfl
theorem dX9_route_0 : decode mX9_route.1 0 = .ok (.iload_n 1, 1) := by decide +kernel
theorem dX9_route_1 : decode mX9_route.1 1 = .ok (.ifCond .lt 13, 3) := by decide +kernel
theorem dX9_route_4 : decode mX9_route.1 4 = .ok (.iload_n 1, 1) := by decide +kernel
theorem dX9_route_5 : decode mX9_route.1 5 = .ok (.iconst 1, 1) := by decide +kernel
theorem dX9_route_6 : decode mX9_route.1 6 = .ok (.if_icmp .gt 8, 3) := by decide +kernel
theorem dX9_route_9 : decode mX9_route.1 9 = .ok (.iload_n 2, 1) := by decide +kernel
theorem dX9_route_10 : decode mX9_route.1 10 = .ok (.iconst (-1), 1) := by decide +kernel
theorem dX9_route_11 : decode mX9_route.1 11 = .ok (.if_icmp .ge 5, 3) := by decide +kernel
theorem dX9_route_14 : decode mX9_route.1 14 = .ok (.iconst (-1), 1) := by decide +kernel
theorem dX9_route_15 : decode mX9_route.1 15 = .ok (.ireturn, 1) := by decide +kernel
theorem dX9_route_16 : decode mX9_route.1 16 = .ok (.iload_n 2, 1) := by decide +kernel
theorem dX9_route_17 : decode mX9_route.1 17 = .ok (.aload_n 0, 1) := by decide +kernel
theorem dX9_route_18 : decode mX9_route.1 18 = .ok (.getfield 10, 3) := by decide +kernel
theorem dX9_route_21 : decode mX9_route.1 21 = .ok (.getfield 79, 3) := by decide +kernel
theorem dX9_route_24 : decode mX9_route.1 24 = .ok (.iconst 1, 1) := by decide +kernel
theorem dX9_route_25 : decode mX9_route.1 25 = .ok (.isub, 1) := by decide +kernel
theorem dX9_route_26 : decode mX9_route.1 26 = .ok (.if_icmp .lt 10, 3) := by decide +kernel
theorem dX9_route_29 : decode mX9_route.1 29 = .ok (.iload_n 2, 1) := by decide +kernel
theorem dX9_route_30 : decode mX9_route.1 30 = .ok (.ifCond .lt 6, 3) := by decide +kernel
theorem dX9_route_33 : decode mX9_route.1 33 = .ok (.bipush (-2), 2) := by decide +kernel
theorem dX9_route_35 : decode mX9_route.1 35 = .ok (.ireturn, 1) := by decide +kernel
theorem dX9_route_36 : decode mX9_route.1 36 = .ok (.aload_n 0, 1) := by decide +kernel
theorem dX9_route_37 : decode mX9_route.1 37 = .ok (.getfield 57, 3) := by decide +kernel
theorem dX9_route_40 : decode mX9_route.1 40 = .ok (.aload_n 0, 1) := by decide +kernel
theorem dX9_route_41 : decode mX9_route.1 41 = .ok (.getfield 10, 3) := by decide +kernel
theorem dX9_route_44 : decode mX9_route.1 44 = .ok (.iload_n 1, 1) := by decide +kernel
theorem dX9_route_45 : decode mX9_route.1 45 = .ok (.invokevirtual 144, 3) := by decide +kernel
theorem dX9_route_48 : decode mX9_route.1 48 = .ok (.iload_n 2, 1) := by decide +kernel
theorem dX9_route_49 : decode mX9_route.1 49 = .ok (.ifCond .ge 13, 3) := by decide +kernel
theorem dX9_route_52 : decode mX9_route.1 52 = .ok (.aload_n 0, 1) := by decide +kernel
theorem dX9_route_53 : decode mX9_route.1 53 = .ok (.getfield 57, 3) := by decide +kernel
theorem dX9_route_56 : decode mX9_route.1 56 = .ok (.getfield 148, 3) := by decide +kernel
theorem dX9_route_59 : decode mX9_route.1 59 = .ok (.goto 12, 3) := by decide +kernel
theorem dX9_route_62 : decode mX9_route.1 62 = .ok (.aload_n 0, 1) := by decide +kernel
theorem dX9_route_63 : decode mX9_route.1 63 = .ok (.getfield 57, 3) := by decide +kernel
theorem dX9_route_66 : decode mX9_route.1 66 = .ok (.getfield 151, 3) := by decide +kernel
theorem dX9_route_69 : decode mX9_route.1 69 = .ok (.iload_n 2, 1) := by decide +kernel
theorem dX9_route_70 : decode mX9_route.1 70 = .ok (.iaload, 1) := by decide +kernel
theorem dX9_route_71 : decode mX9_route.1 71 = .ok (.ireturn, 1) := by decide +kernel
theorem X9_route_0 (h : mm_M) (a1 : Int) (a2 : Int) : mm_ev mX9_route 22 0 [some (vR 0), some (vI a1), some (vI a2)] [] h = if a1 < 0 then some ([vI (-1)], h) else if 1 < a1 then some ([vI (-1)], h) else if (-1) ≤ a2 then if a2 < (w32 ((h 1 1) - 1)) then mm_ev mX9_route 22 36 [some (vR 0), some (vI a1), some (vI a2)] [] h else if a2 < 0 then mm_ev mX9_route 22 36 [some (vR 0), some (vI a1), some (vI a2)] [] h else some ([vI (-2)], h) else some ([vI (-1)], h) := (ev_iload_n 1 dX9_route_0 rfl rfl).trans ((ev_if_lt 14 4 dX9_route_1 rfl rfl).trans (mm_ite ((ev_iconst 15 (v := (-1)) dX9_route_14 rfl rfl).trans (ev_iret dX9_route_15 rfl)) ((ev_iload_n 5 dX9_route_4 rfl rfl).trans ((ev_iconst 6 (v := 1) dX9_route_5 rfl rfl).trans ((ev_ic_gt 14 9 dX9_route_6 rfl rfl).trans (mm_ite ((ev_iconst 15 (v := (-1)) dX9_route_14 rfl rfl).trans (ev_iret dX9_route_15 rfl)) ((ev_iload_n 10 dX9_route_9 rfl rfl).trans ((ev_iconst 11 (v := (-1)) dX9_route_10 rfl rfl).trans ((ev_ic_ge 16 14 dX9_route_11 rfl rfl).trans (mm_ite ((ev_iload_n 17 dX9_route_16 rfl rfl).trans ((ev_aload_n 18 dX9_route_17 rfl rfl).trans ((ev_getF 21 1 dX9_route_18 fl_9_10 oc0 ak0 rfl rf_0_0 rfl).trans ((ev_getI 24 1 dX9_route_21 fl_9_79 oc1 ak1 (by decide) rfl rfl).trans ((ev_iconst 25 (v := 1) dX9_route_24 rfl rfl).trans ((ev_isub 26 dX9_route_25 rfl).trans ((ev_ic_lt 36 29 dX9_route_26 rfl rfl).trans (mm_ite (rfl) ((ev_iload_n 30 dX9_route_29 rfl rfl).trans ((ev_if_lt 36 33 dX9_route_30 rfl rfl).trans (mm_ite (rfl) ((ev_bipush 35 (v := (-2)) dX9_route_33 rfl rfl).trans (ev_iret dX9_route_35 rfl))))))))))))) ((ev_iconst 15 (v := (-1)) dX9_route_14 rfl rfl).trans (ev_iret dX9_route_15 rfl))))))))))))
theorem X9_route_c (h : mm_M) (a1 : Int) (a2 : Int) : mm_call mX9_route [vR 0, vI a1, vI a2] h = if a1 < 0 then some ([vI (-1)], h) else if 1 < a1 then some ([vI (-1)], h) else if (-1) ≤ a2 then if a2 < (w32 ((h 1 1) - 1)) then mm_ev mX9_route 22 36 [some (vR 0), some (vI a1), some (vI a2)] [] h else if a2 < 0 then mm_ev mX9_route 22 36 [some (vR 0), some (vI a1), some (vI a2)] [] h else some ([vI (-2)], h) else some ([vI (-1)], h) := X9_route_0 h a1 a2
theorem X9_route_36 (h : mm_M) (a1 : Int) (a2 : Int) : mm_ev mX9_route 22 36 [some (vR 0), some (vI a1), some (vI a2)] [] h = (mm_call mX6_findBest [vR 8, vR 1, vI a1] h).bind (fun w => mm_ev mX9_route 22 48 [some (vR 0), some (vI a1), some (vI a2)] (w.1 ++ []) w.2) := (ev_aload_n 37 dX9_route_36 rfl rfl).trans ((ev_getF 40 8 dX9_route_37 fl_9_57 oc0 ak0 rfl rf_0_7 rfl).trans ((ev_aload_n 41 dX9_route_40 rfl rfl).trans ((ev_getF 44 1 dX9_route_41 fl_9_10 oc0 ak0 rfl rf_0_0 rfl).trans ((ev_iload_n 45 dX9_route_44 rfl rfl).trans ((ev_callv mX6_findBest [vR 8, vR 1, vI a1] [] 48 dX9_route_45 ml_9_144 k57 rfl oc8 ak8 rfl rfl (Nat.le_of_ble_eq_true rfl) (Nat.le_of_ble_eq_true rfl) rfl).trans (if_pos (show 21 < 22 from by decide)))))))
theorem X9_route_48 (h : mm_M) (a1 : Int) (a2 : Int) : mm_ev mX9_route 22 48 [some (vR 0), some (vI a1), some (vI a2)] [] h = if 0 ≤ a2 then if 0 ≤ a2 ∧ a2 < 6 then some ([vI (h 34 a2)], h) else none else some ([vI (h 8 0)], h) := (ev_iload_n 49 dX9_route_48 rfl rfl).trans ((ev_if_ge 62 52 dX9_route_49 rfl rfl).trans (mm_ite ((ev_aload_n 63 dX9_route_62 rfl rfl).trans ((ev_getF 66 8 dX9_route_63 fl_9_57 oc0 ak0 rfl rf_0_7 rfl).trans ((ev_getF 69 34 dX9_route_66 fl_9_151 oc8 ak8 rfl rf_8_1 rfl).trans ((ev_iload_n 70 dX9_route_69 rfl rfl).trans ((ev_iald 71 6 dX9_route_70 ak34 an34 rfl).trans (mm_ite (ev_iret dX9_route_71 rfl) (rfl))))))) ((ev_aload_n 53 dX9_route_52 rfl rfl).trans ((ev_getF 56 8 dX9_route_53 fl_9_57 oc0 ak0 rfl rf_0_7 rfl).trans ((ev_getI 59 0 dX9_route_56 fl_9_148 oc8 ak8 (by decide) rfl rfl).trans ((ev_goto 71 dX9_route_59 rfl).trans (ev_iret dX9_route_71 rfl)))))))
theorem dX9_hears_0 : decode mX9_hears.1 0 = .ok (.iload_n 2, 1) := by decide +kernel
theorem dX9_hears_1 : decode mX9_hears.1 1 = .ok (.bipush (-2), 2) := by decide +kernel
theorem dX9_hears_3 : decode mX9_hears.1 3 = .ok (.if_icmp .lt 14, 3) := by decide +kernel
theorem dX9_hears_6 : decode mX9_hears.1 6 = .ok (.iload_n 2, 1) := by decide +kernel
theorem dX9_hears_7 : decode mX9_hears.1 7 = .ok (.aload_n 0, 1) := by decide +kernel
theorem dX9_hears_8 : decode mX9_hears.1 8 = .ok (.getfield 10, 3) := by decide +kernel
theorem dX9_hears_11 : decode mX9_hears.1 11 = .ok (.getfield 79, 3) := by decide +kernel
theorem dX9_hears_14 : decode mX9_hears.1 14 = .ok (.if_icmp .lt 5, 3) := by decide +kernel
theorem dX9_hears_17 : decode mX9_hears.1 17 = .ok (.iconst (-1), 1) := by decide +kernel
theorem dX9_hears_18 : decode mX9_hears.1 18 = .ok (.ireturn, 1) := by decide +kernel
theorem dX9_hears_19 : decode mX9_hears.1 19 = .ok (.aload_n 0, 1) := by decide +kernel
theorem dX9_hears_20 : decode mX9_hears.1 20 = .ok (.iload_n 1, 1) := by decide +kernel
theorem dX9_hears_21 : decode mX9_hears.1 21 = .ok (.invokevirtual 130, 3) := by decide +kernel
theorem dX9_hears_24 : decode mX9_hears.1 24 = .ok (.istore_n 3, 1) := by decide +kernel
theorem dX9_hears_25 : decode mX9_hears.1 25 = .ok (.iload_n 3, 1) := by decide +kernel
theorem dX9_hears_26 : decode mX9_hears.1 26 = .ok (.ifCond .eq 5, 3) := by decide +kernel
theorem dX9_hears_29 : decode mX9_hears.1 29 = .ok (.iload_n 3, 1) := by decide +kernel
theorem dX9_hears_30 : decode mX9_hears.1 30 = .ok (.ireturn, 1) := by decide +kernel
theorem dX9_hears_31 : decode mX9_hears.1 31 = .ok (.iload_n 2, 1) := by decide +kernel
theorem dX9_hears_32 : decode mX9_hears.1 32 = .ok (.iconst (-1), 1) := by decide +kernel
theorem dX9_hears_33 : decode mX9_hears.1 33 = .ok (.if_icmp .ne 21, 3) := by decide +kernel
theorem dX9_hears_36 : decode mX9_hears.1 36 = .ok (.aload_n 0, 1) := by decide +kernel
theorem dX9_hears_37 : decode mX9_hears.1 37 = .ok (.getfield 10, 3) := by decide +kernel
theorem dX9_hears_40 : decode mX9_hears.1 40 = .ok (.bipush 10, 2) := by decide +kernel
theorem dX9_hears_42 : decode mX9_hears.1 42 = .ok (.invokevirtual 123, 3) := by decide +kernel
theorem dX9_hears_45 : decode mX9_hears.1 45 = .ok (.aload_n 0, 1) := by decide +kernel
theorem dX9_hears_46 : decode mX9_hears.1 46 = .ok (.getfield 33, 3) := by decide +kernel
theorem dX9_hears_49 : decode mX9_hears.1 49 = .ok (.invokevirtual 133, 3) := by decide +kernel
theorem dX9_hears_52 : decode mX9_hears.1 52 = .ok (.iadd, 1) := by decide +kernel
theorem dX9_hears_53 : decode mX9_hears.1 53 = .ok (.ireturn, 1) := by decide +kernel
theorem dX9_hears_54 : decode mX9_hears.1 54 = .ok (.iload_n 2, 1) := by decide +kernel
theorem dX9_hears_55 : decode mX9_hears.1 55 = .ok (.bipush (-2), 2) := by decide +kernel
theorem dX9_hears_57 : decode mX9_hears.1 57 = .ok (.if_icmp .ne 11, 3) := by decide +kernel
theorem dX9_hears_60 : decode mX9_hears.1 60 = .ok (.aload_n 0, 1) := by decide +kernel
theorem dX9_hears_61 : decode mX9_hears.1 61 = .ok (.getfield 33, 3) := by decide +kernel
theorem dX9_hears_64 : decode mX9_hears.1 64 = .ok (.invokevirtual 136, 3) := by decide +kernel
theorem dX9_hears_67 : decode mX9_hears.1 67 = .ok (.ireturn, 1) := by decide +kernel
theorem dX9_hears_68 : decode mX9_hears.1 68 = .ok (.aload_n 0, 1) := by decide +kernel
theorem dX9_hears_69 : decode mX9_hears.1 69 = .ok (.getfield 33, 3) := by decide +kernel
theorem dX9_hears_72 : decode mX9_hears.1 72 = .ok (.aload_n 0, 1) := by decide +kernel
theorem dX9_hears_73 : decode mX9_hears.1 73 = .ok (.getfield 10, 3) := by decide +kernel
theorem dX9_hears_76 : decode mX9_hears.1 76 = .ok (.iload_n 2, 1) := by decide +kernel
theorem dX9_hears_77 : decode mX9_hears.1 77 = .ok (.invokevirtual 139, 3) := by decide +kernel
theorem dX9_hears_80 : decode mX9_hears.1 80 = .ok (.istore 4, 2) := by decide +kernel
theorem dX9_hears_82 : decode mX9_hears.1 82 = .ok (.iload 4, 2) := by decide +kernel
theorem dX9_hears_84 : decode mX9_hears.1 84 = .ok (.ldc 143, 2) := by decide +kernel
theorem dX9_hears_86 : decode mX9_hears.1 86 = .ok (.if_icmp .ne 8, 3) := by decide +kernel
theorem dX9_hears_89 : decode mX9_hears.1 89 = .ok (.bipush (-2), 2) := by decide +kernel
theorem dX9_hears_91 : decode mX9_hears.1 91 = .ok (.goto 5, 3) := by decide +kernel
theorem dX9_hears_94 : decode mX9_hears.1 94 = .ok (.iload 4, 2) := by decide +kernel
theorem dX9_hears_96 : decode mX9_hears.1 96 = .ok (.ireturn, 1) := by decide +kernel
theorem X9_hears_0 (h : mm_M) (a1 : Int) (a2 : Int) : mm_ev mX9_hears 6 0 [some (vR 0), some (vI a1), some (vI a2), none, none] [] h = if a2 < (-2) then some ([vI (-1)], h) else if a2 < (h 1 1) then (mm_call mX9_layOut [vR 0, vI a1] h).bind (fun w => mm_ev mX9_hears 6 24 [some (vR 0), some (vI a1), some (vI a2), none, none] (w.1 ++ []) w.2) else some ([vI (-1)], h) := (ev_iload_n 1 dX9_hears_0 rfl rfl).trans ((ev_bipush 3 (v := (-2)) dX9_hears_1 rfl rfl).trans ((ev_ic_lt 17 6 dX9_hears_3 rfl rfl).trans (mm_ite ((ev_iconst 18 (v := (-1)) dX9_hears_17 rfl rfl).trans (ev_iret dX9_hears_18 rfl)) ((ev_iload_n 7 dX9_hears_6 rfl rfl).trans ((ev_aload_n 8 dX9_hears_7 rfl rfl).trans ((ev_getF 11 1 dX9_hears_8 fl_9_10 oc0 ak0 rfl rf_0_0 rfl).trans ((ev_getI 14 1 dX9_hears_11 fl_9_79 oc1 ak1 (by decide) rfl rfl).trans ((ev_ic_lt 19 17 dX9_hears_14 rfl rfl).trans (mm_ite ((ev_aload_n 20 dX9_hears_19 rfl rfl).trans ((ev_iload_n 21 dX9_hears_20 rfl rfl).trans ((ev_callv mX9_layOut [vR 0, vI a1] [] 24 dX9_hears_21 ml_9_130 k135 rfl oc0 ak0 rfl rfl (Nat.le_of_ble_eq_true rfl) (Nat.le_of_ble_eq_true rfl) rfl).trans (if_pos (show 5 < 6 from by decide))))) ((ev_iconst 18 (v := (-1)) dX9_hears_17 rfl rfl).trans (ev_iret dX9_hears_18 rfl)))))))))))
theorem X9_hears_c (h : mm_M) (a1 : Int) (a2 : Int) : mm_call mX9_hears [vR 0, vI a1, vI a2] h = if a2 < (-2) then some ([vI (-1)], h) else if a2 < (h 1 1) then (mm_call mX9_layOut [vR 0, vI a1] h).bind (fun w => mm_ev mX9_hears 6 24 [some (vR 0), some (vI a1), some (vI a2), none, none] (w.1 ++ []) w.2) else some ([vI (-1)], h) := X9_hears_0 h a1 a2
theorem X9_hears_24 (h : mm_M) (a1 : Int) (a2 : Int) (s0 : Int) : mm_ev mX9_hears 6 24 [some (vR 0), some (vI a1), some (vI a2), none, none] [vI s0] h = if s0 = 0 then if ¬ a2 = (-1) then if ¬ a2 = (-2) then (mm_call mX8_hearing [vR 4, vR 1, vI a2] h).bind (fun w => mm_ev mX9_hears 6 80 [some (vR 0), some (vI a1), some (vI a2), some (vI s0), none] (w.1 ++ []) w.2) else (mm_call mX8_together [vR 4] h).bind (fun w => mm_ev mX9_hears 6 67 [some (vR 0), some (vI a1), some (vI a2), some (vI s0), none] (w.1 ++ []) w.2) else (mm_call mX4_the [vR 1, vI 10] h).bind (fun w => mm_ev mX9_hears 6 45 [some (vR 0), some (vI a1), some (vI a2), some (vI s0), none] (w.1 ++ []) w.2) else some ([vI s0], h) := (ev_istore_n 25 [some (vR 0), some (vI a1), some (vI a2), some (vI s0), none] dX9_hears_24 rfl rfl).trans ((ev_iload_n 26 dX9_hears_25 rfl rfl).trans ((ev_if_eq 31 29 dX9_hears_26 rfl rfl).trans (mm_ite ((ev_iload_n 32 dX9_hears_31 rfl rfl).trans ((ev_iconst 33 (v := (-1)) dX9_hears_32 rfl rfl).trans ((ev_ic_ne 54 36 dX9_hears_33 rfl rfl).trans (mm_ite ((ev_iload_n 55 dX9_hears_54 rfl rfl).trans ((ev_bipush 57 (v := (-2)) dX9_hears_55 rfl rfl).trans ((ev_ic_ne 68 60 dX9_hears_57 rfl rfl).trans (mm_ite ((ev_aload_n 69 dX9_hears_68 rfl rfl).trans ((ev_getF 72 4 dX9_hears_69 fl_9_33 oc0 ak0 rfl rf_0_3 rfl).trans ((ev_aload_n 73 dX9_hears_72 rfl rfl).trans ((ev_getF 76 1 dX9_hears_73 fl_9_10 oc0 ak0 rfl rf_0_0 rfl).trans ((ev_iload_n 77 dX9_hears_76 rfl rfl).trans ((ev_callv mX8_hearing [vR 4, vR 1, vI a2] [] 80 dX9_hears_77 ml_9_139 k80 rfl oc4 ak4 rfl rfl (Nat.le_of_ble_eq_true rfl) (Nat.le_of_ble_eq_true rfl) rfl).trans (if_pos (show 2 < 6 from by decide)))))))) ((ev_aload_n 61 dX9_hears_60 rfl rfl).trans ((ev_getF 64 4 dX9_hears_61 fl_9_33 oc0 ak0 rfl rf_0_3 rfl).trans ((ev_callv mX8_together [vR 4] [] 67 dX9_hears_64 ml_9_136 k78 rfl oc4 ak4 rfl rfl (Nat.le_of_ble_eq_true rfl) (Nat.le_of_ble_eq_true rfl) rfl).trans (if_pos (show 1 < 6 from by decide))))))))) ((ev_aload_n 37 dX9_hears_36 rfl rfl).trans ((ev_getF 40 1 dX9_hears_37 fl_9_10 oc0 ak0 rfl rf_0_0 rfl).trans ((ev_bipush 42 (v := 10) dX9_hears_40 rfl rfl).trans ((ev_callv mX4_the [vR 1, vI 10] [] 45 dX9_hears_42 ml_9_123 k42 rfl oc1 ak1 rfl rfl (Nat.le_of_ble_eq_true rfl) (Nat.le_of_ble_eq_true rfl) rfl).trans (if_pos (show 1 < 6 from by decide)))))))))) ((ev_iload_n 30 dX9_hears_29 rfl rfl).trans (ev_iret dX9_hears_30 rfl)))))
theorem X9_hears_45 (h : mm_M) (a1 : Int) (a2 : Int) (a3 : Int) (s0 : Int) : mm_ev mX9_hears 6 45 [some (vR 0), some (vI a1), some (vI a2), some (vI a3), none] [vI s0] h = (mm_call mX8_latest [vR 4] h).bind (fun w => mm_ev mX9_hears 6 52 [some (vR 0), some (vI a1), some (vI a2), some (vI a3), none] (w.1 ++ [vI s0]) w.2) := (ev_aload_n 46 dX9_hears_45 rfl rfl).trans ((ev_getF 49 4 dX9_hears_46 fl_9_33 oc0 ak0 rfl rf_0_3 rfl).trans ((ev_callv mX8_latest [vR 4] [vI s0] 52 dX9_hears_49 ml_9_133 k77 rfl oc4 ak4 rfl rfl (Nat.le_of_ble_eq_true rfl) (Nat.le_of_ble_eq_true rfl) rfl).trans (if_pos (show 1 < 6 from by decide))))
theorem X9_hears_52 (h : mm_M) (a1 : Int) (a2 : Int) (a3 : Int) (s0 : Int) (s1 : Int) : mm_ev mX9_hears 6 52 [some (vR 0), some (vI a1), some (vI a2), some (vI a3), none] [vI s0, vI s1] h = some ([vI (w32 (s1 + s0))], h) := (ev_iadd 53 dX9_hears_52 rfl).trans (ev_iret dX9_hears_53 rfl)
theorem X9_hears_67 (h : mm_M) (a1 : Int) (a2 : Int) (a3 : Int) (s0 : Int) : mm_ev mX9_hears 6 67 [some (vR 0), some (vI a1), some (vI a2), some (vI a3), none] [vI s0] h = some ([vI s0], h) := ev_iret dX9_hears_67 rfl
theorem X9_hears_80 (h : mm_M) (a1 : Int) (a2 : Int) (a3 : Int) (s0 : Int) : mm_ev mX9_hears 6 80 [some (vR 0), some (vI a1), some (vI a2), some (vI a3), none] [vI s0] h = if ¬ s0 = 1000000 then some ([vI s0], h) else some ([vI (-2)], h) := (ev_istore 82 [some (vR 0), some (vI a1), some (vI a2), some (vI a3), some (vI s0)] dX9_hears_80 rfl rfl).trans ((ev_iload 84 dX9_hears_82 rfl rfl).trans ((ev_ldc 86 dX9_hears_84 cI_9_143 rfl).trans ((ev_ic_ne 94 89 dX9_hears_86 rfl rfl).trans (mm_ite ((ev_iload 96 dX9_hears_94 rfl rfl).trans (ev_iret dX9_hears_96 rfl)) ((ev_bipush 91 (v := (-2)) dX9_hears_89 rfl rfl).trans ((ev_goto 96 dX9_hears_91 rfl).trans (ev_iret dX9_hears_96 rfl)))))))
theorem dX9_mishears_0 : decode mX9_mishears.1 0 = .ok (.iload_n 1, 1) := by decide +kernel
theorem dX9_mishears_1 : decode mX9_mishears.1 1 = .ok (.ifCond .lt 26, 3) := by decide +kernel
theorem dX9_mishears_4 : decode mX9_mishears.1 4 = .ok (.iload_n 1, 1) := by decide +kernel
theorem dX9_mishears_5 : decode mX9_mishears.1 5 = .ok (.bipush 10, 2) := by decide +kernel
theorem dX9_mishears_7 : decode mX9_mishears.1 7 = .ok (.irem, 1) := by decide +kernel
theorem dX9_mishears_8 : decode mX9_mishears.1 8 = .ok (.bipush 6, 2) := by decide +kernel
theorem dX9_mishears_10 : decode mX9_mishears.1 10 = .ok (.if_icmp .gt 17, 3) := by decide +kernel
theorem dX9_mishears_13 : decode mX9_mishears.1 13 = .ok (.aload_n 0, 1) := by decide +kernel
theorem dX9_mishears_14 : decode mX9_mishears.1 14 = .ok (.getfield 10, 3) := by decide +kernel
theorem dX9_mishears_17 : decode mX9_mishears.1 17 = .ok (.iload_n 1, 1) := by decide +kernel
theorem dX9_mishears_18 : decode mX9_mishears.1 18 = .ok (.bipush 10, 2) := by decide +kernel
theorem dX9_mishears_20 : decode mX9_mishears.1 20 = .ok (.idiv, 1) := by decide +kernel
theorem dX9_mishears_21 : decode mX9_mishears.1 21 = .ok (.invokevirtual 101, 3) := by decide +kernel
theorem dX9_mishears_24 : decode mX9_mishears.1 24 = .ok (.ifCond .ne 5, 3) := by decide +kernel
theorem dX9_mishears_27 : decode mX9_mishears.1 27 = .ok (.iconst (-1), 1) := by decide +kernel
theorem dX9_mishears_28 : decode mX9_mishears.1 28 = .ok (.ireturn, 1) := by decide +kernel
theorem dX9_mishears_29 : decode mX9_mishears.1 29 = .ok (.aload_n 0, 1) := by decide +kernel
theorem dX9_mishears_30 : decode mX9_mishears.1 30 = .ok (.getfield 19, 3) := by decide +kernel
theorem dX9_mishears_33 : decode mX9_mishears.1 33 = .ok (.aload_n 0, 1) := by decide +kernel
theorem dX9_mishears_34 : decode mX9_mishears.1 34 = .ok (.getfield 10, 3) := by decide +kernel
theorem dX9_mishears_37 : decode mX9_mishears.1 37 = .ok (.aload_n 0, 1) := by decide +kernel
theorem dX9_mishears_38 : decode mX9_mishears.1 38 = .ok (.getfield 10, 3) := by decide +kernel
theorem dX9_mishears_41 : decode mX9_mishears.1 41 = .ok (.bipush 9, 2) := by decide +kernel
theorem dX9_mishears_43 : decode mX9_mishears.1 43 = .ok (.invokevirtual 123, 3) := by decide +kernel
theorem dX9_mishears_46 : decode mX9_mishears.1 46 = .ok (.iload_n 1, 1) := by decide +kernel
theorem dX9_mishears_47 : decode mX9_mishears.1 47 = .ok (.bipush 10, 2) := by decide +kernel
theorem dX9_mishears_49 : decode mX9_mishears.1 49 = .ok (.idiv, 1) := by decide +kernel
theorem dX9_mishears_50 : decode mX9_mishears.1 50 = .ok (.iload_n 1, 1) := by decide +kernel
theorem dX9_mishears_51 : decode mX9_mishears.1 51 = .ok (.bipush 10, 2) := by decide +kernel
theorem dX9_mishears_53 : decode mX9_mishears.1 53 = .ok (.irem, 1) := by decide +kernel
theorem dX9_mishears_54 : decode mX9_mishears.1 54 = .ok (.invokevirtual 126, 3) := by decide +kernel
theorem dX9_mishears_57 : decode mX9_mishears.1 57 = .ok (.ireturn, 1) := by decide +kernel
theorem X9_mishears_0 (h : mm_M) (a1 : Int) : mm_ev mX9_mishears 5 0 [some (vR 0), some (vI a1)] [] h = if a1 < 0 then some ([vI (-1)], h) else if 6 < (a1.tmod 10) then some ([vI (-1)], h) else (mm_call mX4_isPost [vR 1, vI (w32 (a1.tdiv 10))] h).bind (fun w => mm_ev mX9_mishears 5 24 [some (vR 0), some (vI a1)] (w.1 ++ []) w.2) := (ev_iload_n 1 dX9_mishears_0 rfl rfl).trans ((ev_if_lt 27 4 dX9_mishears_1 rfl rfl).trans (mm_ite ((ev_iconst 28 (v := (-1)) dX9_mishears_27 rfl rfl).trans (ev_iret dX9_mishears_28 rfl)) ((ev_iload_n 5 dX9_mishears_4 rfl rfl).trans ((ev_bipush 7 (v := 10) dX9_mishears_5 rfl rfl).trans (((ev_irem 8 dX9_mishears_7 rfl).trans (if_neg (by decide))).trans ((ev_bipush 10 (v := 6) dX9_mishears_8 rfl rfl).trans ((ev_ic_gt 27 13 dX9_mishears_10 rfl rfl).trans (mm_ite ((ev_iconst 28 (v := (-1)) dX9_mishears_27 rfl rfl).trans (ev_iret dX9_mishears_28 rfl)) ((ev_aload_n 14 dX9_mishears_13 rfl rfl).trans ((ev_getF 17 1 dX9_mishears_14 fl_9_10 oc0 ak0 rfl rf_0_0 rfl).trans ((ev_iload_n 18 dX9_mishears_17 rfl rfl).trans ((ev_bipush 20 (v := 10) dX9_mishears_18 rfl rfl).trans (((ev_idiv 21 dX9_mishears_20 rfl).trans (if_neg (by decide))).trans ((ev_callv mX4_isPost [vR 1, vI (w32 (a1.tdiv 10))] [] 24 dX9_mishears_21 ml_9_101 k43 rfl oc1 ak1 rfl rfl (Nat.le_of_ble_eq_true rfl) (Nat.le_of_ble_eq_true rfl) rfl).trans (if_pos (show 1 < 5 from by decide))))))))))))))))
theorem X9_mishears_c (h : mm_M) (a1 : Int) : mm_call mX9_mishears [vR 0, vI a1] h = if a1 < 0 then some ([vI (-1)], h) else if 6 < (a1.tmod 10) then some ([vI (-1)], h) else (mm_call mX4_isPost [vR 1, vI (w32 (a1.tdiv 10))] h).bind (fun w => mm_ev mX9_mishears 5 24 [some (vR 0), some (vI a1)] (w.1 ++ []) w.2) := X9_mishears_0 h a1
theorem X9_mishears_24 (h : mm_M) (a1 : Int) (s0 : Int) : mm_ev mX9_mishears 5 24 [some (vR 0), some (vI a1)] [vI s0] h = if ¬ s0 = 0 then (mm_call mX4_the [vR 1, vI 9] h).bind (fun w => mm_ev mX9_mishears 5 46 [some (vR 0), some (vI a1)] (w.1 ++ [vR 1, vR 2]) w.2) else some ([vI (-1)], h) := (ev_if_ne 29 27 dX9_mishears_24 rfl rfl).trans (mm_ite ((ev_aload_n 30 dX9_mishears_29 rfl rfl).trans ((ev_getF 33 2 dX9_mishears_30 fl_9_19 oc0 ak0 rfl rf_0_1 rfl).trans ((ev_aload_n 34 dX9_mishears_33 rfl rfl).trans ((ev_getF 37 1 dX9_mishears_34 fl_9_10 oc0 ak0 rfl rf_0_0 rfl).trans ((ev_aload_n 38 dX9_mishears_37 rfl rfl).trans ((ev_getF 41 1 dX9_mishears_38 fl_9_10 oc0 ak0 rfl rf_0_0 rfl).trans ((ev_bipush 43 (v := 9) dX9_mishears_41 rfl rfl).trans ((ev_callv mX4_the [vR 1, vI 9] [vR 1, vR 2] 46 dX9_mishears_43 ml_9_123 k42 rfl oc1 ak1 rfl rfl (Nat.le_of_ble_eq_true rfl) (Nat.le_of_ble_eq_true rfl) rfl).trans (if_pos (show 1 < 5 from by decide)))))))))) ((ev_iconst 28 (v := (-1)) dX9_mishears_27 rfl rfl).trans (ev_iret dX9_mishears_28 rfl)))
theorem X9_mishears_46 (h : mm_M) (a1 : Int) (s0 : Int) : mm_ev mX9_mishears 5 46 [some (vR 0), some (vI a1)] [vI s0, vR 1, vR 2] h = (mm_call mX3_mishearing [vR 2, vR 1, vI s0, vI (w32 (a1.tdiv 10)), vI (a1.tmod 10)] h).bind (fun w => mm_ev mX9_mishears 5 57 [some (vR 0), some (vI a1)] (w.1 ++ []) w.2) := (ev_iload_n 47 dX9_mishears_46 rfl rfl).trans ((ev_bipush 49 (v := 10) dX9_mishears_47 rfl rfl).trans (((ev_idiv 50 dX9_mishears_49 rfl).trans (if_neg (by decide))).trans ((ev_iload_n 51 dX9_mishears_50 rfl rfl).trans ((ev_bipush 53 (v := 10) dX9_mishears_51 rfl rfl).trans (((ev_irem 54 dX9_mishears_53 rfl).trans (if_neg (by decide))).trans ((ev_callv mX3_mishearing [vR 2, vR 1, vI s0, vI (w32 (a1.tdiv 10)), vI (a1.tmod 10)] [] 57 dX9_mishears_54 ml_9_126 k32 rfl oc2 ak2 rfl rfl (Nat.le_of_ble_eq_true rfl) (Nat.le_of_ble_eq_true rfl) rfl).trans (if_pos (show 4 < 5 from by decide))))))))
theorem X9_mishears_57 (h : mm_M) (a1 : Int) (s0 : Int) : mm_ev mX9_mishears 5 57 [some (vR 0), some (vI a1)] [vI s0] h = some ([vI s0], h) := ev_iret dX9_mishears_57 rfl
theorem dX9_law_0 : decode mX9_law.1 0 = .ok (.aload_n 0, 1) := by decide +kernel
theorem dX9_law_1 : decode mX9_law.1 1 = .ok (.getfield 19, 3) := by decide +kernel
theorem dX9_law_4 : decode mX9_law.1 4 = .ok (.invokevirtual 119, 3) := by decide +kernel
theorem dX9_law_7 : decode mX9_law.1 7 = .ok (.ireturn, 1) := by decide +kernel
theorem X9_law_0 (h : mm_M) : mm_ev mX9_law 83 0 [some (vR 0)] [] h = (mm_call mX3_proclaim [vR 2] h).bind (fun w => mm_ev mX9_law 83 7 [some (vR 0)] (w.1 ++ []) w.2) := (ev_aload_n 1 dX9_law_0 rfl rfl).trans ((ev_getF 4 2 dX9_law_1 fl_9_19 oc0 ak0 rfl rf_0_1 rfl).trans ((ev_callv mX3_proclaim [vR 2] [] 7 dX9_law_4 ml_9_119 k21 rfl oc2 ak2 rfl rfl (Nat.le_of_ble_eq_true rfl) (Nat.le_of_ble_eq_true rfl) rfl).trans (if_pos (show 82 < 83 from by decide))))
theorem X9_law_c (h : mm_M) : mm_call mX9_law [vR 0] h = (mm_call mX3_proclaim [vR 2] h).bind (fun w => mm_ev mX9_law 83 7 [some (vR 0)] (w.1 ++ []) w.2) := X9_law_0 h 
theorem X9_law_7 (h : mm_M) (s0 : Int) : mm_ev mX9_law 83 7 [some (vR 0)] [vI s0] h = some ([vI s0], h) := ev_iret dX9_law_7 rfl
theorem dX9_feed_0 : decode mX9_feed.1 0 = .ok (.aload_n 0, 1) := by decide +kernel
theorem dX9_feed_1 : decode mX9_feed.1 1 = .ok (.getfield 19, 3) := by decide +kernel
theorem dX9_feed_4 : decode mX9_feed.1 4 = .ok (.iload_n 1, 1) := by decide +kernel
theorem dX9_feed_5 : decode mX9_feed.1 5 = .ok (.invokevirtual 115, 3) := by decide +kernel
theorem dX9_feed_8 : decode mX9_feed.1 8 = .ok (.ireturn, 1) := by decide +kernel
theorem X9_feed_0 (h : mm_M) (a1 : Int) : mm_ev mX9_feed 2 0 [some (vR 0), some (vI a1)] [] h = (mm_call mX3_take [vR 2, vI a1] h).bind (fun w => mm_ev mX9_feed 2 8 [some (vR 0), some (vI a1)] (w.1 ++ []) w.2) := (ev_aload_n 1 dX9_feed_0 rfl rfl).trans ((ev_getF 4 2 dX9_feed_1 fl_9_19 oc0 ak0 rfl rf_0_1 rfl).trans ((ev_iload_n 5 dX9_feed_4 rfl rfl).trans ((ev_callv mX3_take [vR 2, vI a1] [] 8 dX9_feed_5 ml_9_115 k20 rfl oc2 ak2 rfl rfl (Nat.le_of_ble_eq_true rfl) (Nat.le_of_ble_eq_true rfl) rfl).trans (if_pos (show 1 < 2 from by decide)))))
theorem X9_feed_c (h : mm_M) (a1 : Int) : mm_call mX9_feed [vR 0, vI a1] h = (mm_call mX3_take [vR 2, vI a1] h).bind (fun w => mm_ev mX9_feed 2 8 [some (vR 0), some (vI a1)] (w.1 ++ []) w.2) := X9_feed_0 h a1
theorem X9_feed_8 (h : mm_M) (a1 : Int) (s0 : Int) : mm_ev mX9_feed 2 8 [some (vR 0), some (vI a1)] [vI s0] h = some ([vI s0], h) := ev_iret dX9_feed_8 rfl
theorem dX9_of_0 : decode mX9_of.1 0 = .ok (.iload_n 2, 1) := by decide +kernel
theorem dX9_of_1 : decode mX9_of.1 1 = .ok (.bipush 12, 2) := by decide +kernel
theorem dX9_of_3 : decode mX9_of.1 3 = .ok (.if_icmp .ne 28, 3) := by decide +kernel
theorem dX9_of_6 : decode mX9_of.1 6 = .ok (.aload_n 0, 1) := by decide +kernel
theorem dX9_of_7 : decode mX9_of.1 7 = .ok (.getfield 10, 3) := by decide +kernel
theorem dX9_of_10 : decode mX9_of.1 10 = .ok (.iload_n 1, 1) := by decide +kernel
theorem dX9_of_11 : decode mX9_of.1 11 = .ok (.invokevirtual 101, 3) := by decide +kernel
theorem dX9_of_14 : decode mX9_of.1 14 = .ok (.ifCond .eq 15, 3) := by decide +kernel
theorem dX9_of_17 : decode mX9_of.1 17 = .ok (.aload_n 0, 1) := by decide +kernel
theorem dX9_of_18 : decode mX9_of.1 18 = .ok (.getfield 64, 3) := by decide +kernel
theorem dX9_of_21 : decode mX9_of.1 21 = .ok (.getfield 105, 3) := by decide +kernel
theorem dX9_of_24 : decode mX9_of.1 24 = .ok (.iload_n 1, 1) := by decide +kernel
theorem dX9_of_25 : decode mX9_of.1 25 = .ok (.iaload, 1) := by decide +kernel
theorem dX9_of_26 : decode mX9_of.1 26 = .ok (.goto 4, 3) := by decide +kernel
theorem dX9_of_29 : decode mX9_of.1 29 = .ok (.iconst (-1), 1) := by decide +kernel
theorem dX9_of_30 : decode mX9_of.1 30 = .ok (.ireturn, 1) := by decide +kernel
theorem dX9_of_31 : decode mX9_of.1 31 = .ok (.iload_n 2, 1) := by decide +kernel
theorem dX9_of_32 : decode mX9_of.1 32 = .ok (.bipush 13, 2) := by decide +kernel
theorem dX9_of_34 : decode mX9_of.1 34 = .ok (.if_icmp .ne 19, 3) := by decide +kernel
theorem dX9_of_37 : decode mX9_of.1 37 = .ok (.iload_n 1, 1) := by decide +kernel
theorem dX9_of_38 : decode mX9_of.1 38 = .ok (.ifCond .ne 13, 3) := by decide +kernel
theorem dX9_of_41 : decode mX9_of.1 41 = .ok (.aload_n 0, 1) := by decide +kernel
theorem dX9_of_42 : decode mX9_of.1 42 = .ok (.getfield 64, 3) := by decide +kernel
theorem dX9_of_45 : decode mX9_of.1 45 = .ok (.getfield 109, 3) := by decide +kernel
theorem dX9_of_48 : decode mX9_of.1 48 = .ok (.goto 4, 3) := by decide +kernel
theorem dX9_of_51 : decode mX9_of.1 51 = .ok (.iconst (-1), 1) := by decide +kernel
theorem dX9_of_52 : decode mX9_of.1 52 = .ok (.ireturn, 1) := by decide +kernel
theorem dX9_of_53 : decode mX9_of.1 53 = .ok (.aload_n 0, 1) := by decide +kernel
theorem dX9_of_54 : decode mX9_of.1 54 = .ok (.getfield 10, 3) := by decide +kernel
theorem dX9_of_57 : decode mX9_of.1 57 = .ok (.iload_n 1, 1) := by decide +kernel
theorem dX9_of_58 : decode mX9_of.1 58 = .ok (.iload_n 2, 1) := by decide +kernel
theorem dX9_of_59 : decode mX9_of.1 59 = .ok (.invokevirtual 95, 3) := by decide +kernel
theorem dX9_of_62 : decode mX9_of.1 62 = .ok (.istore_n 3, 1) := by decide +kernel
theorem dX9_of_63 : decode mX9_of.1 63 = .ok (.iload_n 3, 1) := by decide +kernel
theorem dX9_of_64 : decode mX9_of.1 64 = .ok (.ifCond .ge 7, 3) := by decide +kernel
theorem dX9_of_67 : decode mX9_of.1 67 = .ok (.iconst (-1), 1) := by decide +kernel
theorem dX9_of_68 : decode mX9_of.1 68 = .ok (.goto 12, 3) := by decide +kernel
theorem dX9_of_71 : decode mX9_of.1 71 = .ok (.aload_n 0, 1) := by decide +kernel
theorem dX9_of_72 : decode mX9_of.1 72 = .ok (.getfield 10, 3) := by decide +kernel
theorem dX9_of_75 : decode mX9_of.1 75 = .ok (.getfield 112, 3) := by decide +kernel
theorem dX9_of_78 : decode mX9_of.1 78 = .ok (.iload_n 3, 1) := by decide +kernel
theorem dX9_of_79 : decode mX9_of.1 79 = .ok (.iaload, 1) := by decide +kernel
theorem dX9_of_80 : decode mX9_of.1 80 = .ok (.ireturn, 1) := by decide +kernel
theorem X9_of_0 (h : mm_M) (a1 : Int) (a2 : Int) : mm_ev mX9_of 2 0 [some (vR 0), some (vI a1), some (vI a2), none] [] h = if ¬ a2 = 12 then if ¬ a2 = 13 then (mm_call mX4_cellOf [vR 1, vI a1, vI a2] h).bind (fun w => mm_ev mX9_of 2 62 [some (vR 0), some (vI a1), some (vI a2), none] (w.1 ++ []) w.2) else if ¬ a1 = 0 then some ([vI (-1)], h) else some ([vI (h 9 0)], h) else (mm_call mX4_isPost [vR 1, vI a1] h).bind (fun w => mm_ev mX9_of 2 14 [some (vR 0), some (vI a1), some (vI a2), none] (w.1 ++ []) w.2) := (ev_iload_n 1 dX9_of_0 rfl rfl).trans ((ev_bipush 3 (v := 12) dX9_of_1 rfl rfl).trans ((ev_ic_ne 31 6 dX9_of_3 rfl rfl).trans (mm_ite ((ev_iload_n 32 dX9_of_31 rfl rfl).trans ((ev_bipush 34 (v := 13) dX9_of_32 rfl rfl).trans ((ev_ic_ne 53 37 dX9_of_34 rfl rfl).trans (mm_ite ((ev_aload_n 54 dX9_of_53 rfl rfl).trans ((ev_getF 57 1 dX9_of_54 fl_9_10 oc0 ak0 rfl rf_0_0 rfl).trans ((ev_iload_n 58 dX9_of_57 rfl rfl).trans ((ev_iload_n 59 dX9_of_58 rfl rfl).trans ((ev_callv mX4_cellOf [vR 1, vI a1, vI a2] [] 62 dX9_of_59 ml_9_95 k39 rfl oc1 ak1 rfl rfl (Nat.le_of_ble_eq_true rfl) (Nat.le_of_ble_eq_true rfl) rfl).trans (if_pos (show 1 < 2 from by decide))))))) ((ev_iload_n 38 dX9_of_37 rfl rfl).trans ((ev_if_ne 51 41 dX9_of_38 rfl rfl).trans (mm_ite ((ev_iconst 52 (v := (-1)) dX9_of_51 rfl rfl).trans (ev_iret dX9_of_52 rfl)) ((ev_aload_n 42 dX9_of_41 rfl rfl).trans ((ev_getF 45 9 dX9_of_42 fl_9_64 oc0 ak0 rfl rf_0_8 rfl).trans ((ev_getI 48 0 dX9_of_45 fl_9_109 oc9 ak9 (by decide) rfl rfl).trans ((ev_goto 52 dX9_of_48 rfl).trans (ev_iret dX9_of_52 rfl)))))))))))) ((ev_aload_n 7 dX9_of_6 rfl rfl).trans ((ev_getF 10 1 dX9_of_7 fl_9_10 oc0 ak0 rfl rf_0_0 rfl).trans ((ev_iload_n 11 dX9_of_10 rfl rfl).trans ((ev_callv mX4_isPost [vR 1, vI a1] [] 14 dX9_of_11 ml_9_101 k43 rfl oc1 ak1 rfl rfl (Nat.le_of_ble_eq_true rfl) (Nat.le_of_ble_eq_true rfl) rfl).trans (if_pos (show 1 < 2 from by decide)))))))))
theorem X9_of_c (h : mm_M) (a1 : Int) (a2 : Int) : mm_call mX9_of [vR 0, vI a1, vI a2] h = if ¬ a2 = 12 then if ¬ a2 = 13 then (mm_call mX4_cellOf [vR 1, vI a1, vI a2] h).bind (fun w => mm_ev mX9_of 2 62 [some (vR 0), some (vI a1), some (vI a2), none] (w.1 ++ []) w.2) else if ¬ a1 = 0 then some ([vI (-1)], h) else some ([vI (h 9 0)], h) else (mm_call mX4_isPost [vR 1, vI a1] h).bind (fun w => mm_ev mX9_of 2 14 [some (vR 0), some (vI a1), some (vI a2), none] (w.1 ++ []) w.2) := X9_of_0 h a1 a2
theorem X9_of_14 (h : mm_M) (a1 : Int) (a2 : Int) (s0 : Int) : mm_ev mX9_of 2 14 [some (vR 0), some (vI a1), some (vI a2), none] [vI s0] h = if s0 = 0 then some ([vI (-1)], h) else if 0 ≤ a1 ∧ a1 < 7 then some ([vI (h 37 a1)], h) else none := (ev_if_eq 29 17 dX9_of_14 rfl rfl).trans (mm_ite ((ev_iconst 30 (v := (-1)) dX9_of_29 rfl rfl).trans (ev_iret dX9_of_30 rfl)) ((ev_aload_n 18 dX9_of_17 rfl rfl).trans ((ev_getF 21 9 dX9_of_18 fl_9_64 oc0 ak0 rfl rf_0_8 rfl).trans ((ev_getF 24 37 dX9_of_21 fl_9_105 oc9 ak9 rfl rf_9_1 rfl).trans ((ev_iload_n 25 dX9_of_24 rfl rfl).trans ((ev_iald 26 7 dX9_of_25 ak37 an37 rfl).trans (mm_ite ((ev_goto 30 dX9_of_26 rfl).trans (ev_iret dX9_of_30 rfl)) (rfl))))))))
theorem X9_of_62 (h : mm_M) (a1 : Int) (a2 : Int) (s0 : Int) : mm_ev mX9_of 2 62 [some (vR 0), some (vI a1), some (vI a2), none] [vI s0] h = if 0 ≤ s0 then if 0 ≤ s0 ∧ s0 < 57 then some ([vI (h 11 s0)], h) else none else some ([vI (-1)], h) := (ev_istore_n 63 [some (vR 0), some (vI a1), some (vI a2), some (vI s0)] dX9_of_62 rfl rfl).trans ((ev_iload_n 64 dX9_of_63 rfl rfl).trans ((ev_if_ge 71 67 dX9_of_64 rfl rfl).trans (mm_ite ((ev_aload_n 72 dX9_of_71 rfl rfl).trans ((ev_getF 75 1 dX9_of_72 fl_9_10 oc0 ak0 rfl rf_0_0 rfl).trans ((ev_getF 78 11 dX9_of_75 fl_9_112 oc1 ak1 rfl rf_1_0 rfl).trans ((ev_iload_n 79 dX9_of_78 rfl rfl).trans ((ev_iald 80 57 dX9_of_79 ak11 an11 rfl).trans (mm_ite (ev_iret dX9_of_80 rfl) (rfl))))))) ((ev_iconst 68 (v := (-1)) dX9_of_67 rfl rfl).trans ((ev_goto 80 dX9_of_68 rfl).trans (ev_iret dX9_of_80 rfl))))))
theorem dX9_mend_0 : decode mX9_mend.1 0 = .ok (.aload_n 0, 1) := by decide +kernel
theorem dX9_mend_1 : decode mX9_mend.1 1 = .ok (.getfield 10, 3) := by decide +kernel
theorem dX9_mend_4 : decode mX9_mend.1 4 = .ok (.iload_n 1, 1) := by decide +kernel
theorem dX9_mend_5 : decode mX9_mend.1 5 = .ok (.iload_n 2, 1) := by decide +kernel
theorem dX9_mend_6 : decode mX9_mend.1 6 = .ok (.invokevirtual 95, 3) := by decide +kernel
theorem dX9_mend_9 : decode mX9_mend.1 9 = .ok (.istore 4, 2) := by decide +kernel
theorem dX9_mend_11 : decode mX9_mend.1 11 = .ok (.iload 4, 2) := by decide +kernel
theorem dX9_mend_13 : decode mX9_mend.1 13 = .ok (.ifCond .lt 15, 3) := by decide +kernel
theorem dX9_mend_16 : decode mX9_mend.1 16 = .ok (.aload_n 0, 1) := by decide +kernel
theorem dX9_mend_17 : decode mX9_mend.1 17 = .ok (.getfield 10, 3) := by decide +kernel
theorem dX9_mend_20 : decode mX9_mend.1 20 = .ok (.iload_n 2, 1) := by decide +kernel
theorem dX9_mend_21 : decode mX9_mend.1 21 = .ok (.iload_n 3, 1) := by decide +kernel
theorem dX9_mend_22 : decode mX9_mend.1 22 = .ok (.invokevirtual 75, 3) := by decide +kernel
theorem dX9_mend_25 : decode mX9_mend.1 25 = .ok (.ifCond .ne 5, 3) := by decide +kernel
theorem dX9_mend_28 : decode mX9_mend.1 28 = .ok (.iconst (-1), 1) := by decide +kernel
theorem dX9_mend_29 : decode mX9_mend.1 29 = .ok (.ireturn, 1) := by decide +kernel
theorem dX9_mend_30 : decode mX9_mend.1 30 = .ok (.aload_n 0, 1) := by decide +kernel
theorem dX9_mend_31 : decode mX9_mend.1 31 = .ok (.getfield 10, 3) := by decide +kernel
theorem dX9_mend_34 : decode mX9_mend.1 34 = .ok (.iload 4, 2) := by decide +kernel
theorem dX9_mend_36 : decode mX9_mend.1 36 = .ok (.iload_n 3, 1) := by decide +kernel
theorem dX9_mend_37 : decode mX9_mend.1 37 = .ok (.invokevirtual 98, 3) := by decide +kernel
theorem dX9_mend_40 : decode mX9_mend.1 40 = .ok (.ireturn, 1) := by decide +kernel
theorem X9_mend_0 (h : mm_M) (a1 : Int) (a2 : Int) (a3 : Int) : mm_ev mX9_mend 3 0 [some (vR 0), some (vI a1), some (vI a2), some (vI a3), none] [] h = (mm_call mX4_cellOf [vR 1, vI a1, vI a2] h).bind (fun w => mm_ev mX9_mend 3 9 [some (vR 0), some (vI a1), some (vI a2), some (vI a3), none] (w.1 ++ []) w.2) := (ev_aload_n 1 dX9_mend_0 rfl rfl).trans ((ev_getF 4 1 dX9_mend_1 fl_9_10 oc0 ak0 rfl rf_0_0 rfl).trans ((ev_iload_n 5 dX9_mend_4 rfl rfl).trans ((ev_iload_n 6 dX9_mend_5 rfl rfl).trans ((ev_callv mX4_cellOf [vR 1, vI a1, vI a2] [] 9 dX9_mend_6 ml_9_95 k39 rfl oc1 ak1 rfl rfl (Nat.le_of_ble_eq_true rfl) (Nat.le_of_ble_eq_true rfl) rfl).trans (if_pos (show 1 < 3 from by decide))))))
theorem X9_mend_c (h : mm_M) (a1 : Int) (a2 : Int) (a3 : Int) : mm_call mX9_mend [vR 0, vI a1, vI a2, vI a3] h = (mm_call mX4_cellOf [vR 1, vI a1, vI a2] h).bind (fun w => mm_ev mX9_mend 3 9 [some (vR 0), some (vI a1), some (vI a2), some (vI a3), none] (w.1 ++ []) w.2) := X9_mend_0 h a1 a2 a3
theorem X9_mend_9 (h : mm_M) (a1 : Int) (a2 : Int) (a3 : Int) (s0 : Int) : mm_ev mX9_mend 3 9 [some (vR 0), some (vI a1), some (vI a2), some (vI a3), none] [vI s0] h = if s0 < 0 then some ([vI (-1)], h) else (mm_call mX4_mayBe [vR 1, vI a2, vI a3] h).bind (fun w => mm_ev mX9_mend 3 25 [some (vR 0), some (vI a1), some (vI a2), some (vI a3), some (vI s0)] (w.1 ++ []) w.2) := (ev_istore 11 [some (vR 0), some (vI a1), some (vI a2), some (vI a3), some (vI s0)] dX9_mend_9 rfl rfl).trans ((ev_iload 13 dX9_mend_11 rfl rfl).trans ((ev_if_lt 28 16 dX9_mend_13 rfl rfl).trans (mm_ite ((ev_iconst 29 (v := (-1)) dX9_mend_28 rfl rfl).trans (ev_iret dX9_mend_29 rfl)) ((ev_aload_n 17 dX9_mend_16 rfl rfl).trans ((ev_getF 20 1 dX9_mend_17 fl_9_10 oc0 ak0 rfl rf_0_0 rfl).trans ((ev_iload_n 21 dX9_mend_20 rfl rfl).trans ((ev_iload_n 22 dX9_mend_21 rfl rfl).trans ((ev_callv mX4_mayBe [vR 1, vI a2, vI a3] [] 25 dX9_mend_22 ml_9_75 k40 rfl oc1 ak1 rfl rfl (Nat.le_of_ble_eq_true rfl) (Nat.le_of_ble_eq_true rfl) rfl).trans (if_pos (show 1 < 3 from by decide))))))))))
theorem X9_mend_25 (h : mm_M) (a1 : Int) (a2 : Int) (a3 : Int) (a4 : Int) (s0 : Int) : mm_ev mX9_mend 3 25 [some (vR 0), some (vI a1), some (vI a2), some (vI a3), some (vI a4)] [vI s0] h = if ¬ s0 = 0 then (mm_call mX4_become [vR 1, vI a4, vI a3] h).bind (fun w => mm_ev mX9_mend 3 40 [some (vR 0), some (vI a1), some (vI a2), some (vI a3), some (vI a4)] (w.1 ++ []) w.2) else some ([vI (-1)], h) := (ev_if_ne 30 28 dX9_mend_25 rfl rfl).trans (mm_ite ((ev_aload_n 31 dX9_mend_30 rfl rfl).trans ((ev_getF 34 1 dX9_mend_31 fl_9_10 oc0 ak0 rfl rf_0_0 rfl).trans ((ev_iload 36 dX9_mend_34 rfl rfl).trans ((ev_iload_n 37 dX9_mend_36 rfl rfl).trans ((ev_callv mX4_become [vR 1, vI a4, vI a3] [] 40 dX9_mend_37 ml_9_98 k47 rfl oc1 ak1 rfl rfl (Nat.le_of_ble_eq_true rfl) (Nat.le_of_ble_eq_true rfl) rfl).trans (if_pos (show 2 < 3 from by decide))))))) ((ev_iconst 29 (v := (-1)) dX9_mend_28 rfl rfl).trans (ev_iret dX9_mend_29 rfl)))
theorem X9_mend_40 (h : mm_M) (a1 : Int) (a2 : Int) (a3 : Int) (a4 : Int) (s0 : Int) : mm_ev mX9_mend 3 40 [some (vR 0), some (vI a1), some (vI a2), some (vI a3), some (vI a4)] [vI s0] h = some ([vI s0], h) := ev_iret dX9_mend_40 rfl
theorem dX9_posts_0 : decode mX9_posts.1 0 = .ok (.iload_n 3, 1) := by decide +kernel
theorem dX9_posts_1 : decode mX9_posts.1 1 = .ok (.iconst 1, 1) := by decide +kernel
theorem dX9_posts_2 : decode mX9_posts.1 2 = .ok (.if_icmp .lt 9, 3) := by decide +kernel
theorem dX9_posts_5 : decode mX9_posts.1 5 = .ok (.iload_n 3, 1) := by decide +kernel
theorem dX9_posts_6 : decode mX9_posts.1 6 = .ok (.bipush 7, 2) := by decide +kernel
theorem dX9_posts_8 : decode mX9_posts.1 8 = .ok (.if_icmp .le 5, 3) := by decide +kernel
theorem dX9_posts_11 : decode mX9_posts.1 11 = .ok (.iconst (-1), 1) := by decide +kernel
theorem dX9_posts_12 : decode mX9_posts.1 12 = .ok (.ireturn, 1) := by decide +kernel
theorem dX9_posts_13 : decode mX9_posts.1 13 = .ok (.aload_n 0, 1) := by decide +kernel
theorem dX9_posts_14 : decode mX9_posts.1 14 = .ok (.getfield 26, 3) := by decide +kernel
theorem dX9_posts_17 : decode mX9_posts.1 17 = .ok (.iload_n 1, 1) := by decide +kernel
theorem dX9_posts_18 : decode mX9_posts.1 18 = .ok (.iconst 0, 1) := by decide +kernel
theorem dX9_posts_19 : decode mX9_posts.1 19 = .ok (.invokevirtual 87, 3) := by decide +kernel
theorem dX9_posts_22 : decode mX9_posts.1 22 = .ok (.istore 4, 2) := by decide +kernel
theorem dX9_posts_24 : decode mX9_posts.1 24 = .ok (.iload 4, 2) := by decide +kernel
theorem dX9_posts_26 : decode mX9_posts.1 26 = .ok (.bipush (-11), 2) := by decide +kernel
theorem dX9_posts_28 : decode mX9_posts.1 28 = .ok (.if_icmp .ne 5, 3) := by decide +kernel
theorem dX9_posts_31 : decode mX9_posts.1 31 = .ok (.iconst 0, 1) := by decide +kernel
theorem dX9_posts_32 : decode mX9_posts.1 32 = .ok (.ireturn, 1) := by decide +kernel
theorem dX9_posts_33 : decode mX9_posts.1 33 = .ok (.iload 4, 2) := by decide +kernel
theorem dX9_posts_35 : decode mX9_posts.1 35 = .ok (.ifCond .eq 6, 3) := by decide +kernel
theorem dX9_posts_38 : decode mX9_posts.1 38 = .ok (.iload 4, 2) := by decide +kernel
theorem dX9_posts_40 : decode mX9_posts.1 40 = .ok (.ireturn, 1) := by decide +kernel
theorem dX9_posts_41 : decode mX9_posts.1 41 = .ok (.iconst 0, 1) := by decide +kernel
theorem dX9_posts_42 : decode mX9_posts.1 42 = .ok (.istore 5, 2) := by decide +kernel
theorem dX9_posts_44 : decode mX9_posts.1 44 = .ok (.iconst 0, 1) := by decide +kernel
theorem dX9_posts_45 : decode mX9_posts.1 45 = .ok (.istore 6, 2) := by decide +kernel
theorem dX9_posts_47 : decode mX9_posts.1 47 = .ok (.iload 6, 2) := by decide +kernel
theorem dX9_posts_49 : decode mX9_posts.1 49 = .ok (.iload_n 3, 1) := by decide +kernel
theorem dX9_posts_50 : decode mX9_posts.1 50 = .ok (.if_icmp .ge 23, 3) := by decide +kernel
theorem dX9_posts_53 : decode mX9_posts.1 53 = .ok (.aload_n 0, 1) := by decide +kernel
theorem dX9_posts_54 : decode mX9_posts.1 54 = .ok (.iload_n 1, 1) := by decide +kernel
theorem dX9_posts_55 : decode mX9_posts.1 55 = .ok (.iload_n 2, 1) := by decide +kernel
theorem dX9_posts_56 : decode mX9_posts.1 56 = .ok (.iload 6, 2) := by decide +kernel
theorem dX9_posts_58 : decode mX9_posts.1 58 = .ok (.invokevirtual 91, 3) := by decide +kernel
theorem dX9_posts_61 : decode mX9_posts.1 61 = .ok (.ifCond .eq 12, 3) := by decide +kernel
theorem dX9_posts_64 : decode mX9_posts.1 64 = .ok (.iinc 5 1, 3) := by decide +kernel
theorem dX9_posts_67 : decode mX9_posts.1 67 = .ok (.iinc 6 1, 3) := by decide +kernel
theorem dX9_posts_70 : decode mX9_posts.1 70 = .ok (.goto (-23), 3) := by decide +kernel
theorem dX9_posts_73 : decode mX9_posts.1 73 = .ok (.iload 5, 2) := by decide +kernel
theorem dX9_posts_75 : decode mX9_posts.1 75 = .ok (.ireturn, 1) := by decide +kernel
theorem X9_posts_0 (h : mm_M) (a1 : Int) (a2 : Int) (a3 : Int) : mm_ev mX9_posts 5 0 [some (vR 0), some (vI a1), some (vI a2), some (vI a3), none, none, none] [] h = if a3 < 1 then some ([vI (-1)], h) else if a3 ≤ 7 then (mm_call mX7_refusal [vR 3, vI a1, vI 0] h).bind (fun w => mm_ev mX9_posts 5 22 [some (vR 0), some (vI a1), some (vI a2), some (vI a3), none, none, none] (w.1 ++ []) w.2) else some ([vI (-1)], h) := (ev_iload_n 1 dX9_posts_0 rfl rfl).trans ((ev_iconst 2 (v := 1) dX9_posts_1 rfl rfl).trans ((ev_ic_lt 11 5 dX9_posts_2 rfl rfl).trans (mm_ite ((ev_iconst 12 (v := (-1)) dX9_posts_11 rfl rfl).trans (ev_iret dX9_posts_12 rfl)) ((ev_iload_n 6 dX9_posts_5 rfl rfl).trans ((ev_bipush 8 (v := 7) dX9_posts_6 rfl rfl).trans ((ev_ic_le 13 11 dX9_posts_8 rfl rfl).trans (mm_ite ((ev_aload_n 14 dX9_posts_13 rfl rfl).trans ((ev_getF 17 3 dX9_posts_14 fl_9_26 oc0 ak0 rfl rf_0_2 rfl).trans ((ev_iload_n 18 dX9_posts_17 rfl rfl).trans ((ev_iconst 19 (v := 0) dX9_posts_18 rfl rfl).trans ((ev_callv mX7_refusal [vR 3, vI a1, vI 0] [] 22 dX9_posts_19 ml_9_87 k65 rfl oc3 ak3 rfl rfl (Nat.le_of_ble_eq_true rfl) (Nat.le_of_ble_eq_true rfl) rfl).trans (if_pos (show 2 < 5 from by decide))))))) ((ev_iconst 12 (v := (-1)) dX9_posts_11 rfl rfl).trans (ev_iret dX9_posts_12 rfl)))))))))
theorem X9_posts_c (h : mm_M) (a1 : Int) (a2 : Int) (a3 : Int) : mm_call mX9_posts [vR 0, vI a1, vI a2, vI a3] h = if a3 < 1 then some ([vI (-1)], h) else if a3 ≤ 7 then (mm_call mX7_refusal [vR 3, vI a1, vI 0] h).bind (fun w => mm_ev mX9_posts 5 22 [some (vR 0), some (vI a1), some (vI a2), some (vI a3), none, none, none] (w.1 ++ []) w.2) else some ([vI (-1)], h) := X9_posts_0 h a1 a2 a3
theorem X9_posts_22 (h : mm_M) (a1 : Int) (a2 : Int) (a3 : Int) (s0 : Int) : mm_ev mX9_posts 5 22 [some (vR 0), some (vI a1), some (vI a2), some (vI a3), none, none, none] [vI s0] h = if ¬ s0 = (-11) then if s0 = 0 then mm_ev mX9_posts 5 47 [some (vR 0), some (vI a1), some (vI a2), some (vI a3), some (vI s0), some (vI 0), some (vI 0)] [] h else some ([vI s0], h) else some ([vI 0], h) := (ev_istore 24 [some (vR 0), some (vI a1), some (vI a2), some (vI a3), some (vI s0), none, none] dX9_posts_22 rfl rfl).trans ((ev_iload 26 dX9_posts_24 rfl rfl).trans ((ev_bipush 28 (v := (-11)) dX9_posts_26 rfl rfl).trans ((ev_ic_ne 33 31 dX9_posts_28 rfl rfl).trans (mm_ite ((ev_iload 35 dX9_posts_33 rfl rfl).trans ((ev_if_eq 41 38 dX9_posts_35 rfl rfl).trans (mm_ite ((ev_iconst 42 (v := 0) dX9_posts_41 rfl rfl).trans ((ev_istore 44 [some (vR 0), some (vI a1), some (vI a2), some (vI a3), some (vI s0), some (vI 0), none] dX9_posts_42 rfl rfl).trans ((ev_iconst 45 (v := 0) dX9_posts_44 rfl rfl).trans (ev_istore 47 [some (vR 0), some (vI a1), some (vI a2), some (vI a3), some (vI s0), some (vI 0), some (vI 0)] dX9_posts_45 rfl rfl)))) ((ev_iload 40 dX9_posts_38 rfl rfl).trans (ev_iret dX9_posts_40 rfl))))) ((ev_iconst 32 (v := 0) dX9_posts_31 rfl rfl).trans (ev_iret dX9_posts_32 rfl))))))
theorem X9_posts_47 (h : mm_M) (a1 : Int) (a2 : Int) (a3 : Int) (a4 : Int) (a5 : Int) (a6 : Int) : mm_ev mX9_posts 5 47 [some (vR 0), some (vI a1), some (vI a2), some (vI a3), some (vI a4), some (vI a5), some (vI a6)] [] h = if a3 ≤ a6 then some ([vI a5], h) else (mm_call mX9_comesFromRow [vR 0, vI a1, vI a2, vI a6] h).bind (fun w => mm_ev mX9_posts 5 61 [some (vR 0), some (vI a1), some (vI a2), some (vI a3), some (vI a4), some (vI a5), some (vI a6)] (w.1 ++ []) w.2) := (ev_iload 49 dX9_posts_47 rfl rfl).trans ((ev_iload_n 50 dX9_posts_49 rfl rfl).trans ((ev_ic_ge 73 53 dX9_posts_50 rfl rfl).trans (mm_ite ((ev_iload 75 dX9_posts_73 rfl rfl).trans (ev_iret dX9_posts_75 rfl)) ((ev_aload_n 54 dX9_posts_53 rfl rfl).trans ((ev_iload_n 55 dX9_posts_54 rfl rfl).trans ((ev_iload_n 56 dX9_posts_55 rfl rfl).trans ((ev_iload 58 dX9_posts_56 rfl rfl).trans ((ev_callv mX9_comesFromRow [vR 0, vI a1, vI a2, vI a6] [] 61 dX9_posts_58 ml_9_91 k132 rfl oc0 ak0 rfl rfl (Nat.le_of_ble_eq_true rfl) (Nat.le_of_ble_eq_true rfl) rfl).trans (if_pos (show 4 < 5 from by decide))))))))))
theorem X9_posts_61 (h : mm_M) (a1 : Int) (a2 : Int) (a3 : Int) (a4 : Int) (a5 : Int) (a6 : Int) (s0 : Int) : mm_ev mX9_posts 5 61 [some (vR 0), some (vI a1), some (vI a2), some (vI a3), some (vI a4), some (vI a5), some (vI a6)] [vI s0] h = if s0 = 0 then some ([vI a5], h) else mm_ev mX9_posts 5 47 [some (vR 0), some (vI a1), some (vI a2), some (vI a3), some (vI a4), some (vI (w32 (a5 + 1))), some (vI (w32 (a6 + 1)))] [] h := (ev_if_eq 73 64 dX9_posts_61 rfl rfl).trans (mm_ite ((ev_iload 75 dX9_posts_73 rfl rfl).trans (ev_iret dX9_posts_75 rfl)) ((ev_iinc 67 [some (vR 0), some (vI a1), some (vI a2), some (vI a3), some (vI a4), some (vI (w32 (a5 + 1))), some (vI a6)] dX9_posts_64 rfl rfl rfl).trans ((ev_iinc 70 [some (vR 0), some (vI a1), some (vI a2), some (vI a3), some (vI a4), some (vI (w32 (a5 + 1))), some (vI (w32 (a6 + 1)))] dX9_posts_67 rfl rfl rfl).trans (ev_goto 47 dX9_posts_70 rfl))))
theorem dX9_comesFromRow_0 : decode mX9_comesFromRow.1 0 = .ok (.aload_n 0, 1) := by decide +kernel
theorem dX9_comesFromRow_1 : decode mX9_comesFromRow.1 1 = .ok (.getfield 26, 3) := by decide +kernel
theorem dX9_comesFromRow_4 : decode mX9_comesFromRow.1 4 = .ok (.getfield 253, 3) := by decide +kernel
theorem dX9_comesFromRow_7 : decode mX9_comesFromRow.1 7 = .ok (.iload_n 1, 1) := by decide +kernel
theorem dX9_comesFromRow_8 : decode mX9_comesFromRow.1 8 = .ok (.iaload, 1) := by decide +kernel
theorem dX9_comesFromRow_9 : decode mX9_comesFromRow.1 9 = .ok (.iconst 3, 1) := by decide +kernel
theorem dX9_comesFromRow_10 : decode mX9_comesFromRow.1 10 = .ok (.isub, 1) := by decide +kernel
theorem dX9_comesFromRow_11 : decode mX9_comesFromRow.1 11 = .ok (.istore 4, 2) := by decide +kernel
theorem dX9_comesFromRow_13 : decode mX9_comesFromRow.1 13 = .ok (.aload_n 0, 1) := by decide +kernel
theorem dX9_comesFromRow_14 : decode mX9_comesFromRow.1 14 = .ok (.getfield 10, 3) := by decide +kernel
theorem dX9_comesFromRow_17 : decode mX9_comesFromRow.1 17 = .ok (.getfield 79, 3) := by decide +kernel
theorem dX9_comesFromRow_20 : decode mX9_comesFromRow.1 20 = .ok (.bipush 7, 2) := by decide +kernel
theorem dX9_comesFromRow_22 : decode mX9_comesFromRow.1 22 = .ok (.if_icmp .ge 23, 3) := by decide +kernel
theorem dX9_comesFromRow_25 : decode mX9_comesFromRow.1 25 = .ok (.iload_n 2, 1) := by decide +kernel
theorem dX9_comesFromRow_26 : decode mX9_comesFromRow.1 26 = .ok (.ifCond .lt 19, 3) := by decide +kernel
theorem dX9_comesFromRow_29 : decode mX9_comesFromRow.1 29 = .ok (.iload_n 2, 1) := by decide +kernel
theorem dX9_comesFromRow_30 : decode mX9_comesFromRow.1 30 = .ok (.iload 4, 2) := by decide +kernel
theorem dX9_comesFromRow_32 : decode mX9_comesFromRow.1 32 = .ok (.if_icmp .gt 13, 3) := by decide +kernel
theorem dX9_comesFromRow_35 : decode mX9_comesFromRow.1 35 = .ok (.iload_n 2, 1) := by decide +kernel
theorem dX9_comesFromRow_36 : decode mX9_comesFromRow.1 36 = .ok (.iconst 3, 1) := by decide +kernel
theorem dX9_comesFromRow_37 : decode mX9_comesFromRow.1 37 = .ok (.iload_n 3, 1) := by decide +kernel
theorem dX9_comesFromRow_38 : decode mX9_comesFromRow.1 38 = .ok (.imul, 1) := by decide +kernel
theorem dX9_comesFromRow_39 : decode mX9_comesFromRow.1 39 = .ok (.iadd, 1) := by decide +kernel
theorem dX9_comesFromRow_40 : decode mX9_comesFromRow.1 40 = .ok (.iload 4, 2) := by decide +kernel
theorem dX9_comesFromRow_42 : decode mX9_comesFromRow.1 42 = .ok (.if_icmp .le 5, 3) := by decide +kernel
theorem dX9_comesFromRow_45 : decode mX9_comesFromRow.1 45 = .ok (.iconst 0, 1) := by decide +kernel
theorem dX9_comesFromRow_46 : decode mX9_comesFromRow.1 46 = .ok (.ireturn, 1) := by decide +kernel
theorem dX9_comesFromRow_47 : decode mX9_comesFromRow.1 47 = .ok (.iload_n 2, 1) := by decide +kernel
theorem dX9_comesFromRow_48 : decode mX9_comesFromRow.1 48 = .ok (.iconst 3, 1) := by decide +kernel
theorem dX9_comesFromRow_49 : decode mX9_comesFromRow.1 49 = .ok (.iload_n 3, 1) := by decide +kernel
theorem dX9_comesFromRow_50 : decode mX9_comesFromRow.1 50 = .ok (.imul, 1) := by decide +kernel
theorem dX9_comesFromRow_51 : decode mX9_comesFromRow.1 51 = .ok (.iadd, 1) := by decide +kernel
theorem dX9_comesFromRow_52 : decode mX9_comesFromRow.1 52 = .ok (.istore 5, 2) := by decide +kernel
theorem dX9_comesFromRow_54 : decode mX9_comesFromRow.1 54 = .ok (.aload_n 0, 1) := by decide +kernel
theorem dX9_comesFromRow_55 : decode mX9_comesFromRow.1 55 = .ok (.getfield 26, 3) := by decide +kernel
theorem dX9_comesFromRow_58 : decode mX9_comesFromRow.1 58 = .ok (.iload_n 1, 1) := by decide +kernel
theorem dX9_comesFromRow_59 : decode mX9_comesFromRow.1 59 = .ok (.iload 5, 2) := by decide +kernel
theorem dX9_comesFromRow_61 : decode mX9_comesFromRow.1 61 = .ok (.invokevirtual 351, 3) := by decide +kernel
theorem dX9_comesFromRow_64 : decode mX9_comesFromRow.1 64 = .ok (.l2i, 1) := by decide +kernel
theorem dX9_comesFromRow_65 : decode mX9_comesFromRow.1 65 = .ok (.istore 6, 2) := by decide +kernel
theorem dX9_comesFromRow_67 : decode mX9_comesFromRow.1 67 = .ok (.aload_n 0, 1) := by decide +kernel
theorem dX9_comesFromRow_68 : decode mX9_comesFromRow.1 68 = .ok (.getfield 26, 3) := by decide +kernel
theorem dX9_comesFromRow_71 : decode mX9_comesFromRow.1 71 = .ok (.iload_n 1, 1) := by decide +kernel
theorem dX9_comesFromRow_72 : decode mX9_comesFromRow.1 72 = .ok (.iload 5, 2) := by decide +kernel
theorem dX9_comesFromRow_74 : decode mX9_comesFromRow.1 74 = .ok (.iconst 1, 1) := by decide +kernel
theorem dX9_comesFromRow_75 : decode mX9_comesFromRow.1 75 = .ok (.iadd, 1) := by decide +kernel
theorem dX9_comesFromRow_76 : decode mX9_comesFromRow.1 76 = .ok (.invokevirtual 351, 3) := by decide +kernel
theorem dX9_comesFromRow_79 : decode mX9_comesFromRow.1 79 = .ok (.l2i, 1) := by decide +kernel
theorem dX9_comesFromRow_80 : decode mX9_comesFromRow.1 80 = .ok (.istore 7, 2) := by decide +kernel
theorem dX9_comesFromRow_82 : decode mX9_comesFromRow.1 82 = .ok (.aload_n 0, 1) := by decide +kernel
theorem dX9_comesFromRow_83 : decode mX9_comesFromRow.1 83 = .ok (.getfield 26, 3) := by decide +kernel
theorem dX9_comesFromRow_86 : decode mX9_comesFromRow.1 86 = .ok (.iload_n 1, 1) := by decide +kernel
theorem dX9_comesFromRow_87 : decode mX9_comesFromRow.1 87 = .ok (.iload 5, 2) := by decide +kernel
theorem dX9_comesFromRow_89 : decode mX9_comesFromRow.1 89 = .ok (.iconst 2, 1) := by decide +kernel
theorem dX9_comesFromRow_90 : decode mX9_comesFromRow.1 90 = .ok (.iadd, 1) := by decide +kernel
theorem dX9_comesFromRow_91 : decode mX9_comesFromRow.1 91 = .ok (.invokevirtual 351, 3) := by decide +kernel
theorem dX9_comesFromRow_94 : decode mX9_comesFromRow.1 94 = .ok (.l2i, 1) := by decide +kernel
theorem dX9_comesFromRow_95 : decode mX9_comesFromRow.1 95 = .ok (.istore 8, 2) := by decide +kernel
theorem dX9_comesFromRow_97 : decode mX9_comesFromRow.1 97 = .ok (.aload_n 0, 1) := by decide +kernel
theorem dX9_comesFromRow_98 : decode mX9_comesFromRow.1 98 = .ok (.getfield 10, 3) := by decide +kernel
theorem dX9_comesFromRow_101 : decode mX9_comesFromRow.1 101 = .ok (.iconst 0, 1) := by decide +kernel
theorem dX9_comesFromRow_102 : decode mX9_comesFromRow.1 102 = .ok (.iload 6, 2) := by decide +kernel
theorem dX9_comesFromRow_104 : decode mX9_comesFromRow.1 104 = .ok (.invokevirtual 75, 3) := by decide +kernel
theorem dX9_comesFromRow_107 : decode mX9_comesFromRow.1 107 = .ok (.ifCond .eq 29, 3) := by decide +kernel
theorem dX9_comesFromRow_110 : decode mX9_comesFromRow.1 110 = .ok (.aload_n 0, 1) := by decide +kernel
theorem dX9_comesFromRow_111 : decode mX9_comesFromRow.1 111 = .ok (.getfield 10, 3) := by decide +kernel
theorem dX9_comesFromRow_114 : decode mX9_comesFromRow.1 114 = .ok (.iconst 1, 1) := by decide +kernel
theorem dX9_comesFromRow_115 : decode mX9_comesFromRow.1 115 = .ok (.iload 7, 2) := by decide +kernel
theorem dX9_comesFromRow_117 : decode mX9_comesFromRow.1 117 = .ok (.invokevirtual 75, 3) := by decide +kernel
theorem dX9_comesFromRow_120 : decode mX9_comesFromRow.1 120 = .ok (.ifCond .eq 16, 3) := by decide +kernel
theorem dX9_comesFromRow_123 : decode mX9_comesFromRow.1 123 = .ok (.aload_n 0, 1) := by decide +kernel
theorem dX9_comesFromRow_124 : decode mX9_comesFromRow.1 124 = .ok (.getfield 10, 3) := by decide +kernel
theorem dX9_comesFromRow_127 : decode mX9_comesFromRow.1 127 = .ok (.iconst 2, 1) := by decide +kernel
theorem dX9_comesFromRow_128 : decode mX9_comesFromRow.1 128 = .ok (.iload 8, 2) := by decide +kernel
theorem dX9_comesFromRow_130 : decode mX9_comesFromRow.1 130 = .ok (.invokevirtual 75, 3) := by decide +kernel
theorem dX9_comesFromRow_133 : decode mX9_comesFromRow.1 133 = .ok (.ifCond .ne 5, 3) := by decide +kernel
theorem dX9_comesFromRow_136 : decode mX9_comesFromRow.1 136 = .ok (.iconst 0, 1) := by decide +kernel
theorem dX9_comesFromRow_137 : decode mX9_comesFromRow.1 137 = .ok (.ireturn, 1) := by decide +kernel
theorem dX9_comesFromRow_138 : decode mX9_comesFromRow.1 138 = .ok (.aload_n 0, 1) := by decide +kernel
theorem dX9_comesFromRow_139 : decode mX9_comesFromRow.1 139 = .ok (.iload 6, 2) := by decide +kernel
theorem dX9_comesFromRow_141 : decode mX9_comesFromRow.1 141 = .ok (.iload 7, 2) := by decide +kernel
theorem dX9_comesFromRow_143 : decode mX9_comesFromRow.1 143 = .ok (.iload 8, 2) := by decide +kernel
theorem dX9_comesFromRow_145 : decode mX9_comesFromRow.1 145 = .ok (.invokevirtual 83, 3) := by decide +kernel
theorem dX9_comesFromRow_148 : decode mX9_comesFromRow.1 148 = .ok (.pop, 1) := by decide +kernel
theorem dX9_comesFromRow_149 : decode mX9_comesFromRow.1 149 = .ok (.iconst 1, 1) := by decide +kernel
theorem dX9_comesFromRow_150 : decode mX9_comesFromRow.1 150 = .ok (.ireturn, 1) := by decide +kernel
theorem X9_comesFromRow_0 (h : mm_M) (a1 : Int) (a2 : Int) (a3 : Int) : mm_ev mX9_comesFromRow 4 0 [some (vR 0), some (vI a1), some (vI a2), some (vI a3), none, none, none, none, none] [] h = if 0 ≤ a1 ∧ a1 < 6 then if 7 ≤ (h 1 1) then some ([vI 0], h) else if a2 < 0 then some ([vI 0], h) else if (w32 ((h 20 a1) - 3)) < a2 then some ([vI 0], h) else if (w32 (a2 + (w32 (3 * a3)))) ≤ (w32 ((h 20 a1) - 3)) then (mm_call mX7_read [vR 3, vI a1, vI (w32 (a2 + (w32 (3 * a3))))] h).bind (fun w => mm_ev mX9_comesFromRow 4 64 [some (vR 0), some (vI a1), some (vI a2), some (vI a3), some (vI (w32 ((h 20 a1) - 3))), some (vI (w32 (a2 + (w32 (3 * a3))))), none, none, none] (w.1 ++ []) w.2) else some ([vI 0], h) else none := (ev_aload_n 1 dX9_comesFromRow_0 rfl rfl).trans ((ev_getF 4 3 dX9_comesFromRow_1 fl_9_26 oc0 ak0 rfl rf_0_2 rfl).trans ((ev_getF 7 20 dX9_comesFromRow_4 fl_9_253 oc3 ak3 rfl rf_3_1 rfl).trans ((ev_iload_n 8 dX9_comesFromRow_7 rfl rfl).trans ((ev_iald 9 6 dX9_comesFromRow_8 ak20 an20 rfl).trans (mm_ite ((ev_iconst 10 (v := 3) dX9_comesFromRow_9 rfl rfl).trans ((ev_isub 11 dX9_comesFromRow_10 rfl).trans ((ev_istore 13 [some (vR 0), some (vI a1), some (vI a2), some (vI a3), some (vI (w32 ((h 20 a1) - 3))), none, none, none, none] dX9_comesFromRow_11 rfl rfl).trans ((ev_aload_n 14 dX9_comesFromRow_13 rfl rfl).trans ((ev_getF 17 1 dX9_comesFromRow_14 fl_9_10 oc0 ak0 rfl rf_0_0 rfl).trans ((ev_getI 20 1 dX9_comesFromRow_17 fl_9_79 oc1 ak1 (by decide) rfl rfl).trans ((ev_bipush 22 (v := 7) dX9_comesFromRow_20 rfl rfl).trans ((ev_ic_ge 45 25 dX9_comesFromRow_22 rfl rfl).trans (mm_ite ((ev_iconst 46 (v := 0) dX9_comesFromRow_45 rfl rfl).trans (ev_zret0 dX9_comesFromRow_46 rfl)) ((ev_iload_n 26 dX9_comesFromRow_25 rfl rfl).trans ((ev_if_lt 45 29 dX9_comesFromRow_26 rfl rfl).trans (mm_ite ((ev_iconst 46 (v := 0) dX9_comesFromRow_45 rfl rfl).trans (ev_zret0 dX9_comesFromRow_46 rfl)) ((ev_iload_n 30 dX9_comesFromRow_29 rfl rfl).trans ((ev_iload 32 dX9_comesFromRow_30 rfl rfl).trans ((ev_ic_gt 45 35 dX9_comesFromRow_32 rfl rfl).trans (mm_ite ((ev_iconst 46 (v := 0) dX9_comesFromRow_45 rfl rfl).trans (ev_zret0 dX9_comesFromRow_46 rfl)) ((ev_iload_n 36 dX9_comesFromRow_35 rfl rfl).trans ((ev_iconst 37 (v := 3) dX9_comesFromRow_36 rfl rfl).trans ((ev_iload_n 38 dX9_comesFromRow_37 rfl rfl).trans ((ev_imul 39 dX9_comesFromRow_38 rfl).trans ((ev_iadd 40 dX9_comesFromRow_39 rfl).trans ((ev_iload 42 dX9_comesFromRow_40 rfl rfl).trans ((ev_ic_le 47 45 dX9_comesFromRow_42 rfl rfl).trans (mm_ite ((ev_iload_n 48 dX9_comesFromRow_47 rfl rfl).trans ((ev_iconst 49 (v := 3) dX9_comesFromRow_48 rfl rfl).trans ((ev_iload_n 50 dX9_comesFromRow_49 rfl rfl).trans ((ev_imul 51 dX9_comesFromRow_50 rfl).trans ((ev_iadd 52 dX9_comesFromRow_51 rfl).trans ((ev_istore 54 [some (vR 0), some (vI a1), some (vI a2), some (vI a3), some (vI (w32 ((h 20 a1) - 3))), some (vI (w32 (a2 + (w32 (3 * a3))))), none, none, none] dX9_comesFromRow_52 rfl rfl).trans ((ev_aload_n 55 dX9_comesFromRow_54 rfl rfl).trans ((ev_getF 58 3 dX9_comesFromRow_55 fl_9_26 oc0 ak0 rfl rf_0_2 rfl).trans ((ev_iload_n 59 dX9_comesFromRow_58 rfl rfl).trans ((ev_iload 61 dX9_comesFromRow_59 rfl rfl).trans ((ev_callv mX7_read [vR 3, vI a1, vI (w32 (a2 + (w32 (3 * a3))))] [] 64 dX9_comesFromRow_61 ml_9_351 k69 rfl oc3 ak3 rfl rfl (Nat.le_of_ble_eq_true rfl) (Nat.le_of_ble_eq_true rfl) rfl).trans (if_pos (show 3 < 4 from by decide))))))))))))) ((ev_iconst 46 (v := 0) dX9_comesFromRow_45 rfl rfl).trans (ev_zret0 dX9_comesFromRow_46 rfl)))))))))))))))))))))))))) (rfl))))))
theorem X9_comesFromRow_c (h : mm_M) (a1 : Int) (a2 : Int) (a3 : Int) : mm_call mX9_comesFromRow [vR 0, vI a1, vI a2, vI a3] h = if 0 ≤ a1 ∧ a1 < 6 then if 7 ≤ (h 1 1) then some ([vI 0], h) else if a2 < 0 then some ([vI 0], h) else if (w32 ((h 20 a1) - 3)) < a2 then some ([vI 0], h) else if (w32 (a2 + (w32 (3 * a3)))) ≤ (w32 ((h 20 a1) - 3)) then (mm_call mX7_read [vR 3, vI a1, vI (w32 (a2 + (w32 (3 * a3))))] h).bind (fun w => mm_ev mX9_comesFromRow 4 64 [some (vR 0), some (vI a1), some (vI a2), some (vI a3), some (vI (w32 ((h 20 a1) - 3))), some (vI (w32 (a2 + (w32 (3 * a3))))), none, none, none] (w.1 ++ []) w.2) else some ([vI 0], h) else none := X9_comesFromRow_0 h a1 a2 a3
theorem X9_comesFromRow_64 (h : mm_M) (a1 : Int) (a2 : Int) (a3 : Int) (a4 : Int) (a5 : Int) (s0 : Int) : mm_ev mX9_comesFromRow 4 64 [some (vR 0), some (vI a1), some (vI a2), some (vI a3), some (vI a4), some (vI a5), none, none, none] [vL s0] h = (mm_call mX7_read [vR 3, vI a1, vI (w32 (a5 + 1))] h).bind (fun w => mm_ev mX9_comesFromRow 4 79 [some (vR 0), some (vI a1), some (vI a2), some (vI a3), some (vI a4), some (vI a5), some (vI (w32 s0)), none, none] (w.1 ++ []) w.2) := (ev_l2i 65 dX9_comesFromRow_64 rfl).trans ((ev_istore 67 [some (vR 0), some (vI a1), some (vI a2), some (vI a3), some (vI a4), some (vI a5), some (vI (w32 s0)), none, none] dX9_comesFromRow_65 rfl rfl).trans ((ev_aload_n 68 dX9_comesFromRow_67 rfl rfl).trans ((ev_getF 71 3 dX9_comesFromRow_68 fl_9_26 oc0 ak0 rfl rf_0_2 rfl).trans ((ev_iload_n 72 dX9_comesFromRow_71 rfl rfl).trans ((ev_iload 74 dX9_comesFromRow_72 rfl rfl).trans ((ev_iconst 75 (v := 1) dX9_comesFromRow_74 rfl rfl).trans ((ev_iadd 76 dX9_comesFromRow_75 rfl).trans ((ev_callv mX7_read [vR 3, vI a1, vI (w32 (a5 + 1))] [] 79 dX9_comesFromRow_76 ml_9_351 k69 rfl oc3 ak3 rfl rfl (Nat.le_of_ble_eq_true rfl) (Nat.le_of_ble_eq_true rfl) rfl).trans (if_pos (show 3 < 4 from by decide))))))))))
theorem X9_comesFromRow_79 (h : mm_M) (a1 : Int) (a2 : Int) (a3 : Int) (a4 : Int) (a5 : Int) (a6 : Int) (s0 : Int) : mm_ev mX9_comesFromRow 4 79 [some (vR 0), some (vI a1), some (vI a2), some (vI a3), some (vI a4), some (vI a5), some (vI a6), none, none] [vL s0] h = (mm_call mX7_read [vR 3, vI a1, vI (w32 (a5 + 2))] h).bind (fun w => mm_ev mX9_comesFromRow 4 94 [some (vR 0), some (vI a1), some (vI a2), some (vI a3), some (vI a4), some (vI a5), some (vI a6), some (vI (w32 s0)), none] (w.1 ++ []) w.2) := (ev_l2i 80 dX9_comesFromRow_79 rfl).trans ((ev_istore 82 [some (vR 0), some (vI a1), some (vI a2), some (vI a3), some (vI a4), some (vI a5), some (vI a6), some (vI (w32 s0)), none] dX9_comesFromRow_80 rfl rfl).trans ((ev_aload_n 83 dX9_comesFromRow_82 rfl rfl).trans ((ev_getF 86 3 dX9_comesFromRow_83 fl_9_26 oc0 ak0 rfl rf_0_2 rfl).trans ((ev_iload_n 87 dX9_comesFromRow_86 rfl rfl).trans ((ev_iload 89 dX9_comesFromRow_87 rfl rfl).trans ((ev_iconst 90 (v := 2) dX9_comesFromRow_89 rfl rfl).trans ((ev_iadd 91 dX9_comesFromRow_90 rfl).trans ((ev_callv mX7_read [vR 3, vI a1, vI (w32 (a5 + 2))] [] 94 dX9_comesFromRow_91 ml_9_351 k69 rfl oc3 ak3 rfl rfl (Nat.le_of_ble_eq_true rfl) (Nat.le_of_ble_eq_true rfl) rfl).trans (if_pos (show 3 < 4 from by decide))))))))))
theorem X9_comesFromRow_94 (h : mm_M) (a1 : Int) (a2 : Int) (a3 : Int) (a4 : Int) (a5 : Int) (a6 : Int) (a7 : Int) (s0 : Int) : mm_ev mX9_comesFromRow 4 94 [some (vR 0), some (vI a1), some (vI a2), some (vI a3), some (vI a4), some (vI a5), some (vI a6), some (vI a7), none] [vL s0] h = (mm_call mX4_mayBe [vR 1, vI 0, vI a6] h).bind (fun w => mm_ev mX9_comesFromRow 4 107 [some (vR 0), some (vI a1), some (vI a2), some (vI a3), some (vI a4), some (vI a5), some (vI a6), some (vI a7), some (vI (w32 s0))] (w.1 ++ []) w.2) := (ev_l2i 95 dX9_comesFromRow_94 rfl).trans ((ev_istore 97 [some (vR 0), some (vI a1), some (vI a2), some (vI a3), some (vI a4), some (vI a5), some (vI a6), some (vI a7), some (vI (w32 s0))] dX9_comesFromRow_95 rfl rfl).trans ((ev_aload_n 98 dX9_comesFromRow_97 rfl rfl).trans ((ev_getF 101 1 dX9_comesFromRow_98 fl_9_10 oc0 ak0 rfl rf_0_0 rfl).trans ((ev_iconst 102 (v := 0) dX9_comesFromRow_101 rfl rfl).trans ((ev_iload 104 dX9_comesFromRow_102 rfl rfl).trans ((ev_callv mX4_mayBe [vR 1, vI 0, vI a6] [] 107 dX9_comesFromRow_104 ml_9_75 k40 rfl oc1 ak1 rfl rfl (Nat.le_of_ble_eq_true rfl) (Nat.le_of_ble_eq_true rfl) rfl).trans (if_pos (show 1 < 4 from by decide))))))))
theorem X9_comesFromRow_107 (h : mm_M) (a1 : Int) (a2 : Int) (a3 : Int) (a4 : Int) (a5 : Int) (a6 : Int) (a7 : Int) (a8 : Int) (s0 : Int) : mm_ev mX9_comesFromRow 4 107 [some (vR 0), some (vI a1), some (vI a2), some (vI a3), some (vI a4), some (vI a5), some (vI a6), some (vI a7), some (vI a8)] [vI s0] h = if s0 = 0 then some ([vI 0], h) else (mm_call mX4_mayBe [vR 1, vI 1, vI a7] h).bind (fun w => mm_ev mX9_comesFromRow 4 120 [some (vR 0), some (vI a1), some (vI a2), some (vI a3), some (vI a4), some (vI a5), some (vI a6), some (vI a7), some (vI a8)] (w.1 ++ []) w.2) := (ev_if_eq 136 110 dX9_comesFromRow_107 rfl rfl).trans (mm_ite ((ev_iconst 137 (v := 0) dX9_comesFromRow_136 rfl rfl).trans (ev_zret0 dX9_comesFromRow_137 rfl)) ((ev_aload_n 111 dX9_comesFromRow_110 rfl rfl).trans ((ev_getF 114 1 dX9_comesFromRow_111 fl_9_10 oc0 ak0 rfl rf_0_0 rfl).trans ((ev_iconst 115 (v := 1) dX9_comesFromRow_114 rfl rfl).trans ((ev_iload 117 dX9_comesFromRow_115 rfl rfl).trans ((ev_callv mX4_mayBe [vR 1, vI 1, vI a7] [] 120 dX9_comesFromRow_117 ml_9_75 k40 rfl oc1 ak1 rfl rfl (Nat.le_of_ble_eq_true rfl) (Nat.le_of_ble_eq_true rfl) rfl).trans (if_pos (show 1 < 4 from by decide))))))))
theorem X9_comesFromRow_120 (h : mm_M) (a1 : Int) (a2 : Int) (a3 : Int) (a4 : Int) (a5 : Int) (a6 : Int) (a7 : Int) (a8 : Int) (s0 : Int) : mm_ev mX9_comesFromRow 4 120 [some (vR 0), some (vI a1), some (vI a2), some (vI a3), some (vI a4), some (vI a5), some (vI a6), some (vI a7), some (vI a8)] [vI s0] h = if s0 = 0 then some ([vI 0], h) else (mm_call mX4_mayBe [vR 1, vI 2, vI a8] h).bind (fun w => mm_ev mX9_comesFromRow 4 133 [some (vR 0), some (vI a1), some (vI a2), some (vI a3), some (vI a4), some (vI a5), some (vI a6), some (vI a7), some (vI a8)] (w.1 ++ []) w.2) := (ev_if_eq 136 123 dX9_comesFromRow_120 rfl rfl).trans (mm_ite ((ev_iconst 137 (v := 0) dX9_comesFromRow_136 rfl rfl).trans (ev_zret0 dX9_comesFromRow_137 rfl)) ((ev_aload_n 124 dX9_comesFromRow_123 rfl rfl).trans ((ev_getF 127 1 dX9_comesFromRow_124 fl_9_10 oc0 ak0 rfl rf_0_0 rfl).trans ((ev_iconst 128 (v := 2) dX9_comesFromRow_127 rfl rfl).trans ((ev_iload 130 dX9_comesFromRow_128 rfl rfl).trans ((ev_callv mX4_mayBe [vR 1, vI 2, vI a8] [] 133 dX9_comesFromRow_130 ml_9_75 k40 rfl oc1 ak1 rfl rfl (Nat.le_of_ble_eq_true rfl) (Nat.le_of_ble_eq_true rfl) rfl).trans (if_pos (show 1 < 4 from by decide))))))))
theorem X9_comesFromRow_133 (h : mm_M) (a1 : Int) (a2 : Int) (a3 : Int) (a4 : Int) (a5 : Int) (a6 : Int) (a7 : Int) (a8 : Int) (s0 : Int) : mm_ev mX9_comesFromRow 4 133 [some (vR 0), some (vI a1), some (vI a2), some (vI a3), some (vI a4), some (vI a5), some (vI a6), some (vI a7), some (vI a8)] [vI s0] h = if ¬ s0 = 0 then (mm_call mX9_enlist [vR 0, vI a6, vI a7, vI a8] h).bind (fun w => mm_ev mX9_comesFromRow 4 148 [some (vR 0), some (vI a1), some (vI a2), some (vI a3), some (vI a4), some (vI a5), some (vI a6), some (vI a7), some (vI a8)] (w.1 ++ []) w.2) else some ([vI 0], h) := (ev_if_ne 138 136 dX9_comesFromRow_133 rfl rfl).trans (mm_ite ((ev_aload_n 139 dX9_comesFromRow_138 rfl rfl).trans ((ev_iload 141 dX9_comesFromRow_139 rfl rfl).trans ((ev_iload 143 dX9_comesFromRow_141 rfl rfl).trans ((ev_iload 145 dX9_comesFromRow_143 rfl rfl).trans ((ev_callv mX9_enlist [vR 0, vI a6, vI a7, vI a8] [] 148 dX9_comesFromRow_145 ml_9_83 k131 rfl oc0 ak0 rfl rfl (Nat.le_of_ble_eq_true rfl) (Nat.le_of_ble_eq_true rfl) rfl).trans (if_pos (show 2 < 4 from by decide))))))) ((ev_iconst 137 (v := 0) dX9_comesFromRow_136 rfl rfl).trans (ev_zret0 dX9_comesFromRow_137 rfl)))
theorem X9_comesFromRow_148 (h : mm_M) (a1 : Int) (a2 : Int) (a3 : Int) (a4 : Int) (a5 : Int) (a6 : Int) (a7 : Int) (a8 : Int) (s0 : Int) : mm_ev mX9_comesFromRow 4 148 [some (vR 0), some (vI a1), some (vI a2), some (vI a3), some (vI a4), some (vI a5), some (vI a6), some (vI a7), some (vI a8)] [vI s0] h = some ([vI 1], h) := (ev_pop 149 dX9_comesFromRow_148 rfl rfl).trans ((ev_iconst 150 (v := 1) dX9_comesFromRow_149 rfl rfl).trans (ev_zret1 dX9_comesFromRow_150 rfl))
theorem dX9_enlist_0 : decode mX9_enlist.1 0 = .ok (.aload_n 0, 1) := by decide +kernel
theorem dX9_enlist_1 : decode mX9_enlist.1 1 = .ok (.getfield 10, 3) := by decide +kernel
theorem dX9_enlist_4 : decode mX9_enlist.1 4 = .ok (.iload_n 1, 1) := by decide +kernel
theorem dX9_enlist_5 : decode mX9_enlist.1 5 = .ok (.iload_n 2, 1) := by decide +kernel
theorem dX9_enlist_6 : decode mX9_enlist.1 6 = .ok (.iload_n 3, 1) := by decide +kernel
theorem dX9_enlist_7 : decode mX9_enlist.1 7 = .ok (.invokevirtual 376, 3) := by decide +kernel
theorem dX9_enlist_10 : decode mX9_enlist.1 10 = .ok (.istore 4, 2) := by decide +kernel
theorem dX9_enlist_12 : decode mX9_enlist.1 12 = .ok (.aload_n 0, 1) := by decide +kernel
theorem dX9_enlist_13 : decode mX9_enlist.1 13 = .ok (.getfield 64, 3) := by decide +kernel
theorem dX9_enlist_16 : decode mX9_enlist.1 16 = .ok (.iload 4, 2) := by decide +kernel
theorem dX9_enlist_18 : decode mX9_enlist.1 18 = .ok (.aload_n 0, 1) := by decide +kernel
theorem dX9_enlist_19 : decode mX9_enlist.1 19 = .ok (.getfield 10, 3) := by decide +kernel
theorem dX9_enlist_22 : decode mX9_enlist.1 22 = .ok (.bipush 8, 2) := by decide +kernel
theorem dX9_enlist_24 : decode mX9_enlist.1 24 = .ok (.invokevirtual 123, 3) := by decide +kernel
theorem dX9_enlist_27 : decode mX9_enlist.1 27 = .ok (.invokevirtual 379, 3) := by decide +kernel
theorem dX9_enlist_30 : decode mX9_enlist.1 30 = .ok (.iload 4, 2) := by decide +kernel
theorem dX9_enlist_32 : decode mX9_enlist.1 32 = .ok (.ireturn, 1) := by decide +kernel
theorem X9_enlist_0 (h : mm_M) (a1 : Int) (a2 : Int) (a3 : Int) : mm_ev mX9_enlist 2 0 [some (vR 0), some (vI a1), some (vI a2), some (vI a3), none] [] h = (mm_call mX4_addPost [vR 1, vI a1, vI a2, vI a3] h).bind (fun w => mm_ev mX9_enlist 2 10 [some (vR 0), some (vI a1), some (vI a2), some (vI a3), none] (w.1 ++ []) w.2) := (ev_aload_n 1 dX9_enlist_0 rfl rfl).trans ((ev_getF 4 1 dX9_enlist_1 fl_9_10 oc0 ak0 rfl rf_0_0 rfl).trans ((ev_iload_n 5 dX9_enlist_4 rfl rfl).trans ((ev_iload_n 6 dX9_enlist_5 rfl rfl).trans ((ev_iload_n 7 dX9_enlist_6 rfl rfl).trans ((ev_callv mX4_addPost [vR 1, vI a1, vI a2, vI a3] [] 10 dX9_enlist_7 ml_9_376 k46 rfl oc1 ak1 rfl rfl (Nat.le_of_ble_eq_true rfl) (Nat.le_of_ble_eq_true rfl) rfl).trans (if_pos (show 1 < 2 from by decide)))))))
theorem X9_enlist_c (h : mm_M) (a1 : Int) (a2 : Int) (a3 : Int) : mm_call mX9_enlist [vR 0, vI a1, vI a2, vI a3] h = (mm_call mX4_addPost [vR 1, vI a1, vI a2, vI a3] h).bind (fun w => mm_ev mX9_enlist 2 10 [some (vR 0), some (vI a1), some (vI a2), some (vI a3), none] (w.1 ++ []) w.2) := X9_enlist_0 h a1 a2 a3
theorem X9_enlist_10 (h : mm_M) (a1 : Int) (a2 : Int) (a3 : Int) (s0 : Int) : mm_ev mX9_enlist 2 10 [some (vR 0), some (vI a1), some (vI a2), some (vI a3), none] [vI s0] h = (mm_call mX4_the [vR 1, vI 8] h).bind (fun w => mm_ev mX9_enlist 2 27 [some (vR 0), some (vI a1), some (vI a2), some (vI a3), some (vI s0)] (w.1 ++ [vI s0, vR 9]) w.2) := (ev_istore 12 [some (vR 0), some (vI a1), some (vI a2), some (vI a3), some (vI s0)] dX9_enlist_10 rfl rfl).trans ((ev_aload_n 13 dX9_enlist_12 rfl rfl).trans ((ev_getF 16 9 dX9_enlist_13 fl_9_64 oc0 ak0 rfl rf_0_8 rfl).trans ((ev_iload 18 dX9_enlist_16 rfl rfl).trans ((ev_aload_n 19 dX9_enlist_18 rfl rfl).trans ((ev_getF 22 1 dX9_enlist_19 fl_9_10 oc0 ak0 rfl rf_0_0 rfl).trans ((ev_bipush 24 (v := 8) dX9_enlist_22 rfl rfl).trans ((ev_callv mX4_the [vR 1, vI 8] [vI s0, vR 9] 27 dX9_enlist_24 ml_9_123 k42 rfl oc1 ak1 rfl rfl (Nat.le_of_ble_eq_true rfl) (Nat.le_of_ble_eq_true rfl) rfl).trans (if_pos (show 1 < 2 from by decide)))))))))
theorem X9_enlist_27 (h : mm_M) (a1 : Int) (a2 : Int) (a3 : Int) (a4 : Int) (s0 : Int) (s1 : Int) : mm_ev mX9_enlist 2 27 [some (vR 0), some (vI a1), some (vI a2), some (vI a3), some (vI a4)] [vI s0, vI s1, vR 9] h = (mm_call mX2_forget [vR 9, vI s1, vI s0] h).bind (fun w => mm_ev mX9_enlist 2 30 [some (vR 0), some (vI a1), some (vI a2), some (vI a3), some (vI a4)] (w.1 ++ []) w.2) := (ev_callv mX2_forget [vR 9, vI s1, vI s0] [] 30 dX9_enlist_27 ml_9_379 k15 rfl oc9 ak9 rfl rfl (Nat.le_of_ble_eq_true rfl) (Nat.le_of_ble_eq_true rfl) rfl).trans (if_pos (show 1 < 2 from by decide))
theorem X9_enlist_30 (h : mm_M) (a1 : Int) (a2 : Int) (a3 : Int) (a4 : Int) : mm_ev mX9_enlist 2 30 [some (vR 0), some (vI a1), some (vI a2), some (vI a3), some (vI a4)] [] h = some ([vI a4], h) := (ev_iload 32 dX9_enlist_30 rfl rfl).trans (ev_iret dX9_enlist_32 rfl)
theorem dX9_post_0 : decode mX9_post.1 0 = .ok (.aload_n 0, 1) := by decide +kernel
theorem dX9_post_1 : decode mX9_post.1 1 = .ok (.getfield 10, 3) := by decide +kernel
theorem dX9_post_4 : decode mX9_post.1 4 = .ok (.iconst 0, 1) := by decide +kernel
theorem dX9_post_5 : decode mX9_post.1 5 = .ok (.iload_n 1, 1) := by decide +kernel
theorem dX9_post_6 : decode mX9_post.1 6 = .ok (.invokevirtual 75, 3) := by decide +kernel
theorem dX9_post_9 : decode mX9_post.1 9 = .ok (.ifCond .eq 15, 3) := by decide +kernel
theorem dX9_post_12 : decode mX9_post.1 12 = .ok (.aload_n 0, 1) := by decide +kernel
theorem dX9_post_13 : decode mX9_post.1 13 = .ok (.getfield 10, 3) := by decide +kernel
theorem dX9_post_16 : decode mX9_post.1 16 = .ok (.iconst 1, 1) := by decide +kernel
theorem dX9_post_17 : decode mX9_post.1 17 = .ok (.iload_n 2, 1) := by decide +kernel
theorem dX9_post_18 : decode mX9_post.1 18 = .ok (.invokevirtual 75, 3) := by decide +kernel
theorem dX9_post_21 : decode mX9_post.1 21 = .ok (.ifCond .ne 5, 3) := by decide +kernel
theorem dX9_post_24 : decode mX9_post.1 24 = .ok (.iconst (-1), 1) := by decide +kernel
theorem dX9_post_25 : decode mX9_post.1 25 = .ok (.ireturn, 1) := by decide +kernel
theorem dX9_post_26 : decode mX9_post.1 26 = .ok (.aload_n 0, 1) := by decide +kernel
theorem dX9_post_27 : decode mX9_post.1 27 = .ok (.getfield 10, 3) := by decide +kernel
theorem dX9_post_30 : decode mX9_post.1 30 = .ok (.getfield 79, 3) := by decide +kernel
theorem dX9_post_33 : decode mX9_post.1 33 = .ok (.bipush 7, 2) := by decide +kernel
theorem dX9_post_35 : decode mX9_post.1 35 = .ok (.if_icmp .lt 8, 3) := by decide +kernel
theorem dX9_post_38 : decode mX9_post.1 38 = .ok (.bipush (-3), 2) := by decide +kernel
theorem dX9_post_40 : decode mX9_post.1 40 = .ok (.goto 10, 3) := by decide +kernel
theorem dX9_post_43 : decode mX9_post.1 43 = .ok (.aload_n 0, 1) := by decide +kernel
theorem dX9_post_44 : decode mX9_post.1 44 = .ok (.iload_n 1, 1) := by decide +kernel
theorem dX9_post_45 : decode mX9_post.1 45 = .ok (.iload_n 2, 1) := by decide +kernel
theorem dX9_post_46 : decode mX9_post.1 46 = .ok (.iconst 0, 1) := by decide +kernel
theorem dX9_post_47 : decode mX9_post.1 47 = .ok (.invokevirtual 83, 3) := by decide +kernel
theorem dX9_post_50 : decode mX9_post.1 50 = .ok (.ireturn, 1) := by decide +kernel
theorem X9_post_0 (h : mm_M) (a1 : Int) (a2 : Int) : mm_ev mX9_post 3 0 [some (vR 0), some (vI a1), some (vI a2)] [] h = (mm_call mX4_mayBe [vR 1, vI 0, vI a1] h).bind (fun w => mm_ev mX9_post 3 9 [some (vR 0), some (vI a1), some (vI a2)] (w.1 ++ []) w.2) := (ev_aload_n 1 dX9_post_0 rfl rfl).trans ((ev_getF 4 1 dX9_post_1 fl_9_10 oc0 ak0 rfl rf_0_0 rfl).trans ((ev_iconst 5 (v := 0) dX9_post_4 rfl rfl).trans ((ev_iload_n 6 dX9_post_5 rfl rfl).trans ((ev_callv mX4_mayBe [vR 1, vI 0, vI a1] [] 9 dX9_post_6 ml_9_75 k40 rfl oc1 ak1 rfl rfl (Nat.le_of_ble_eq_true rfl) (Nat.le_of_ble_eq_true rfl) rfl).trans (if_pos (show 1 < 3 from by decide))))))
theorem X9_post_c (h : mm_M) (a1 : Int) (a2 : Int) : mm_call mX9_post [vR 0, vI a1, vI a2] h = (mm_call mX4_mayBe [vR 1, vI 0, vI a1] h).bind (fun w => mm_ev mX9_post 3 9 [some (vR 0), some (vI a1), some (vI a2)] (w.1 ++ []) w.2) := X9_post_0 h a1 a2
theorem X9_post_9 (h : mm_M) (a1 : Int) (a2 : Int) (s0 : Int) : mm_ev mX9_post 3 9 [some (vR 0), some (vI a1), some (vI a2)] [vI s0] h = if s0 = 0 then some ([vI (-1)], h) else (mm_call mX4_mayBe [vR 1, vI 1, vI a2] h).bind (fun w => mm_ev mX9_post 3 21 [some (vR 0), some (vI a1), some (vI a2)] (w.1 ++ []) w.2) := (ev_if_eq 24 12 dX9_post_9 rfl rfl).trans (mm_ite ((ev_iconst 25 (v := (-1)) dX9_post_24 rfl rfl).trans (ev_iret dX9_post_25 rfl)) ((ev_aload_n 13 dX9_post_12 rfl rfl).trans ((ev_getF 16 1 dX9_post_13 fl_9_10 oc0 ak0 rfl rf_0_0 rfl).trans ((ev_iconst 17 (v := 1) dX9_post_16 rfl rfl).trans ((ev_iload_n 18 dX9_post_17 rfl rfl).trans ((ev_callv mX4_mayBe [vR 1, vI 1, vI a2] [] 21 dX9_post_18 ml_9_75 k40 rfl oc1 ak1 rfl rfl (Nat.le_of_ble_eq_true rfl) (Nat.le_of_ble_eq_true rfl) rfl).trans (if_pos (show 1 < 3 from by decide))))))))
theorem X9_post_21 (h : mm_M) (a1 : Int) (a2 : Int) (s0 : Int) : mm_ev mX9_post 3 21 [some (vR 0), some (vI a1), some (vI a2)] [vI s0] h = if ¬ s0 = 0 then if (h 1 1) < 7 then (mm_call mX9_enlist [vR 0, vI a1, vI a2, vI 0] h).bind (fun w => mm_ev mX9_post 3 50 [some (vR 0), some (vI a1), some (vI a2)] (w.1 ++ []) w.2) else mm_ev mX9_post 3 50 [some (vR 0), some (vI a1), some (vI a2)] [vI (-3)] h else some ([vI (-1)], h) := (ev_if_ne 26 24 dX9_post_21 rfl rfl).trans (mm_ite ((ev_aload_n 27 dX9_post_26 rfl rfl).trans ((ev_getF 30 1 dX9_post_27 fl_9_10 oc0 ak0 rfl rf_0_0 rfl).trans ((ev_getI 33 1 dX9_post_30 fl_9_79 oc1 ak1 (by decide) rfl rfl).trans ((ev_bipush 35 (v := 7) dX9_post_33 rfl rfl).trans ((ev_ic_lt 43 38 dX9_post_35 rfl rfl).trans (mm_ite ((ev_aload_n 44 dX9_post_43 rfl rfl).trans ((ev_iload_n 45 dX9_post_44 rfl rfl).trans ((ev_iload_n 46 dX9_post_45 rfl rfl).trans ((ev_iconst 47 (v := 0) dX9_post_46 rfl rfl).trans ((ev_callv mX9_enlist [vR 0, vI a1, vI a2, vI 0] [] 50 dX9_post_47 ml_9_83 k131 rfl oc0 ak0 rfl rfl (Nat.le_of_ble_eq_true rfl) (Nat.le_of_ble_eq_true rfl) rfl).trans (if_pos (show 2 < 3 from by decide))))))) ((ev_bipush 40 (v := (-3)) dX9_post_38 rfl rfl).trans (ev_goto 50 dX9_post_40 rfl)))))))) ((ev_iconst 25 (v := (-1)) dX9_post_24 rfl rfl).trans (ev_iret dX9_post_25 rfl)))
theorem X9_post_50 (h : mm_M) (a1 : Int) (a2 : Int) (s0 : Int) : mm_ev mX9_post 3 50 [some (vR 0), some (vI a1), some (vI a2)] [vI s0] h = some ([vI s0], h) := ev_iret dX9_post_50 rfl
