/-! rows of the methods, by program (wip/whole/gen13.py): X4, X7 -/
theorem dX4_doAgain_0 : decode mX4_doAgain.1 0 = .ok (.aload_n 0, 1) := by decide +kernel
theorem dX4_doAgain_1 : decode mX4_doAgain.1 1 = .ok (.getfield 62, 3) := by decide +kernel
theorem dX4_doAgain_4 : decode mX4_doAgain.1 4 = .ok (.ifCond .ne 6, 3) := by decide +kernel
theorem dX4_doAgain_7 : decode mX4_doAgain.1 7 = .ok (.bipush (-5), 2) := by decide +kernel
theorem dX4_doAgain_9 : decode mX4_doAgain.1 9 = .ok (.ireturn, 1) := by decide +kernel
theorem dX4_doAgain_10 : decode mX4_doAgain.1 10 = .ok (.aload_n 0, 1) := by decide +kernel
theorem dX4_doAgain_11 : decode mX4_doAgain.1 11 = .ok (.getfield 56, 3) := by decide +kernel
theorem dX4_doAgain_14 : decode mX4_doAgain.1 14 = .ok (.aload_n 0, 1) := by decide +kernel
theorem dX4_doAgain_15 : decode mX4_doAgain.1 15 = .ok (.getfield 59, 3) := by decide +kernel
theorem dX4_doAgain_18 : decode mX4_doAgain.1 18 = .ok (.iadd, 1) := by decide +kernel
theorem dX4_doAgain_19 : decode mX4_doAgain.1 19 = .ok (.bipush 40, 2) := by decide +kernel
theorem dX4_doAgain_21 : decode mX4_doAgain.1 21 = .ok (.irem, 1) := by decide +kernel
theorem dX4_doAgain_22 : decode mX4_doAgain.1 22 = .ok (.istore_n 1, 1) := by decide +kernel
theorem dX4_doAgain_23 : decode mX4_doAgain.1 23 = .ok (.aload_n 0, 1) := by decide +kernel
theorem dX4_doAgain_24 : decode mX4_doAgain.1 24 = .ok (.getfield 9, 3) := by decide +kernel
theorem dX4_doAgain_27 : decode mX4_doAgain.1 27 = .ok (.aload_n 0, 1) := by decide +kernel
theorem dX4_doAgain_28 : decode mX4_doAgain.1 28 = .ok (.getfield 15, 3) := by decide +kernel
theorem dX4_doAgain_31 : decode mX4_doAgain.1 31 = .ok (.iload_n 1, 1) := by decide +kernel
theorem dX4_doAgain_32 : decode mX4_doAgain.1 32 = .ok (.iaload, 1) := by decide +kernel
theorem dX4_doAgain_33 : decode mX4_doAgain.1 33 = .ok (.aload_n 0, 1) := by decide +kernel
theorem dX4_doAgain_34 : decode mX4_doAgain.1 34 = .ok (.getfield 21, 3) := by decide +kernel
theorem dX4_doAgain_37 : decode mX4_doAgain.1 37 = .ok (.iload_n 1, 1) := by decide +kernel
theorem dX4_doAgain_38 : decode mX4_doAgain.1 38 = .ok (.iaload, 1) := by decide +kernel
theorem dX4_doAgain_39 : decode mX4_doAgain.1 39 = .ok (.iastore, 1) := by decide +kernel
theorem dX4_doAgain_40 : decode mX4_doAgain.1 40 = .ok (.aload_n 0, 1) := by decide +kernel
theorem dX4_doAgain_41 : decode mX4_doAgain.1 41 = .ok (.dup, 1) := by decide +kernel
theorem dX4_doAgain_42 : decode mX4_doAgain.1 42 = .ok (.getfield 59, 3) := by decide +kernel
theorem dX4_doAgain_45 : decode mX4_doAgain.1 45 = .ok (.iconst 1, 1) := by decide +kernel
theorem dX4_doAgain_46 : decode mX4_doAgain.1 46 = .ok (.iadd, 1) := by decide +kernel
theorem dX4_doAgain_47 : decode mX4_doAgain.1 47 = .ok (.putfield 59, 3) := by decide +kernel
theorem dX4_doAgain_50 : decode mX4_doAgain.1 50 = .ok (.aload_n 0, 1) := by decide +kernel
theorem dX4_doAgain_51 : decode mX4_doAgain.1 51 = .ok (.dup, 1) := by decide +kernel
theorem dX4_doAgain_52 : decode mX4_doAgain.1 52 = .ok (.getfield 62, 3) := by decide +kernel
theorem dX4_doAgain_55 : decode mX4_doAgain.1 55 = .ok (.iconst 1, 1) := by decide +kernel
theorem dX4_doAgain_56 : decode mX4_doAgain.1 56 = .ok (.isub, 1) := by decide +kernel
theorem dX4_doAgain_57 : decode mX4_doAgain.1 57 = .ok (.putfield 62, 3) := by decide +kernel
theorem dX4_doAgain_60 : decode mX4_doAgain.1 60 = .ok (.aload_n 0, 1) := by decide +kernel
theorem dX4_doAgain_61 : decode mX4_doAgain.1 61 = .ok (.getfield 62, 3) := by decide +kernel
theorem dX4_doAgain_64 : decode mX4_doAgain.1 64 = .ok (.ireturn, 1) := by decide +kernel
theorem X4_doAgain_0 (h : mm_M) : mm_ev mX4_doAgain 1 0 [some (vR 1), none] [] h = if ¬ (h 1 3) = 0 then if 0 ≤ ((w32 ((h 1 4) + (h 1 2))).tmod 40) ∧ ((w32 ((h 1 4) + (h 1 2))).tmod 40) < 40 then if 0 ≤ ((w32 ((h 1 4) + (h 1 2))).tmod 40) ∧ ((w32 ((h 1 4) + (h 1 2))).tmod 40) < 40 then if 0 ≤ (h 12 ((w32 ((h 1 4) + (h 1 2))).tmod 40)) ∧ (h 12 ((w32 ((h 1 4) + (h 1 2))).tmod 40)) < 57 then some ([vI ((mUp (mUp (mUp h 11 (h 12 ((w32 ((h 1 4) + (h 1 2))).tmod 40)) (h 14 ((w32 ((h 1 4) + (h 1 2))).tmod 40))) 1 2 (w32 (((mUp h 11 (h 12 ((w32 ((h 1 4) + (h 1 2))).tmod 40)) (h 14 ((w32 ((h 1 4) + (h 1 2))).tmod 40))) 1 2) + 1))) 1 3 (w32 (((mUp (mUp h 11 (h 12 ((w32 ((h 1 4) + (h 1 2))).tmod 40)) (h 14 ((w32 ((h 1 4) + (h 1 2))).tmod 40))) 1 2 (w32 (((mUp h 11 (h 12 ((w32 ((h 1 4) + (h 1 2))).tmod 40)) (h 14 ((w32 ((h 1 4) + (h 1 2))).tmod 40))) 1 2) + 1))) 1 3) - 1))) 1 3)], mUp (mUp (mUp h 11 (h 12 ((w32 ((h 1 4) + (h 1 2))).tmod 40)) (h 14 ((w32 ((h 1 4) + (h 1 2))).tmod 40))) 1 2 (w32 (((mUp h 11 (h 12 ((w32 ((h 1 4) + (h 1 2))).tmod 40)) (h 14 ((w32 ((h 1 4) + (h 1 2))).tmod 40))) 1 2) + 1))) 1 3 (w32 (((mUp (mUp h 11 (h 12 ((w32 ((h 1 4) + (h 1 2))).tmod 40)) (h 14 ((w32 ((h 1 4) + (h 1 2))).tmod 40))) 1 2 (w32 (((mUp h 11 (h 12 ((w32 ((h 1 4) + (h 1 2))).tmod 40)) (h 14 ((w32 ((h 1 4) + (h 1 2))).tmod 40))) 1 2) + 1))) 1 3) - 1))) else none else none else none else some ([vI (-5)], h) := (ev_aload_n 1 dX4_doAgain_0 rfl rfl).trans ((ev_getI 4 3 dX4_doAgain_1 fl_4_62 oc1 ak1 (by decide) rfl rfl).trans ((ev_if_ne 10 7 dX4_doAgain_4 rfl rfl).trans (mm_ite ((ev_aload_n 11 dX4_doAgain_10 rfl rfl).trans ((ev_getI 14 4 dX4_doAgain_11 fl_4_56 oc1 ak1 (by decide) rfl rfl).trans ((ev_aload_n 15 dX4_doAgain_14 rfl rfl).trans ((ev_getI 18 2 dX4_doAgain_15 fl_4_59 oc1 ak1 (by decide) rfl rfl).trans ((ev_iadd 19 dX4_doAgain_18 rfl).trans ((ev_bipush 21 (v := 40) dX4_doAgain_19 rfl rfl).trans (((ev_irem 22 dX4_doAgain_21 rfl).trans (if_neg (by decide))).trans ((ev_istore_n 23 [some (vR 1), some (vI ((w32 ((h 1 4) + (h 1 2))).tmod 40))] dX4_doAgain_22 rfl rfl).trans ((ev_aload_n 24 dX4_doAgain_23 rfl rfl).trans ((ev_getF 27 11 dX4_doAgain_24 fl_4_9 oc1 ak1 rfl rf_1_0 rfl).trans ((ev_aload_n 28 dX4_doAgain_27 rfl rfl).trans ((ev_getF 31 12 dX4_doAgain_28 fl_4_15 oc1 ak1 rfl rf_1_5 rfl).trans ((ev_iload_n 32 dX4_doAgain_31 rfl rfl).trans ((ev_iald 33 40 dX4_doAgain_32 ak12 an12 rfl).trans (mm_ite ((ev_aload_n 34 dX4_doAgain_33 rfl rfl).trans ((ev_getF 37 14 dX4_doAgain_34 fl_4_21 oc1 ak1 rfl rf_1_7 rfl).trans ((ev_iload_n 38 dX4_doAgain_37 rfl rfl).trans ((ev_iald 39 40 dX4_doAgain_38 ak14 an14 rfl).trans (mm_ite ((ev_iast 40 57 dX4_doAgain_39 ak11 an11 rfl).trans (mm_ite ((ev_aload_n 41 dX4_doAgain_40 rfl rfl).trans ((ev_dup 42 dX4_doAgain_41 rfl rfl).trans ((ev_getI 45 2 dX4_doAgain_42 fl_4_59 oc1 ak1 (by decide) rfl rfl).trans ((ev_iconst 46 (v := 1) dX4_doAgain_45 rfl rfl).trans ((ev_iadd 47 dX4_doAgain_46 rfl).trans ((ev_putI 50 2 dX4_doAgain_47 fl_4_59 oc1 ak1 rfl rfl rfl).trans ((ev_aload_n 51 dX4_doAgain_50 rfl rfl).trans ((ev_dup 52 dX4_doAgain_51 rfl rfl).trans ((ev_getI 55 3 dX4_doAgain_52 fl_4_62 oc1 ak1 (by decide) rfl rfl).trans ((ev_iconst 56 (v := 1) dX4_doAgain_55 rfl rfl).trans ((ev_isub 57 dX4_doAgain_56 rfl).trans ((ev_putI 60 3 dX4_doAgain_57 fl_4_62 oc1 ak1 rfl rfl rfl).trans ((ev_aload_n 61 dX4_doAgain_60 rfl rfl).trans ((ev_getI 64 3 dX4_doAgain_61 fl_4_62 oc1 ak1 (by decide) rfl rfl).trans (ev_iret dX4_doAgain_64 rfl))))))))))))))) (rfl))) (rfl)))))) (rfl)))))))))))))))) ((ev_bipush 9 (v := (-5)) dX4_doAgain_7 rfl rfl).trans (ev_iret dX4_doAgain_9 rfl)))))
theorem X4_doAgain_c (h : mm_M) : mm_call mX4_doAgain [vR 1] h = if ¬ (h 1 3) = 0 then if 0 ≤ ((w32 ((h 1 4) + (h 1 2))).tmod 40) ∧ ((w32 ((h 1 4) + (h 1 2))).tmod 40) < 40 then if 0 ≤ ((w32 ((h 1 4) + (h 1 2))).tmod 40) ∧ ((w32 ((h 1 4) + (h 1 2))).tmod 40) < 40 then if 0 ≤ (h 12 ((w32 ((h 1 4) + (h 1 2))).tmod 40)) ∧ (h 12 ((w32 ((h 1 4) + (h 1 2))).tmod 40)) < 57 then some ([vI ((mUp (mUp (mUp h 11 (h 12 ((w32 ((h 1 4) + (h 1 2))).tmod 40)) (h 14 ((w32 ((h 1 4) + (h 1 2))).tmod 40))) 1 2 (w32 (((mUp h 11 (h 12 ((w32 ((h 1 4) + (h 1 2))).tmod 40)) (h 14 ((w32 ((h 1 4) + (h 1 2))).tmod 40))) 1 2) + 1))) 1 3 (w32 (((mUp (mUp h 11 (h 12 ((w32 ((h 1 4) + (h 1 2))).tmod 40)) (h 14 ((w32 ((h 1 4) + (h 1 2))).tmod 40))) 1 2 (w32 (((mUp h 11 (h 12 ((w32 ((h 1 4) + (h 1 2))).tmod 40)) (h 14 ((w32 ((h 1 4) + (h 1 2))).tmod 40))) 1 2) + 1))) 1 3) - 1))) 1 3)], mUp (mUp (mUp h 11 (h 12 ((w32 ((h 1 4) + (h 1 2))).tmod 40)) (h 14 ((w32 ((h 1 4) + (h 1 2))).tmod 40))) 1 2 (w32 (((mUp h 11 (h 12 ((w32 ((h 1 4) + (h 1 2))).tmod 40)) (h 14 ((w32 ((h 1 4) + (h 1 2))).tmod 40))) 1 2) + 1))) 1 3 (w32 (((mUp (mUp h 11 (h 12 ((w32 ((h 1 4) + (h 1 2))).tmod 40)) (h 14 ((w32 ((h 1 4) + (h 1 2))).tmod 40))) 1 2 (w32 (((mUp h 11 (h 12 ((w32 ((h 1 4) + (h 1 2))).tmod 40)) (h 14 ((w32 ((h 1 4) + (h 1 2))).tmod 40))) 1 2) + 1))) 1 3) - 1))) else none else none else none else some ([vI (-5)], h) := X4_doAgain_0 h 
theorem dX4_takeBack_0 : decode mX4_takeBack.1 0 = .ok (.aload_n 0, 1) := by decide +kernel
theorem dX4_takeBack_1 : decode mX4_takeBack.1 1 = .ok (.getfield 59, 3) := by decide +kernel
theorem dX4_takeBack_4 : decode mX4_takeBack.1 4 = .ok (.ifCond .ne 6, 3) := by decide +kernel
theorem dX4_takeBack_7 : decode mX4_takeBack.1 7 = .ok (.bipush (-5), 2) := by decide +kernel
theorem dX4_takeBack_9 : decode mX4_takeBack.1 9 = .ok (.ireturn, 1) := by decide +kernel
theorem dX4_takeBack_10 : decode mX4_takeBack.1 10 = .ok (.aload_n 0, 1) := by decide +kernel
theorem dX4_takeBack_11 : decode mX4_takeBack.1 11 = .ok (.dup, 1) := by decide +kernel
theorem dX4_takeBack_12 : decode mX4_takeBack.1 12 = .ok (.getfield 59, 3) := by decide +kernel
theorem dX4_takeBack_15 : decode mX4_takeBack.1 15 = .ok (.iconst 1, 1) := by decide +kernel
theorem dX4_takeBack_16 : decode mX4_takeBack.1 16 = .ok (.isub, 1) := by decide +kernel
theorem dX4_takeBack_17 : decode mX4_takeBack.1 17 = .ok (.putfield 59, 3) := by decide +kernel
theorem dX4_takeBack_20 : decode mX4_takeBack.1 20 = .ok (.aload_n 0, 1) := by decide +kernel
theorem dX4_takeBack_21 : decode mX4_takeBack.1 21 = .ok (.dup, 1) := by decide +kernel
theorem dX4_takeBack_22 : decode mX4_takeBack.1 22 = .ok (.getfield 62, 3) := by decide +kernel
theorem dX4_takeBack_25 : decode mX4_takeBack.1 25 = .ok (.iconst 1, 1) := by decide +kernel
theorem dX4_takeBack_26 : decode mX4_takeBack.1 26 = .ok (.iadd, 1) := by decide +kernel
theorem dX4_takeBack_27 : decode mX4_takeBack.1 27 = .ok (.putfield 62, 3) := by decide +kernel
theorem dX4_takeBack_30 : decode mX4_takeBack.1 30 = .ok (.aload_n 0, 1) := by decide +kernel
theorem dX4_takeBack_31 : decode mX4_takeBack.1 31 = .ok (.getfield 56, 3) := by decide +kernel
theorem dX4_takeBack_34 : decode mX4_takeBack.1 34 = .ok (.aload_n 0, 1) := by decide +kernel
theorem dX4_takeBack_35 : decode mX4_takeBack.1 35 = .ok (.getfield 59, 3) := by decide +kernel
theorem dX4_takeBack_38 : decode mX4_takeBack.1 38 = .ok (.iadd, 1) := by decide +kernel
theorem dX4_takeBack_39 : decode mX4_takeBack.1 39 = .ok (.bipush 40, 2) := by decide +kernel
theorem dX4_takeBack_41 : decode mX4_takeBack.1 41 = .ok (.irem, 1) := by decide +kernel
theorem dX4_takeBack_42 : decode mX4_takeBack.1 42 = .ok (.istore_n 1, 1) := by decide +kernel
theorem dX4_takeBack_43 : decode mX4_takeBack.1 43 = .ok (.aload_n 0, 1) := by decide +kernel
theorem dX4_takeBack_44 : decode mX4_takeBack.1 44 = .ok (.getfield 9, 3) := by decide +kernel
theorem dX4_takeBack_47 : decode mX4_takeBack.1 47 = .ok (.aload_n 0, 1) := by decide +kernel
theorem dX4_takeBack_48 : decode mX4_takeBack.1 48 = .ok (.getfield 15, 3) := by decide +kernel
theorem dX4_takeBack_51 : decode mX4_takeBack.1 51 = .ok (.iload_n 1, 1) := by decide +kernel
theorem dX4_takeBack_52 : decode mX4_takeBack.1 52 = .ok (.iaload, 1) := by decide +kernel
theorem dX4_takeBack_53 : decode mX4_takeBack.1 53 = .ok (.aload_n 0, 1) := by decide +kernel
theorem dX4_takeBack_54 : decode mX4_takeBack.1 54 = .ok (.getfield 18, 3) := by decide +kernel
theorem dX4_takeBack_57 : decode mX4_takeBack.1 57 = .ok (.iload_n 1, 1) := by decide +kernel
theorem dX4_takeBack_58 : decode mX4_takeBack.1 58 = .ok (.iaload, 1) := by decide +kernel
theorem dX4_takeBack_59 : decode mX4_takeBack.1 59 = .ok (.iastore, 1) := by decide +kernel
theorem dX4_takeBack_60 : decode mX4_takeBack.1 60 = .ok (.aload_n 0, 1) := by decide +kernel
theorem dX4_takeBack_61 : decode mX4_takeBack.1 61 = .ok (.getfield 59, 3) := by decide +kernel
theorem dX4_takeBack_64 : decode mX4_takeBack.1 64 = .ok (.ireturn, 1) := by decide +kernel
theorem X4_takeBack_0 (h : mm_M) : mm_ev mX4_takeBack 1 0 [some (vR 1), none] [] h = if ¬ (h 1 2) = 0 then if 0 ≤ ((w32 (((mUp (mUp h 1 2 (w32 ((h 1 2) - 1))) 1 3 (w32 (((mUp h 1 2 (w32 ((h 1 2) - 1))) 1 3) + 1))) 1 4) + ((mUp (mUp h 1 2 (w32 ((h 1 2) - 1))) 1 3 (w32 (((mUp h 1 2 (w32 ((h 1 2) - 1))) 1 3) + 1))) 1 2))).tmod 40) ∧ ((w32 (((mUp (mUp h 1 2 (w32 ((h 1 2) - 1))) 1 3 (w32 (((mUp h 1 2 (w32 ((h 1 2) - 1))) 1 3) + 1))) 1 4) + ((mUp (mUp h 1 2 (w32 ((h 1 2) - 1))) 1 3 (w32 (((mUp h 1 2 (w32 ((h 1 2) - 1))) 1 3) + 1))) 1 2))).tmod 40) < 40 then if 0 ≤ ((w32 (((mUp (mUp h 1 2 (w32 ((h 1 2) - 1))) 1 3 (w32 (((mUp h 1 2 (w32 ((h 1 2) - 1))) 1 3) + 1))) 1 4) + ((mUp (mUp h 1 2 (w32 ((h 1 2) - 1))) 1 3 (w32 (((mUp h 1 2 (w32 ((h 1 2) - 1))) 1 3) + 1))) 1 2))).tmod 40) ∧ ((w32 (((mUp (mUp h 1 2 (w32 ((h 1 2) - 1))) 1 3 (w32 (((mUp h 1 2 (w32 ((h 1 2) - 1))) 1 3) + 1))) 1 4) + ((mUp (mUp h 1 2 (w32 ((h 1 2) - 1))) 1 3 (w32 (((mUp h 1 2 (w32 ((h 1 2) - 1))) 1 3) + 1))) 1 2))).tmod 40) < 40 then if 0 ≤ ((mUp (mUp h 1 2 (w32 ((h 1 2) - 1))) 1 3 (w32 (((mUp h 1 2 (w32 ((h 1 2) - 1))) 1 3) + 1))) 12 ((w32 (((mUp (mUp h 1 2 (w32 ((h 1 2) - 1))) 1 3 (w32 (((mUp h 1 2 (w32 ((h 1 2) - 1))) 1 3) + 1))) 1 4) + ((mUp (mUp h 1 2 (w32 ((h 1 2) - 1))) 1 3 (w32 (((mUp h 1 2 (w32 ((h 1 2) - 1))) 1 3) + 1))) 1 2))).tmod 40)) ∧ ((mUp (mUp h 1 2 (w32 ((h 1 2) - 1))) 1 3 (w32 (((mUp h 1 2 (w32 ((h 1 2) - 1))) 1 3) + 1))) 12 ((w32 (((mUp (mUp h 1 2 (w32 ((h 1 2) - 1))) 1 3 (w32 (((mUp h 1 2 (w32 ((h 1 2) - 1))) 1 3) + 1))) 1 4) + ((mUp (mUp h 1 2 (w32 ((h 1 2) - 1))) 1 3 (w32 (((mUp h 1 2 (w32 ((h 1 2) - 1))) 1 3) + 1))) 1 2))).tmod 40)) < 57 then some ([vI ((mUp (mUp (mUp h 1 2 (w32 ((h 1 2) - 1))) 1 3 (w32 (((mUp h 1 2 (w32 ((h 1 2) - 1))) 1 3) + 1))) 11 ((mUp (mUp h 1 2 (w32 ((h 1 2) - 1))) 1 3 (w32 (((mUp h 1 2 (w32 ((h 1 2) - 1))) 1 3) + 1))) 12 ((w32 (((mUp (mUp h 1 2 (w32 ((h 1 2) - 1))) 1 3 (w32 (((mUp h 1 2 (w32 ((h 1 2) - 1))) 1 3) + 1))) 1 4) + ((mUp (mUp h 1 2 (w32 ((h 1 2) - 1))) 1 3 (w32 (((mUp h 1 2 (w32 ((h 1 2) - 1))) 1 3) + 1))) 1 2))).tmod 40)) ((mUp (mUp h 1 2 (w32 ((h 1 2) - 1))) 1 3 (w32 (((mUp h 1 2 (w32 ((h 1 2) - 1))) 1 3) + 1))) 13 ((w32 (((mUp (mUp h 1 2 (w32 ((h 1 2) - 1))) 1 3 (w32 (((mUp h 1 2 (w32 ((h 1 2) - 1))) 1 3) + 1))) 1 4) + ((mUp (mUp h 1 2 (w32 ((h 1 2) - 1))) 1 3 (w32 (((mUp h 1 2 (w32 ((h 1 2) - 1))) 1 3) + 1))) 1 2))).tmod 40))) 1 2)], mUp (mUp (mUp h 1 2 (w32 ((h 1 2) - 1))) 1 3 (w32 (((mUp h 1 2 (w32 ((h 1 2) - 1))) 1 3) + 1))) 11 ((mUp (mUp h 1 2 (w32 ((h 1 2) - 1))) 1 3 (w32 (((mUp h 1 2 (w32 ((h 1 2) - 1))) 1 3) + 1))) 12 ((w32 (((mUp (mUp h 1 2 (w32 ((h 1 2) - 1))) 1 3 (w32 (((mUp h 1 2 (w32 ((h 1 2) - 1))) 1 3) + 1))) 1 4) + ((mUp (mUp h 1 2 (w32 ((h 1 2) - 1))) 1 3 (w32 (((mUp h 1 2 (w32 ((h 1 2) - 1))) 1 3) + 1))) 1 2))).tmod 40)) ((mUp (mUp h 1 2 (w32 ((h 1 2) - 1))) 1 3 (w32 (((mUp h 1 2 (w32 ((h 1 2) - 1))) 1 3) + 1))) 13 ((w32 (((mUp (mUp h 1 2 (w32 ((h 1 2) - 1))) 1 3 (w32 (((mUp h 1 2 (w32 ((h 1 2) - 1))) 1 3) + 1))) 1 4) + ((mUp (mUp h 1 2 (w32 ((h 1 2) - 1))) 1 3 (w32 (((mUp h 1 2 (w32 ((h 1 2) - 1))) 1 3) + 1))) 1 2))).tmod 40))) else none else none else none else some ([vI (-5)], h) := (ev_aload_n 1 dX4_takeBack_0 rfl rfl).trans ((ev_getI 4 2 dX4_takeBack_1 fl_4_59 oc1 ak1 (by decide) rfl rfl).trans ((ev_if_ne 10 7 dX4_takeBack_4 rfl rfl).trans (mm_ite ((ev_aload_n 11 dX4_takeBack_10 rfl rfl).trans ((ev_dup 12 dX4_takeBack_11 rfl rfl).trans ((ev_getI 15 2 dX4_takeBack_12 fl_4_59 oc1 ak1 (by decide) rfl rfl).trans ((ev_iconst 16 (v := 1) dX4_takeBack_15 rfl rfl).trans ((ev_isub 17 dX4_takeBack_16 rfl).trans ((ev_putI 20 2 dX4_takeBack_17 fl_4_59 oc1 ak1 rfl rfl rfl).trans ((ev_aload_n 21 dX4_takeBack_20 rfl rfl).trans ((ev_dup 22 dX4_takeBack_21 rfl rfl).trans ((ev_getI 25 3 dX4_takeBack_22 fl_4_62 oc1 ak1 (by decide) rfl rfl).trans ((ev_iconst 26 (v := 1) dX4_takeBack_25 rfl rfl).trans ((ev_iadd 27 dX4_takeBack_26 rfl).trans ((ev_putI 30 3 dX4_takeBack_27 fl_4_62 oc1 ak1 rfl rfl rfl).trans ((ev_aload_n 31 dX4_takeBack_30 rfl rfl).trans ((ev_getI 34 4 dX4_takeBack_31 fl_4_56 oc1 ak1 (by decide) rfl rfl).trans ((ev_aload_n 35 dX4_takeBack_34 rfl rfl).trans ((ev_getI 38 2 dX4_takeBack_35 fl_4_59 oc1 ak1 (by decide) rfl rfl).trans ((ev_iadd 39 dX4_takeBack_38 rfl).trans ((ev_bipush 41 (v := 40) dX4_takeBack_39 rfl rfl).trans (((ev_irem 42 dX4_takeBack_41 rfl).trans (if_neg (by decide))).trans ((ev_istore_n 43 [some (vR 1), some (vI ((w32 (((mUp (mUp h 1 2 (w32 ((h 1 2) - 1))) 1 3 (w32 (((mUp h 1 2 (w32 ((h 1 2) - 1))) 1 3) + 1))) 1 4) + ((mUp (mUp h 1 2 (w32 ((h 1 2) - 1))) 1 3 (w32 (((mUp h 1 2 (w32 ((h 1 2) - 1))) 1 3) + 1))) 1 2))).tmod 40))] dX4_takeBack_42 rfl rfl).trans ((ev_aload_n 44 dX4_takeBack_43 rfl rfl).trans ((ev_getF 47 11 dX4_takeBack_44 fl_4_9 oc1 ak1 rfl rf_1_0 rfl).trans ((ev_aload_n 48 dX4_takeBack_47 rfl rfl).trans ((ev_getF 51 12 dX4_takeBack_48 fl_4_15 oc1 ak1 rfl rf_1_5 rfl).trans ((ev_iload_n 52 dX4_takeBack_51 rfl rfl).trans ((ev_iald 53 40 dX4_takeBack_52 ak12 an12 rfl).trans (mm_ite ((ev_aload_n 54 dX4_takeBack_53 rfl rfl).trans ((ev_getF 57 13 dX4_takeBack_54 fl_4_18 oc1 ak1 rfl rf_1_6 rfl).trans ((ev_iload_n 58 dX4_takeBack_57 rfl rfl).trans ((ev_iald 59 40 dX4_takeBack_58 ak13 an13 rfl).trans (mm_ite ((ev_iast 60 57 dX4_takeBack_59 ak11 an11 rfl).trans (mm_ite ((ev_aload_n 61 dX4_takeBack_60 rfl rfl).trans ((ev_getI 64 2 dX4_takeBack_61 fl_4_59 oc1 ak1 (by decide) rfl rfl).trans (ev_iret dX4_takeBack_64 rfl))) (rfl))) (rfl)))))) (rfl)))))))))))))))))))))))))))) ((ev_bipush 9 (v := (-5)) dX4_takeBack_7 rfl rfl).trans (ev_iret dX4_takeBack_9 rfl)))))
theorem X4_takeBack_c (h : mm_M) : mm_call mX4_takeBack [vR 1] h = if ¬ (h 1 2) = 0 then if 0 ≤ ((w32 (((mUp (mUp h 1 2 (w32 ((h 1 2) - 1))) 1 3 (w32 (((mUp h 1 2 (w32 ((h 1 2) - 1))) 1 3) + 1))) 1 4) + ((mUp (mUp h 1 2 (w32 ((h 1 2) - 1))) 1 3 (w32 (((mUp h 1 2 (w32 ((h 1 2) - 1))) 1 3) + 1))) 1 2))).tmod 40) ∧ ((w32 (((mUp (mUp h 1 2 (w32 ((h 1 2) - 1))) 1 3 (w32 (((mUp h 1 2 (w32 ((h 1 2) - 1))) 1 3) + 1))) 1 4) + ((mUp (mUp h 1 2 (w32 ((h 1 2) - 1))) 1 3 (w32 (((mUp h 1 2 (w32 ((h 1 2) - 1))) 1 3) + 1))) 1 2))).tmod 40) < 40 then if 0 ≤ ((w32 (((mUp (mUp h 1 2 (w32 ((h 1 2) - 1))) 1 3 (w32 (((mUp h 1 2 (w32 ((h 1 2) - 1))) 1 3) + 1))) 1 4) + ((mUp (mUp h 1 2 (w32 ((h 1 2) - 1))) 1 3 (w32 (((mUp h 1 2 (w32 ((h 1 2) - 1))) 1 3) + 1))) 1 2))).tmod 40) ∧ ((w32 (((mUp (mUp h 1 2 (w32 ((h 1 2) - 1))) 1 3 (w32 (((mUp h 1 2 (w32 ((h 1 2) - 1))) 1 3) + 1))) 1 4) + ((mUp (mUp h 1 2 (w32 ((h 1 2) - 1))) 1 3 (w32 (((mUp h 1 2 (w32 ((h 1 2) - 1))) 1 3) + 1))) 1 2))).tmod 40) < 40 then if 0 ≤ ((mUp (mUp h 1 2 (w32 ((h 1 2) - 1))) 1 3 (w32 (((mUp h 1 2 (w32 ((h 1 2) - 1))) 1 3) + 1))) 12 ((w32 (((mUp (mUp h 1 2 (w32 ((h 1 2) - 1))) 1 3 (w32 (((mUp h 1 2 (w32 ((h 1 2) - 1))) 1 3) + 1))) 1 4) + ((mUp (mUp h 1 2 (w32 ((h 1 2) - 1))) 1 3 (w32 (((mUp h 1 2 (w32 ((h 1 2) - 1))) 1 3) + 1))) 1 2))).tmod 40)) ∧ ((mUp (mUp h 1 2 (w32 ((h 1 2) - 1))) 1 3 (w32 (((mUp h 1 2 (w32 ((h 1 2) - 1))) 1 3) + 1))) 12 ((w32 (((mUp (mUp h 1 2 (w32 ((h 1 2) - 1))) 1 3 (w32 (((mUp h 1 2 (w32 ((h 1 2) - 1))) 1 3) + 1))) 1 4) + ((mUp (mUp h 1 2 (w32 ((h 1 2) - 1))) 1 3 (w32 (((mUp h 1 2 (w32 ((h 1 2) - 1))) 1 3) + 1))) 1 2))).tmod 40)) < 57 then some ([vI ((mUp (mUp (mUp h 1 2 (w32 ((h 1 2) - 1))) 1 3 (w32 (((mUp h 1 2 (w32 ((h 1 2) - 1))) 1 3) + 1))) 11 ((mUp (mUp h 1 2 (w32 ((h 1 2) - 1))) 1 3 (w32 (((mUp h 1 2 (w32 ((h 1 2) - 1))) 1 3) + 1))) 12 ((w32 (((mUp (mUp h 1 2 (w32 ((h 1 2) - 1))) 1 3 (w32 (((mUp h 1 2 (w32 ((h 1 2) - 1))) 1 3) + 1))) 1 4) + ((mUp (mUp h 1 2 (w32 ((h 1 2) - 1))) 1 3 (w32 (((mUp h 1 2 (w32 ((h 1 2) - 1))) 1 3) + 1))) 1 2))).tmod 40)) ((mUp (mUp h 1 2 (w32 ((h 1 2) - 1))) 1 3 (w32 (((mUp h 1 2 (w32 ((h 1 2) - 1))) 1 3) + 1))) 13 ((w32 (((mUp (mUp h 1 2 (w32 ((h 1 2) - 1))) 1 3 (w32 (((mUp h 1 2 (w32 ((h 1 2) - 1))) 1 3) + 1))) 1 4) + ((mUp (mUp h 1 2 (w32 ((h 1 2) - 1))) 1 3 (w32 (((mUp h 1 2 (w32 ((h 1 2) - 1))) 1 3) + 1))) 1 2))).tmod 40))) 1 2)], mUp (mUp (mUp h 1 2 (w32 ((h 1 2) - 1))) 1 3 (w32 (((mUp h 1 2 (w32 ((h 1 2) - 1))) 1 3) + 1))) 11 ((mUp (mUp h 1 2 (w32 ((h 1 2) - 1))) 1 3 (w32 (((mUp h 1 2 (w32 ((h 1 2) - 1))) 1 3) + 1))) 12 ((w32 (((mUp (mUp h 1 2 (w32 ((h 1 2) - 1))) 1 3 (w32 (((mUp h 1 2 (w32 ((h 1 2) - 1))) 1 3) + 1))) 1 4) + ((mUp (mUp h 1 2 (w32 ((h 1 2) - 1))) 1 3 (w32 (((mUp h 1 2 (w32 ((h 1 2) - 1))) 1 3) + 1))) 1 2))).tmod 40)) ((mUp (mUp h 1 2 (w32 ((h 1 2) - 1))) 1 3 (w32 (((mUp h 1 2 (w32 ((h 1 2) - 1))) 1 3) + 1))) 13 ((w32 (((mUp (mUp h 1 2 (w32 ((h 1 2) - 1))) 1 3 (w32 (((mUp h 1 2 (w32 ((h 1 2) - 1))) 1 3) + 1))) 1 4) + ((mUp (mUp h 1 2 (w32 ((h 1 2) - 1))) 1 3 (w32 (((mUp h 1 2 (w32 ((h 1 2) - 1))) 1 3) + 1))) 1 2))).tmod 40))) else none else none else none else some ([vI (-5)], h) := X4_takeBack_0 h 
theorem dX4_the_0 : decode mX4_the.1 0 = .ok (.iload_n 1, 1) := by decide +kernel
theorem dX4_the_1 : decode mX4_the.1 1 = .ok (.bipush 8, 2) := by decide +kernel
theorem dX4_the_3 : decode mX4_the.1 3 = .ok (.if_icmp .lt 9, 3) := by decide +kernel
theorem dX4_the_6 : decode mX4_the.1 6 = .ok (.iload_n 1, 1) := by decide +kernel
theorem dX4_the_7 : decode mX4_the.1 7 = .ok (.bipush 11, 2) := by decide +kernel
theorem dX4_the_9 : decode mX4_the.1 9 = .ok (.if_icmp .le 7, 3) := by decide +kernel
theorem dX4_the_12 : decode mX4_the.1 12 = .ok (.iconst 0, 1) := by decide +kernel
theorem dX4_the_13 : decode mX4_the.1 13 = .ok (.goto 13, 3) := by decide +kernel
theorem dX4_the_16 : decode mX4_the.1 16 = .ok (.aload_n 0, 1) := by decide +kernel
theorem dX4_the_17 : decode mX4_the.1 17 = .ok (.getfield 9, 3) := by decide +kernel
theorem dX4_the_20 : decode mX4_the.1 20 = .ok (.getstatic 24, 3) := by decide +kernel
theorem dX4_the_23 : decode mX4_the.1 23 = .ok (.iload_n 1, 1) := by decide +kernel
theorem dX4_the_24 : decode mX4_the.1 24 = .ok (.iaload, 1) := by decide +kernel
theorem dX4_the_25 : decode mX4_the.1 25 = .ok (.iaload, 1) := by decide +kernel
theorem dX4_the_26 : decode mX4_the.1 26 = .ok (.ireturn, 1) := by decide +kernel
theorem X4_the_0 (h : mm_M) (a1 : Int) : mm_ev mX4_the 1 0 [some (vR 1), some (vI a1)] [] h = if a1 < 8 then some ([vI 0], h) else if a1 ≤ 11 then if 0 ≤ a1 ∧ a1 < 12 then if 0 ≤ (mm_ct 100 a1) ∧ (mm_ct 100 a1) < 57 then some ([vI (h 11 (mm_ct 100 a1))], h) else none else none else some ([vI 0], h) := (ev_iload_n 1 dX4_the_0 rfl rfl).trans ((ev_bipush 3 (v := 8) dX4_the_1 rfl rfl).trans ((ev_ic_lt 12 6 dX4_the_3 rfl rfl).trans (mm_ite ((ev_iconst 13 (v := 0) dX4_the_12 rfl rfl).trans ((ev_goto 26 dX4_the_13 rfl).trans (ev_iret dX4_the_26 rfl))) ((ev_iload_n 7 dX4_the_6 rfl rfl).trans ((ev_bipush 9 (v := 11) dX4_the_7 rfl rfl).trans ((ev_ic_le 16 12 dX4_the_9 rfl rfl).trans (mm_ite ((ev_aload_n 17 dX4_the_16 rfl rfl).trans ((ev_getF 20 11 dX4_the_17 fl_4_9 oc1 ak1 rfl rf_1_0 rfl).trans ((ev_gets 23 100 dX4_the_20 st_4_24 rfl).trans ((ev_iload_n 24 dX4_the_23 rfl rfl).trans ((ev_ialdC 25 12 dX4_the_24 ak100 an100 rfl).trans (mm_ite ((ev_iald 26 57 dX4_the_25 ak11 an11 rfl).trans (mm_ite (ev_iret dX4_the_26 rfl) (rfl))) (rfl))))))) ((ev_iconst 13 (v := 0) dX4_the_12 rfl rfl).trans ((ev_goto 26 dX4_the_13 rfl).trans (ev_iret dX4_the_26 rfl))))))))))
theorem X4_the_c (h : mm_M) (a1 : Int) : mm_call mX4_the [vR 1, vI a1] h = if a1 < 8 then some ([vI 0], h) else if a1 ≤ 11 then if 0 ≤ a1 ∧ a1 < 12 then if 0 ≤ (mm_ct 100 a1) ∧ (mm_ct 100 a1) < 57 then some ([vI (h 11 (mm_ct 100 a1))], h) else none else none else some ([vI 0], h) := X4_the_0 h a1
theorem dX4_isPost_0 : decode mX4_isPost.1 0 = .ok (.iload_n 1, 1) := by decide +kernel
theorem dX4_isPost_1 : decode mX4_isPost.1 1 = .ok (.ifCond .lt 15, 3) := by decide +kernel
theorem dX4_isPost_4 : decode mX4_isPost.1 4 = .ok (.iload_n 1, 1) := by decide +kernel
theorem dX4_isPost_5 : decode mX4_isPost.1 5 = .ok (.aload_n 0, 1) := by decide +kernel
theorem dX4_isPost_6 : decode mX4_isPost.1 6 = .ok (.getfield 27, 3) := by decide +kernel
theorem dX4_isPost_9 : decode mX4_isPost.1 9 = .ok (.if_icmp .ge 7, 3) := by decide +kernel
theorem dX4_isPost_12 : decode mX4_isPost.1 12 = .ok (.iconst 1, 1) := by decide +kernel
theorem dX4_isPost_13 : decode mX4_isPost.1 13 = .ok (.goto 4, 3) := by decide +kernel
theorem dX4_isPost_16 : decode mX4_isPost.1 16 = .ok (.iconst 0, 1) := by decide +kernel
theorem dX4_isPost_17 : decode mX4_isPost.1 17 = .ok (.ireturn, 1) := by decide +kernel
theorem X4_isPost_0 (h : mm_M) (a1 : Int) : mm_ev mX4_isPost 1 0 [some (vR 1), some (vI a1)] [] h = if a1 < 0 then some ([vI 0], h) else if (h 1 1) ≤ a1 then some ([vI 0], h) else some ([vI 1], h) := (ev_iload_n 1 dX4_isPost_0 rfl rfl).trans ((ev_if_lt 16 4 dX4_isPost_1 rfl rfl).trans (mm_ite ((ev_iconst 17 (v := 0) dX4_isPost_16 rfl rfl).trans (ev_zret0 dX4_isPost_17 rfl)) ((ev_iload_n 5 dX4_isPost_4 rfl rfl).trans ((ev_aload_n 6 dX4_isPost_5 rfl rfl).trans ((ev_getI 9 1 dX4_isPost_6 fl_4_27 oc1 ak1 (by decide) rfl rfl).trans ((ev_ic_ge 16 12 dX4_isPost_9 rfl rfl).trans (mm_ite ((ev_iconst 17 (v := 0) dX4_isPost_16 rfl rfl).trans (ev_zret0 dX4_isPost_17 rfl)) ((ev_iconst 13 (v := 1) dX4_isPost_12 rfl rfl).trans ((ev_goto 17 dX4_isPost_13 rfl).trans (ev_zret1 dX4_isPost_17 rfl))))))))))
theorem X4_isPost_c (h : mm_M) (a1 : Int) : mm_call mX4_isPost [vR 1, vI a1] h = if a1 < 0 then some ([vI 0], h) else if (h 1 1) ≤ a1 then some ([vI 0], h) else some ([vI 1], h) := X4_isPost_0 h a1
theorem dX4_mayBe_0 : decode mX4_mayBe.1 0 = .ok (.iload_n 1, 1) := by decide +kernel
theorem dX4_mayBe_1 : decode mX4_mayBe.1 1 = .ok (.ifCond .lt 31, 3) := by decide +kernel
theorem dX4_mayBe_4 : decode mX4_mayBe.1 4 = .ok (.iload_n 1, 1) := by decide +kernel
theorem dX4_mayBe_5 : decode mX4_mayBe.1 5 = .ok (.bipush 11, 2) := by decide +kernel
theorem dX4_mayBe_7 : decode mX4_mayBe.1 7 = .ok (.if_icmp .gt 25, 3) := by decide +kernel
theorem dX4_mayBe_10 : decode mX4_mayBe.1 10 = .ok (.iload_n 2, 1) := by decide +kernel
theorem dX4_mayBe_11 : decode mX4_mayBe.1 11 = .ok (.getstatic 34, 3) := by decide +kernel
theorem dX4_mayBe_14 : decode mX4_mayBe.1 14 = .ok (.iload_n 1, 1) := by decide +kernel
theorem dX4_mayBe_15 : decode mX4_mayBe.1 15 = .ok (.iaload, 1) := by decide +kernel
theorem dX4_mayBe_16 : decode mX4_mayBe.1 16 = .ok (.if_icmp .lt 16, 3) := by decide +kernel
theorem dX4_mayBe_19 : decode mX4_mayBe.1 19 = .ok (.iload_n 2, 1) := by decide +kernel
theorem dX4_mayBe_20 : decode mX4_mayBe.1 20 = .ok (.getstatic 37, 3) := by decide +kernel
theorem dX4_mayBe_23 : decode mX4_mayBe.1 23 = .ok (.iload_n 1, 1) := by decide +kernel
theorem dX4_mayBe_24 : decode mX4_mayBe.1 24 = .ok (.iaload, 1) := by decide +kernel
theorem dX4_mayBe_25 : decode mX4_mayBe.1 25 = .ok (.if_icmp .gt 7, 3) := by decide +kernel
theorem dX4_mayBe_28 : decode mX4_mayBe.1 28 = .ok (.iconst 1, 1) := by decide +kernel
theorem dX4_mayBe_29 : decode mX4_mayBe.1 29 = .ok (.goto 4, 3) := by decide +kernel
theorem dX4_mayBe_32 : decode mX4_mayBe.1 32 = .ok (.iconst 0, 1) := by decide +kernel
theorem dX4_mayBe_33 : decode mX4_mayBe.1 33 = .ok (.ireturn, 1) := by decide +kernel
theorem X4_mayBe_0 (h : mm_M) (a1 : Int) (a2 : Int) : mm_ev mX4_mayBe 1 0 [some (vR 1), some (vI a1), some (vI a2)] [] h = if a1 < 0 then some ([vI 0], h) else if 11 < a1 then some ([vI 0], h) else if 0 ≤ a1 ∧ a1 < 12 then if a2 < (mm_ct 102 a1) then some ([vI 0], h) else if 0 ≤ a1 ∧ a1 < 12 then if (mm_ct 103 a1) < a2 then some ([vI 0], h) else some ([vI 1], h) else none else none := (ev_iload_n 1 dX4_mayBe_0 rfl rfl).trans ((ev_if_lt 32 4 dX4_mayBe_1 rfl rfl).trans (mm_ite ((ev_iconst 33 (v := 0) dX4_mayBe_32 rfl rfl).trans (ev_zret0 dX4_mayBe_33 rfl)) ((ev_iload_n 5 dX4_mayBe_4 rfl rfl).trans ((ev_bipush 7 (v := 11) dX4_mayBe_5 rfl rfl).trans ((ev_ic_gt 32 10 dX4_mayBe_7 rfl rfl).trans (mm_ite ((ev_iconst 33 (v := 0) dX4_mayBe_32 rfl rfl).trans (ev_zret0 dX4_mayBe_33 rfl)) ((ev_iload_n 11 dX4_mayBe_10 rfl rfl).trans ((ev_gets 14 102 dX4_mayBe_11 st_4_34 rfl).trans ((ev_iload_n 15 dX4_mayBe_14 rfl rfl).trans ((ev_ialdC 16 12 dX4_mayBe_15 ak102 an102 rfl).trans (mm_ite ((ev_ic_lt 32 19 dX4_mayBe_16 rfl rfl).trans (mm_ite ((ev_iconst 33 (v := 0) dX4_mayBe_32 rfl rfl).trans (ev_zret0 dX4_mayBe_33 rfl)) ((ev_iload_n 20 dX4_mayBe_19 rfl rfl).trans ((ev_gets 23 103 dX4_mayBe_20 st_4_37 rfl).trans ((ev_iload_n 24 dX4_mayBe_23 rfl rfl).trans ((ev_ialdC 25 12 dX4_mayBe_24 ak103 an103 rfl).trans (mm_ite ((ev_ic_gt 32 28 dX4_mayBe_25 rfl rfl).trans (mm_ite ((ev_iconst 33 (v := 0) dX4_mayBe_32 rfl rfl).trans (ev_zret0 dX4_mayBe_33 rfl)) ((ev_iconst 29 (v := 1) dX4_mayBe_28 rfl rfl).trans ((ev_goto 33 dX4_mayBe_29 rfl).trans (ev_zret1 dX4_mayBe_33 rfl))))) (rfl)))))))) (rfl))))))))))))
theorem X4_mayBe_c (h : mm_M) (a1 : Int) (a2 : Int) : mm_call mX4_mayBe [vR 1, vI a1, vI a2] h = if a1 < 0 then some ([vI 0], h) else if 11 < a1 then some ([vI 0], h) else if 0 ≤ a1 ∧ a1 < 12 then if a2 < (mm_ct 102 a1) then some ([vI 0], h) else if 0 ≤ a1 ∧ a1 < 12 then if (mm_ct 103 a1) < a2 then some ([vI 0], h) else some ([vI 1], h) else none else none := X4_mayBe_0 h a1 a2
theorem dX4_apart_0 : decode mX4_apart.1 0 = .ok (.aload_n 0, 1) := by decide +kernel
theorem dX4_apart_1 : decode mX4_apart.1 1 = .ok (.iconst 0, 1) := by decide +kernel
theorem dX4_apart_2 : decode mX4_apart.1 2 = .ok (.iload_n 1, 1) := by decide +kernel
theorem dX4_apart_3 : decode mX4_apart.1 3 = .ok (.invokevirtual 44, 3) := by decide +kernel
theorem dX4_apart_6 : decode mX4_apart.1 6 = .ok (.aload_n 0, 1) := by decide +kernel
theorem dX4_apart_7 : decode mX4_apart.1 7 = .ok (.iconst 0, 1) := by decide +kernel
theorem dX4_apart_8 : decode mX4_apart.1 8 = .ok (.iload_n 2, 1) := by decide +kernel
theorem dX4_apart_9 : decode mX4_apart.1 9 = .ok (.invokevirtual 44, 3) := by decide +kernel
theorem dX4_apart_12 : decode mX4_apart.1 12 = .ok (.isub, 1) := by decide +kernel
theorem dX4_apart_13 : decode mX4_apart.1 13 = .ok (.invokestatic 48, 3) := by decide +kernel
theorem dX4_apart_16 : decode mX4_apart.1 16 = .ok (.aload_n 0, 1) := by decide +kernel
theorem dX4_apart_17 : decode mX4_apart.1 17 = .ok (.iconst 1, 1) := by decide +kernel
theorem dX4_apart_18 : decode mX4_apart.1 18 = .ok (.iload_n 1, 1) := by decide +kernel
theorem dX4_apart_19 : decode mX4_apart.1 19 = .ok (.invokevirtual 44, 3) := by decide +kernel
theorem dX4_apart_22 : decode mX4_apart.1 22 = .ok (.aload_n 0, 1) := by decide +kernel
theorem dX4_apart_23 : decode mX4_apart.1 23 = .ok (.iconst 1, 1) := by decide +kernel
theorem dX4_apart_24 : decode mX4_apart.1 24 = .ok (.iload_n 2, 1) := by decide +kernel
theorem dX4_apart_25 : decode mX4_apart.1 25 = .ok (.invokevirtual 44, 3) := by decide +kernel
theorem dX4_apart_28 : decode mX4_apart.1 28 = .ok (.isub, 1) := by decide +kernel
theorem dX4_apart_29 : decode mX4_apart.1 29 = .ok (.invokestatic 48, 3) := by decide +kernel
theorem dX4_apart_32 : decode mX4_apart.1 32 = .ok (.iadd, 1) := by decide +kernel
theorem dX4_apart_33 : decode mX4_apart.1 33 = .ok (.ireturn, 1) := by decide +kernel
theorem X4_apart_0 (h : mm_M) (a1 : Int) (a2 : Int) : mm_ev mX4_apart 2 0 [some (vR 1), some (vI a1), some (vI a2)] [] h = (mm_call mX4_get [vR 1, vI 0, vI a1] h).bind (fun w => mm_ev mX4_apart 2 6 [some (vR 1), some (vI a1), some (vI a2)] (w.1 ++ []) w.2) := (ev_aload_n 1 dX4_apart_0 rfl rfl).trans ((ev_iconst 2 (v := 0) dX4_apart_1 rfl rfl).trans ((ev_iload_n 3 dX4_apart_2 rfl rfl).trans ((ev_callv mX4_get [vR 1, vI 0, vI a1] [] 6 dX4_apart_3 ml_4_44 k41 rfl oc1 ak1 rfl rfl (Nat.le_of_ble_eq_true rfl) (Nat.le_of_ble_eq_true rfl) rfl).trans (if_pos (show 1 < 2 from by decide)))))
theorem X4_apart_c (h : mm_M) (a1 : Int) (a2 : Int) : mm_call mX4_apart [vR 1, vI a1, vI a2] h = (mm_call mX4_get [vR 1, vI 0, vI a1] h).bind (fun w => mm_ev mX4_apart 2 6 [some (vR 1), some (vI a1), some (vI a2)] (w.1 ++ []) w.2) := X4_apart_0 h a1 a2
theorem X4_apart_6 (h : mm_M) (a1 : Int) (a2 : Int) (s0 : Int) : mm_ev mX4_apart 2 6 [some (vR 1), some (vI a1), some (vI a2)] [vI s0] h = (mm_call mX4_get [vR 1, vI 0, vI a2] h).bind (fun w => mm_ev mX4_apart 2 12 [some (vR 1), some (vI a1), some (vI a2)] (w.1 ++ [vI s0]) w.2) := (ev_aload_n 7 dX4_apart_6 rfl rfl).trans ((ev_iconst 8 (v := 0) dX4_apart_7 rfl rfl).trans ((ev_iload_n 9 dX4_apart_8 rfl rfl).trans ((ev_callv mX4_get [vR 1, vI 0, vI a2] [vI s0] 12 dX4_apart_9 ml_4_44 k41 rfl oc1 ak1 rfl rfl (Nat.le_of_ble_eq_true rfl) (Nat.le_of_ble_eq_true rfl) rfl).trans (if_pos (show 1 < 2 from by decide)))))
theorem X4_apart_12 (h : mm_M) (a1 : Int) (a2 : Int) (s0 : Int) (s1 : Int) : mm_ev mX4_apart 2 12 [some (vR 1), some (vI a1), some (vI a2)] [vI s0, vI s1] h = (mm_call mX4_get [vR 1, vI 1, vI a1] h).bind (fun w => mm_ev mX4_apart 2 22 [some (vR 1), some (vI a1), some (vI a2)] (w.1 ++ [vI (if 0 ≤ (w32 (s1 - s0)) then (w32 (s1 - s0)) else w32 (0 - (w32 (s1 - s0))))]) w.2) := (ev_isub 13 dX4_apart_12 rfl).trans ((ev_abs 16 dX4_apart_13 ml_4_48 (Nat.le_of_ble_eq_true rfl) rfl).trans ((ev_aload_n 17 dX4_apart_16 rfl rfl).trans ((ev_iconst 18 (v := 1) dX4_apart_17 rfl rfl).trans ((ev_iload_n 19 dX4_apart_18 rfl rfl).trans ((ev_callv mX4_get [vR 1, vI 1, vI a1] [vI (if 0 ≤ (w32 (s1 - s0)) then (w32 (s1 - s0)) else w32 (0 - (w32 (s1 - s0))))] 22 dX4_apart_19 ml_4_44 k41 rfl oc1 ak1 rfl rfl (Nat.le_of_ble_eq_true rfl) (Nat.le_of_ble_eq_true rfl) rfl).trans (if_pos (show 1 < 2 from by decide)))))))
theorem X4_apart_22 (h : mm_M) (a1 : Int) (a2 : Int) (s0 : Int) (s1 : Int) : mm_ev mX4_apart 2 22 [some (vR 1), some (vI a1), some (vI a2)] [vI s0, vI s1] h = (mm_call mX4_get [vR 1, vI 1, vI a2] h).bind (fun w => mm_ev mX4_apart 2 28 [some (vR 1), some (vI a1), some (vI a2)] (w.1 ++ [vI s0, vI s1]) w.2) := (ev_aload_n 23 dX4_apart_22 rfl rfl).trans ((ev_iconst 24 (v := 1) dX4_apart_23 rfl rfl).trans ((ev_iload_n 25 dX4_apart_24 rfl rfl).trans ((ev_callv mX4_get [vR 1, vI 1, vI a2] [vI s0, vI s1] 28 dX4_apart_25 ml_4_44 k41 rfl oc1 ak1 rfl rfl (Nat.le_of_ble_eq_true rfl) (Nat.le_of_ble_eq_true rfl) rfl).trans (if_pos (show 1 < 2 from by decide)))))
theorem X4_apart_28 (h : mm_M) (a1 : Int) (a2 : Int) (s0 : Int) (s1 : Int) (s2 : Int) : mm_ev mX4_apart 2 28 [some (vR 1), some (vI a1), some (vI a2)] [vI s0, vI s1, vI s2] h = some ([vI (w32 (s2 + (if 0 ≤ (w32 (s1 - s0)) then (w32 (s1 - s0)) else w32 (0 - (w32 (s1 - s0))))))], h) := (ev_isub 29 dX4_apart_28 rfl).trans ((ev_abs 32 dX4_apart_29 ml_4_48 (Nat.le_of_ble_eq_true rfl) rfl).trans ((ev_iadd 33 dX4_apart_32 rfl).trans (ev_iret dX4_apart_33 rfl)))
theorem dX4_get_0 : decode mX4_get.1 0 = .ok (.iload_n 1, 1) := by decide +kernel
theorem dX4_get_1 : decode mX4_get.1 1 = .ok (.ifCond .lt 22, 3) := by decide +kernel
theorem dX4_get_4 : decode mX4_get.1 4 = .ok (.iload_n 1, 1) := by decide +kernel
theorem dX4_get_5 : decode mX4_get.1 5 = .ok (.bipush 11, 2) := by decide +kernel
theorem dX4_get_7 : decode mX4_get.1 7 = .ok (.if_icmp .gt 16, 3) := by decide +kernel
theorem dX4_get_10 : decode mX4_get.1 10 = .ok (.iload_n 2, 1) := by decide +kernel
theorem dX4_get_11 : decode mX4_get.1 11 = .ok (.ifCond .lt 12, 3) := by decide +kernel
theorem dX4_get_14 : decode mX4_get.1 14 = .ok (.iload_n 2, 1) := by decide +kernel
theorem dX4_get_15 : decode mX4_get.1 15 = .ok (.getstatic 31, 3) := by decide +kernel
theorem dX4_get_18 : decode mX4_get.1 18 = .ok (.iload_n 1, 1) := by decide +kernel
theorem dX4_get_19 : decode mX4_get.1 19 = .ok (.iaload, 1) := by decide +kernel
theorem dX4_get_20 : decode mX4_get.1 20 = .ok (.if_icmp .lt 5, 3) := by decide +kernel
theorem dX4_get_23 : decode mX4_get.1 23 = .ok (.iconst 0, 1) := by decide +kernel
theorem dX4_get_24 : decode mX4_get.1 24 = .ok (.ireturn, 1) := by decide +kernel
theorem dX4_get_25 : decode mX4_get.1 25 = .ok (.aload_n 0, 1) := by decide +kernel
theorem dX4_get_26 : decode mX4_get.1 26 = .ok (.getfield 9, 3) := by decide +kernel
theorem dX4_get_29 : decode mX4_get.1 29 = .ok (.getstatic 24, 3) := by decide +kernel
theorem dX4_get_32 : decode mX4_get.1 32 = .ok (.iload_n 1, 1) := by decide +kernel
theorem dX4_get_33 : decode mX4_get.1 33 = .ok (.iaload, 1) := by decide +kernel
theorem dX4_get_34 : decode mX4_get.1 34 = .ok (.iload_n 2, 1) := by decide +kernel
theorem dX4_get_35 : decode mX4_get.1 35 = .ok (.iadd, 1) := by decide +kernel
theorem dX4_get_36 : decode mX4_get.1 36 = .ok (.iaload, 1) := by decide +kernel
theorem dX4_get_37 : decode mX4_get.1 37 = .ok (.ireturn, 1) := by decide +kernel
theorem X4_get_0 (h : mm_M) (a1 : Int) (a2 : Int) : mm_ev mX4_get 1 0 [some (vR 1), some (vI a1), some (vI a2)] [] h = if a1 < 0 then some ([vI 0], h) else if 11 < a1 then some ([vI 0], h) else if a2 < 0 then some ([vI 0], h) else if 0 ≤ a1 ∧ a1 < 12 then if a2 < (mm_ct 101 a1) then if 0 ≤ a1 ∧ a1 < 12 then if 0 ≤ (w32 ((mm_ct 100 a1) + a2)) ∧ (w32 ((mm_ct 100 a1) + a2)) < 57 then some ([vI (h 11 (w32 ((mm_ct 100 a1) + a2)))], h) else none else none else some ([vI 0], h) else none := (ev_iload_n 1 dX4_get_0 rfl rfl).trans ((ev_if_lt 23 4 dX4_get_1 rfl rfl).trans (mm_ite ((ev_iconst 24 (v := 0) dX4_get_23 rfl rfl).trans (ev_iret dX4_get_24 rfl)) ((ev_iload_n 5 dX4_get_4 rfl rfl).trans ((ev_bipush 7 (v := 11) dX4_get_5 rfl rfl).trans ((ev_ic_gt 23 10 dX4_get_7 rfl rfl).trans (mm_ite ((ev_iconst 24 (v := 0) dX4_get_23 rfl rfl).trans (ev_iret dX4_get_24 rfl)) ((ev_iload_n 11 dX4_get_10 rfl rfl).trans ((ev_if_lt 23 14 dX4_get_11 rfl rfl).trans (mm_ite ((ev_iconst 24 (v := 0) dX4_get_23 rfl rfl).trans (ev_iret dX4_get_24 rfl)) ((ev_iload_n 15 dX4_get_14 rfl rfl).trans ((ev_gets 18 101 dX4_get_15 st_4_31 rfl).trans ((ev_iload_n 19 dX4_get_18 rfl rfl).trans ((ev_ialdC 20 12 dX4_get_19 ak101 an101 rfl).trans (mm_ite ((ev_ic_lt 25 23 dX4_get_20 rfl rfl).trans (mm_ite ((ev_aload_n 26 dX4_get_25 rfl rfl).trans ((ev_getF 29 11 dX4_get_26 fl_4_9 oc1 ak1 rfl rf_1_0 rfl).trans ((ev_gets 32 100 dX4_get_29 st_4_24 rfl).trans ((ev_iload_n 33 dX4_get_32 rfl rfl).trans ((ev_ialdC 34 12 dX4_get_33 ak100 an100 rfl).trans (mm_ite ((ev_iload_n 35 dX4_get_34 rfl rfl).trans ((ev_iadd 36 dX4_get_35 rfl).trans ((ev_iald 37 57 dX4_get_36 ak11 an11 rfl).trans (mm_ite (ev_iret dX4_get_37 rfl) (rfl))))) (rfl))))))) ((ev_iconst 24 (v := 0) dX4_get_23 rfl rfl).trans (ev_iret dX4_get_24 rfl)))) (rfl)))))))))))))))
theorem X4_get_c (h : mm_M) (a1 : Int) (a2 : Int) : mm_call mX4_get [vR 1, vI a1, vI a2] h = if a1 < 0 then some ([vI 0], h) else if 11 < a1 then some ([vI 0], h) else if a2 < 0 then some ([vI 0], h) else if 0 ≤ a1 ∧ a1 < 12 then if a2 < (mm_ct 101 a1) then if 0 ≤ a1 ∧ a1 < 12 then if 0 ≤ (w32 ((mm_ct 100 a1) + a2)) ∧ (w32 ((mm_ct 100 a1) + a2)) < 57 then some ([vI (h 11 (w32 ((mm_ct 100 a1) + a2)))], h) else none else none else some ([vI 0], h) else none := X4_get_0 h a1 a2
theorem dX4_areAlike_0 : decode mX4_areAlike.1 0 = .ok (.aload_n 0, 1) := by decide +kernel
theorem dX4_areAlike_1 : decode mX4_areAlike.1 1 = .ok (.bipush 8, 2) := by decide +kernel
theorem dX4_areAlike_3 : decode mX4_areAlike.1 3 = .ok (.invokevirtual 40, 3) := by decide +kernel
theorem dX4_areAlike_6 : decode mX4_areAlike.1 6 = .ok (.aload_n 0, 1) := by decide +kernel
theorem dX4_areAlike_7 : decode mX4_areAlike.1 7 = .ok (.bipush 9, 2) := by decide +kernel
theorem dX4_areAlike_9 : decode mX4_areAlike.1 9 = .ok (.invokevirtual 40, 3) := by decide +kernel
theorem dX4_areAlike_12 : decode mX4_areAlike.1 12 = .ok (.if_icmp .ne 7, 3) := by decide +kernel
theorem dX4_areAlike_15 : decode mX4_areAlike.1 15 = .ok (.iconst 1, 1) := by decide +kernel
theorem dX4_areAlike_16 : decode mX4_areAlike.1 16 = .ok (.goto 4, 3) := by decide +kernel
theorem dX4_areAlike_19 : decode mX4_areAlike.1 19 = .ok (.iconst 0, 1) := by decide +kernel
theorem dX4_areAlike_20 : decode mX4_areAlike.1 20 = .ok (.ireturn, 1) := by decide +kernel
theorem X4_areAlike_0 (h : mm_M) : mm_ev mX4_areAlike 2 0 [some (vR 1)] [] h = (mm_call mX4_the [vR 1, vI 8] h).bind (fun w => mm_ev mX4_areAlike 2 6 [some (vR 1)] (w.1 ++ []) w.2) := (ev_aload_n 1 dX4_areAlike_0 rfl rfl).trans ((ev_bipush 3 (v := 8) dX4_areAlike_1 rfl rfl).trans ((ev_callv mX4_the [vR 1, vI 8] [] 6 dX4_areAlike_3 ml_4_40 k42 rfl oc1 ak1 rfl rfl (Nat.le_of_ble_eq_true rfl) (Nat.le_of_ble_eq_true rfl) rfl).trans (if_pos (show 1 < 2 from by decide))))
theorem X4_areAlike_c (h : mm_M) : mm_call mX4_areAlike [vR 1] h = (mm_call mX4_the [vR 1, vI 8] h).bind (fun w => mm_ev mX4_areAlike 2 6 [some (vR 1)] (w.1 ++ []) w.2) := X4_areAlike_0 h 
theorem X4_areAlike_6 (h : mm_M) (s0 : Int) : mm_ev mX4_areAlike 2 6 [some (vR 1)] [vI s0] h = (mm_call mX4_the [vR 1, vI 9] h).bind (fun w => mm_ev mX4_areAlike 2 12 [some (vR 1)] (w.1 ++ [vI s0]) w.2) := (ev_aload_n 7 dX4_areAlike_6 rfl rfl).trans ((ev_bipush 9 (v := 9) dX4_areAlike_7 rfl rfl).trans ((ev_callv mX4_the [vR 1, vI 9] [vI s0] 12 dX4_areAlike_9 ml_4_40 k42 rfl oc1 ak1 rfl rfl (Nat.le_of_ble_eq_true rfl) (Nat.le_of_ble_eq_true rfl) rfl).trans (if_pos (show 1 < 2 from by decide))))
theorem X4_areAlike_12 (h : mm_M) (s0 : Int) (s1 : Int) : mm_ev mX4_areAlike 2 12 [some (vR 1)] [vI s0, vI s1] h = if ¬ s1 = s0 then some ([vI 0], h) else some ([vI 1], h) := (ev_ic_ne 19 15 dX4_areAlike_12 rfl rfl).trans (mm_ite ((ev_iconst 20 (v := 0) dX4_areAlike_19 rfl rfl).trans (ev_zret0 dX4_areAlike_20 rfl)) ((ev_iconst 16 (v := 1) dX4_areAlike_15 rfl rfl).trans ((ev_goto 20 dX4_areAlike_16 rfl).trans (ev_zret1 dX4_areAlike_20 rfl))))
theorem dX4_cellOf_0 : decode mX4_cellOf.1 0 = .ok (.iload_n 2, 1) := by decide +kernel
theorem dX4_cellOf_1 : decode mX4_cellOf.1 1 = .ok (.ifCond .lt 13, 3) := by decide +kernel
theorem dX4_cellOf_4 : decode mX4_cellOf.1 4 = .ok (.iload_n 2, 1) := by decide +kernel
theorem dX4_cellOf_5 : decode mX4_cellOf.1 5 = .ok (.bipush 11, 2) := by decide +kernel
theorem dX4_cellOf_7 : decode mX4_cellOf.1 7 = .ok (.if_icmp .gt 7, 3) := by decide +kernel
theorem dX4_cellOf_10 : decode mX4_cellOf.1 10 = .ok (.iload_n 1, 1) := by decide +kernel
theorem dX4_cellOf_11 : decode mX4_cellOf.1 11 = .ok (.ifCond .ge 5, 3) := by decide +kernel
theorem dX4_cellOf_14 : decode mX4_cellOf.1 14 = .ok (.iconst (-1), 1) := by decide +kernel
theorem dX4_cellOf_15 : decode mX4_cellOf.1 15 = .ok (.ireturn, 1) := by decide +kernel
theorem dX4_cellOf_16 : decode mX4_cellOf.1 16 = .ok (.iload_n 2, 1) := by decide +kernel
theorem dX4_cellOf_17 : decode mX4_cellOf.1 17 = .ok (.iconst 2, 1) := by decide +kernel
theorem dX4_cellOf_18 : decode mX4_cellOf.1 18 = .ok (.if_icmp .gt 10, 3) := by decide +kernel
theorem dX4_cellOf_21 : decode mX4_cellOf.1 21 = .ok (.aload_n 0, 1) := by decide +kernel
theorem dX4_cellOf_22 : decode mX4_cellOf.1 22 = .ok (.getfield 27, 3) := by decide +kernel
theorem dX4_cellOf_25 : decode mX4_cellOf.1 25 = .ok (.goto 8, 3) := by decide +kernel
theorem dX4_cellOf_28 : decode mX4_cellOf.1 28 = .ok (.getstatic 31, 3) := by decide +kernel
theorem dX4_cellOf_31 : decode mX4_cellOf.1 31 = .ok (.iload_n 2, 1) := by decide +kernel
theorem dX4_cellOf_32 : decode mX4_cellOf.1 32 = .ok (.iaload, 1) := by decide +kernel
theorem dX4_cellOf_33 : decode mX4_cellOf.1 33 = .ok (.istore_n 3, 1) := by decide +kernel
theorem dX4_cellOf_34 : decode mX4_cellOf.1 34 = .ok (.iload_n 1, 1) := by decide +kernel
theorem dX4_cellOf_35 : decode mX4_cellOf.1 35 = .ok (.iload_n 3, 1) := by decide +kernel
theorem dX4_cellOf_36 : decode mX4_cellOf.1 36 = .ok (.if_icmp .ge 13, 3) := by decide +kernel
theorem dX4_cellOf_39 : decode mX4_cellOf.1 39 = .ok (.getstatic 24, 3) := by decide +kernel
theorem dX4_cellOf_42 : decode mX4_cellOf.1 42 = .ok (.iload_n 2, 1) := by decide +kernel
theorem dX4_cellOf_43 : decode mX4_cellOf.1 43 = .ok (.iaload, 1) := by decide +kernel
theorem dX4_cellOf_44 : decode mX4_cellOf.1 44 = .ok (.iload_n 1, 1) := by decide +kernel
theorem dX4_cellOf_45 : decode mX4_cellOf.1 45 = .ok (.iadd, 1) := by decide +kernel
theorem dX4_cellOf_46 : decode mX4_cellOf.1 46 = .ok (.goto 4, 3) := by decide +kernel
theorem dX4_cellOf_49 : decode mX4_cellOf.1 49 = .ok (.iconst (-1), 1) := by decide +kernel
theorem dX4_cellOf_50 : decode mX4_cellOf.1 50 = .ok (.ireturn, 1) := by decide +kernel
theorem X4_cellOf_0 (h : mm_M) (a1 : Int) (a2 : Int) : mm_ev mX4_cellOf 1 0 [some (vR 1), some (vI a1), some (vI a2), none] [] h = if a2 < 0 then some ([vI (-1)], h) else if 11 < a2 then some ([vI (-1)], h) else if 0 ≤ a1 then if 2 < a2 then if 0 ≤ a2 ∧ a2 < 12 then mm_ev mX4_cellOf 1 33 [some (vR 1), some (vI a1), some (vI a2), none] [vI (mm_ct 101 a2)] h else none else mm_ev mX4_cellOf 1 33 [some (vR 1), some (vI a1), some (vI a2), none] [vI (h 1 1)] h else some ([vI (-1)], h) := (ev_iload_n 1 dX4_cellOf_0 rfl rfl).trans ((ev_if_lt 14 4 dX4_cellOf_1 rfl rfl).trans (mm_ite ((ev_iconst 15 (v := (-1)) dX4_cellOf_14 rfl rfl).trans (ev_iret dX4_cellOf_15 rfl)) ((ev_iload_n 5 dX4_cellOf_4 rfl rfl).trans ((ev_bipush 7 (v := 11) dX4_cellOf_5 rfl rfl).trans ((ev_ic_gt 14 10 dX4_cellOf_7 rfl rfl).trans (mm_ite ((ev_iconst 15 (v := (-1)) dX4_cellOf_14 rfl rfl).trans (ev_iret dX4_cellOf_15 rfl)) ((ev_iload_n 11 dX4_cellOf_10 rfl rfl).trans ((ev_if_ge 16 14 dX4_cellOf_11 rfl rfl).trans (mm_ite ((ev_iload_n 17 dX4_cellOf_16 rfl rfl).trans ((ev_iconst 18 (v := 2) dX4_cellOf_17 rfl rfl).trans ((ev_ic_gt 28 21 dX4_cellOf_18 rfl rfl).trans (mm_ite ((ev_gets 31 101 dX4_cellOf_28 st_4_31 rfl).trans ((ev_iload_n 32 dX4_cellOf_31 rfl rfl).trans (ev_ialdC 33 12 dX4_cellOf_32 ak101 an101 rfl))) ((ev_aload_n 22 dX4_cellOf_21 rfl rfl).trans ((ev_getI 25 1 dX4_cellOf_22 fl_4_27 oc1 ak1 (by decide) rfl rfl).trans (ev_goto 33 dX4_cellOf_25 rfl))))))) ((ev_iconst 15 (v := (-1)) dX4_cellOf_14 rfl rfl).trans (ev_iret dX4_cellOf_15 rfl)))))))))))
theorem X4_cellOf_c (h : mm_M) (a1 : Int) (a2 : Int) : mm_call mX4_cellOf [vR 1, vI a1, vI a2] h = if a2 < 0 then some ([vI (-1)], h) else if 11 < a2 then some ([vI (-1)], h) else if 0 ≤ a1 then if 2 < a2 then if 0 ≤ a2 ∧ a2 < 12 then mm_ev mX4_cellOf 1 33 [some (vR 1), some (vI a1), some (vI a2), none] [vI (mm_ct 101 a2)] h else none else mm_ev mX4_cellOf 1 33 [some (vR 1), some (vI a1), some (vI a2), none] [vI (h 1 1)] h else some ([vI (-1)], h) := X4_cellOf_0 h a1 a2
theorem X4_cellOf_33 (h : mm_M) (a1 : Int) (a2 : Int) (s0 : Int) : mm_ev mX4_cellOf 1 33 [some (vR 1), some (vI a1), some (vI a2), none] [vI s0] h = if s0 ≤ a1 then some ([vI (-1)], h) else if 0 ≤ a2 ∧ a2 < 12 then some ([vI (w32 ((mm_ct 100 a2) + a1))], h) else none := (ev_istore_n 34 [some (vR 1), some (vI a1), some (vI a2), some (vI s0)] dX4_cellOf_33 rfl rfl).trans ((ev_iload_n 35 dX4_cellOf_34 rfl rfl).trans ((ev_iload_n 36 dX4_cellOf_35 rfl rfl).trans ((ev_ic_ge 49 39 dX4_cellOf_36 rfl rfl).trans (mm_ite ((ev_iconst 50 (v := (-1)) dX4_cellOf_49 rfl rfl).trans (ev_iret dX4_cellOf_50 rfl)) ((ev_gets 42 100 dX4_cellOf_39 st_4_24 rfl).trans ((ev_iload_n 43 dX4_cellOf_42 rfl rfl).trans ((ev_ialdC 44 12 dX4_cellOf_43 ak100 an100 rfl).trans (mm_ite ((ev_iload_n 45 dX4_cellOf_44 rfl rfl).trans ((ev_iadd 46 dX4_cellOf_45 rfl).trans ((ev_goto 50 dX4_cellOf_46 rfl).trans (ev_iret dX4_cellOf_50 rfl)))) (rfl)))))))))
theorem dX4_become_0 : decode mX4_become.1 0 = .ok (.aload_n 0, 1) := by decide +kernel
theorem dX4_become_1 : decode mX4_become.1 1 = .ok (.getfield 9, 3) := by decide +kernel
theorem dX4_become_4 : decode mX4_become.1 4 = .ok (.iload_n 1, 1) := by decide +kernel
theorem dX4_become_5 : decode mX4_become.1 5 = .ok (.iaload, 1) := by decide +kernel
theorem dX4_become_6 : decode mX4_become.1 6 = .ok (.istore_n 3, 1) := by decide +kernel
theorem dX4_become_7 : decode mX4_become.1 7 = .ok (.iload_n 2, 1) := by decide +kernel
theorem dX4_become_8 : decode mX4_become.1 8 = .ok (.iload_n 3, 1) := by decide +kernel
theorem dX4_become_9 : decode mX4_become.1 9 = .ok (.if_icmp .eq 67, 3) := by decide +kernel
theorem dX4_become_12 : decode mX4_become.1 12 = .ok (.aload_n 0, 1) := by decide +kernel
theorem dX4_become_13 : decode mX4_become.1 13 = .ok (.invokevirtual 53, 3) := by decide +kernel
theorem dX4_become_16 : decode mX4_become.1 16 = .ok (.aload_n 0, 1) := by decide +kernel
theorem dX4_become_17 : decode mX4_become.1 17 = .ok (.getfield 56, 3) := by decide +kernel
theorem dX4_become_20 : decode mX4_become.1 20 = .ok (.aload_n 0, 1) := by decide +kernel
theorem dX4_become_21 : decode mX4_become.1 21 = .ok (.getfield 59, 3) := by decide +kernel
theorem dX4_become_24 : decode mX4_become.1 24 = .ok (.iadd, 1) := by decide +kernel
theorem dX4_become_25 : decode mX4_become.1 25 = .ok (.bipush 40, 2) := by decide +kernel
theorem dX4_become_27 : decode mX4_become.1 27 = .ok (.irem, 1) := by decide +kernel
theorem dX4_become_28 : decode mX4_become.1 28 = .ok (.istore 4, 2) := by decide +kernel
theorem dX4_become_30 : decode mX4_become.1 30 = .ok (.aload_n 0, 1) := by decide +kernel
theorem dX4_become_31 : decode mX4_become.1 31 = .ok (.getfield 15, 3) := by decide +kernel
theorem dX4_become_34 : decode mX4_become.1 34 = .ok (.iload 4, 2) := by decide +kernel
theorem dX4_become_36 : decode mX4_become.1 36 = .ok (.iload_n 1, 1) := by decide +kernel
theorem dX4_become_37 : decode mX4_become.1 37 = .ok (.iastore, 1) := by decide +kernel
theorem dX4_become_38 : decode mX4_become.1 38 = .ok (.aload_n 0, 1) := by decide +kernel
theorem dX4_become_39 : decode mX4_become.1 39 = .ok (.getfield 18, 3) := by decide +kernel
theorem dX4_become_42 : decode mX4_become.1 42 = .ok (.iload 4, 2) := by decide +kernel
theorem dX4_become_44 : decode mX4_become.1 44 = .ok (.iload_n 3, 1) := by decide +kernel
theorem dX4_become_45 : decode mX4_become.1 45 = .ok (.iastore, 1) := by decide +kernel
theorem dX4_become_46 : decode mX4_become.1 46 = .ok (.aload_n 0, 1) := by decide +kernel
theorem dX4_become_47 : decode mX4_become.1 47 = .ok (.getfield 21, 3) := by decide +kernel
theorem dX4_become_50 : decode mX4_become.1 50 = .ok (.iload 4, 2) := by decide +kernel
theorem dX4_become_52 : decode mX4_become.1 52 = .ok (.iload_n 2, 1) := by decide +kernel
theorem dX4_become_53 : decode mX4_become.1 53 = .ok (.iastore, 1) := by decide +kernel
theorem dX4_become_54 : decode mX4_become.1 54 = .ok (.aload_n 0, 1) := by decide +kernel
theorem dX4_become_55 : decode mX4_become.1 55 = .ok (.dup, 1) := by decide +kernel
theorem dX4_become_56 : decode mX4_become.1 56 = .ok (.getfield 59, 3) := by decide +kernel
theorem dX4_become_59 : decode mX4_become.1 59 = .ok (.iconst 1, 1) := by decide +kernel
theorem dX4_become_60 : decode mX4_become.1 60 = .ok (.iadd, 1) := by decide +kernel
theorem dX4_become_61 : decode mX4_become.1 61 = .ok (.putfield 59, 3) := by decide +kernel
theorem dX4_become_64 : decode mX4_become.1 64 = .ok (.aload_n 0, 1) := by decide +kernel
theorem dX4_become_65 : decode mX4_become.1 65 = .ok (.iconst 0, 1) := by decide +kernel
theorem dX4_become_66 : decode mX4_become.1 66 = .ok (.putfield 62, 3) := by decide +kernel
theorem dX4_become_69 : decode mX4_become.1 69 = .ok (.aload_n 0, 1) := by decide +kernel
theorem dX4_become_70 : decode mX4_become.1 70 = .ok (.getfield 9, 3) := by decide +kernel
theorem dX4_become_73 : decode mX4_become.1 73 = .ok (.iload_n 1, 1) := by decide +kernel
theorem dX4_become_74 : decode mX4_become.1 74 = .ok (.iload_n 2, 1) := by decide +kernel
theorem dX4_become_75 : decode mX4_become.1 75 = .ok (.iastore, 1) := by decide +kernel
theorem dX4_become_76 : decode mX4_become.1 76 = .ok (.iload_n 3, 1) := by decide +kernel
theorem dX4_become_77 : decode mX4_become.1 77 = .ok (.ireturn, 1) := by decide +kernel
theorem X4_become_0 (h : mm_M) (a1 : Int) (a2 : Int) : mm_ev mX4_become 2 0 [some (vR 1), some (vI a1), some (vI a2), none, none] [] h = if 0 ≤ a1 ∧ a1 < 57 then if a2 = (h 11 a1) then some ([vI (h 11 a1)], h) else (mm_call mX4_makeRoom [vR 1] h).bind (fun w => mm_ev mX4_become 2 16 [some (vR 1), some (vI a1), some (vI a2), some (vI (h 11 a1)), none] (w.1 ++ []) w.2) else none := (ev_aload_n 1 dX4_become_0 rfl rfl).trans ((ev_getF 4 11 dX4_become_1 fl_4_9 oc1 ak1 rfl rf_1_0 rfl).trans ((ev_iload_n 5 dX4_become_4 rfl rfl).trans ((ev_iald 6 57 dX4_become_5 ak11 an11 rfl).trans (mm_ite ((ev_istore_n 7 [some (vR 1), some (vI a1), some (vI a2), some (vI (h 11 a1)), none] dX4_become_6 rfl rfl).trans ((ev_iload_n 8 dX4_become_7 rfl rfl).trans ((ev_iload_n 9 dX4_become_8 rfl rfl).trans ((ev_ic_eq 76 12 dX4_become_9 rfl rfl).trans (mm_ite ((ev_iload_n 77 dX4_become_76 rfl rfl).trans (ev_iret dX4_become_77 rfl)) ((ev_aload_n 13 dX4_become_12 rfl rfl).trans ((ev_callv mX4_makeRoom [vR 1] [] 16 dX4_become_13 ml_4_53 k48 rfl oc1 ak1 rfl rfl (Nat.le_of_ble_eq_true rfl) (Nat.le_of_ble_eq_true rfl) rfl).trans (if_pos (show 1 < 2 from by decide))))))))) (rfl)))))
theorem X4_become_c (h : mm_M) (a1 : Int) (a2 : Int) : mm_call mX4_become [vR 1, vI a1, vI a2] h = if 0 ≤ a1 ∧ a1 < 57 then if a2 = (h 11 a1) then some ([vI (h 11 a1)], h) else (mm_call mX4_makeRoom [vR 1] h).bind (fun w => mm_ev mX4_become 2 16 [some (vR 1), some (vI a1), some (vI a2), some (vI (h 11 a1)), none] (w.1 ++ []) w.2) else none := X4_become_0 h a1 a2
theorem X4_become_16 (h : mm_M) (a1 : Int) (a2 : Int) (a3 : Int) : mm_ev mX4_become 2 16 [some (vR 1), some (vI a1), some (vI a2), some (vI a3), none] [] h = if 0 ≤ ((w32 ((h 1 4) + (h 1 2))).tmod 40) ∧ ((w32 ((h 1 4) + (h 1 2))).tmod 40) < 40 then if 0 ≤ ((w32 ((h 1 4) + (h 1 2))).tmod 40) ∧ ((w32 ((h 1 4) + (h 1 2))).tmod 40) < 40 then if 0 ≤ ((w32 ((h 1 4) + (h 1 2))).tmod 40) ∧ ((w32 ((h 1 4) + (h 1 2))).tmod 40) < 40 then if 0 ≤ a1 ∧ a1 < 57 then some ([vI a3], mUp (mUp (mUp (mUp (mUp (mUp h 12 ((w32 ((h 1 4) + (h 1 2))).tmod 40) a1) 13 ((w32 ((h 1 4) + (h 1 2))).tmod 40) a3) 14 ((w32 ((h 1 4) + (h 1 2))).tmod 40) a2) 1 2 (w32 (((mUp (mUp (mUp h 12 ((w32 ((h 1 4) + (h 1 2))).tmod 40) a1) 13 ((w32 ((h 1 4) + (h 1 2))).tmod 40) a3) 14 ((w32 ((h 1 4) + (h 1 2))).tmod 40) a2) 1 2) + 1))) 1 3 0) 11 a1 a2) else none else none else none else none := (ev_aload_n 17 dX4_become_16 rfl rfl).trans ((ev_getI 20 4 dX4_become_17 fl_4_56 oc1 ak1 (by decide) rfl rfl).trans ((ev_aload_n 21 dX4_become_20 rfl rfl).trans ((ev_getI 24 2 dX4_become_21 fl_4_59 oc1 ak1 (by decide) rfl rfl).trans ((ev_iadd 25 dX4_become_24 rfl).trans ((ev_bipush 27 (v := 40) dX4_become_25 rfl rfl).trans (((ev_irem 28 dX4_become_27 rfl).trans (if_neg (by decide))).trans ((ev_istore 30 [some (vR 1), some (vI a1), some (vI a2), some (vI a3), some (vI ((w32 ((h 1 4) + (h 1 2))).tmod 40))] dX4_become_28 rfl rfl).trans ((ev_aload_n 31 dX4_become_30 rfl rfl).trans ((ev_getF 34 12 dX4_become_31 fl_4_15 oc1 ak1 rfl rf_1_5 rfl).trans ((ev_iload 36 dX4_become_34 rfl rfl).trans ((ev_iload_n 37 dX4_become_36 rfl rfl).trans ((ev_iast 38 40 dX4_become_37 ak12 an12 rfl).trans (mm_ite ((ev_aload_n 39 dX4_become_38 rfl rfl).trans ((ev_getF 42 13 dX4_become_39 fl_4_18 oc1 ak1 rfl rf_1_6 rfl).trans ((ev_iload 44 dX4_become_42 rfl rfl).trans ((ev_iload_n 45 dX4_become_44 rfl rfl).trans ((ev_iast 46 40 dX4_become_45 ak13 an13 rfl).trans (mm_ite ((ev_aload_n 47 dX4_become_46 rfl rfl).trans ((ev_getF 50 14 dX4_become_47 fl_4_21 oc1 ak1 rfl rf_1_7 rfl).trans ((ev_iload 52 dX4_become_50 rfl rfl).trans ((ev_iload_n 53 dX4_become_52 rfl rfl).trans ((ev_iast 54 40 dX4_become_53 ak14 an14 rfl).trans (mm_ite ((ev_aload_n 55 dX4_become_54 rfl rfl).trans ((ev_dup 56 dX4_become_55 rfl rfl).trans ((ev_getI 59 2 dX4_become_56 fl_4_59 oc1 ak1 (by decide) rfl rfl).trans ((ev_iconst 60 (v := 1) dX4_become_59 rfl rfl).trans ((ev_iadd 61 dX4_become_60 rfl).trans ((ev_putI 64 2 dX4_become_61 fl_4_59 oc1 ak1 rfl rfl rfl).trans ((ev_aload_n 65 dX4_become_64 rfl rfl).trans ((ev_iconst 66 (v := 0) dX4_become_65 rfl rfl).trans ((ev_putI 69 3 dX4_become_66 fl_4_62 oc1 ak1 rfl rfl rfl).trans ((ev_aload_n 70 dX4_become_69 rfl rfl).trans ((ev_getF 73 11 dX4_become_70 fl_4_9 oc1 ak1 rfl rf_1_0 rfl).trans ((ev_iload_n 74 dX4_become_73 rfl rfl).trans ((ev_iload_n 75 dX4_become_74 rfl rfl).trans ((ev_iast 76 57 dX4_become_75 ak11 an11 rfl).trans (mm_ite ((ev_iload_n 77 dX4_become_76 rfl rfl).trans (ev_iret dX4_become_77 rfl)) (rfl)))))))))))))))) (rfl))))))) (rfl))))))) (rfl))))))))))))))
theorem dX4_makeRoom_0 : decode mX4_makeRoom.1 0 = .ok (.aload_n 0, 1) := by decide +kernel
theorem dX4_makeRoom_1 : decode mX4_makeRoom.1 1 = .ok (.getfield 59, 3) := by decide +kernel
theorem dX4_makeRoom_4 : decode mX4_makeRoom.1 4 = .ok (.bipush 40, 2) := by decide +kernel
theorem dX4_makeRoom_6 : decode mX4_makeRoom.1 6 = .ok (.if_icmp .ne 26, 3) := by decide +kernel
theorem dX4_makeRoom_9 : decode mX4_makeRoom.1 9 = .ok (.aload_n 0, 1) := by decide +kernel
theorem dX4_makeRoom_10 : decode mX4_makeRoom.1 10 = .ok (.aload_n 0, 1) := by decide +kernel
theorem dX4_makeRoom_11 : decode mX4_makeRoom.1 11 = .ok (.getfield 56, 3) := by decide +kernel
theorem dX4_makeRoom_14 : decode mX4_makeRoom.1 14 = .ok (.iconst 1, 1) := by decide +kernel
theorem dX4_makeRoom_15 : decode mX4_makeRoom.1 15 = .ok (.iadd, 1) := by decide +kernel
theorem dX4_makeRoom_16 : decode mX4_makeRoom.1 16 = .ok (.bipush 40, 2) := by decide +kernel
theorem dX4_makeRoom_18 : decode mX4_makeRoom.1 18 = .ok (.irem, 1) := by decide +kernel
theorem dX4_makeRoom_19 : decode mX4_makeRoom.1 19 = .ok (.putfield 56, 3) := by decide +kernel
theorem dX4_makeRoom_22 : decode mX4_makeRoom.1 22 = .ok (.aload_n 0, 1) := by decide +kernel
theorem dX4_makeRoom_23 : decode mX4_makeRoom.1 23 = .ok (.dup, 1) := by decide +kernel
theorem dX4_makeRoom_24 : decode mX4_makeRoom.1 24 = .ok (.getfield 59, 3) := by decide +kernel
theorem dX4_makeRoom_27 : decode mX4_makeRoom.1 27 = .ok (.iconst 1, 1) := by decide +kernel
theorem dX4_makeRoom_28 : decode mX4_makeRoom.1 28 = .ok (.isub, 1) := by decide +kernel
theorem dX4_makeRoom_29 : decode mX4_makeRoom.1 29 = .ok (.putfield 59, 3) := by decide +kernel
theorem dX4_makeRoom_32 : decode mX4_makeRoom.1 32 = .ok (.return_, 1) := by decide +kernel
theorem X4_makeRoom_0 (h : mm_M) : mm_ev mX4_makeRoom 1 0 [some (vR 1)] [] h = if ¬ (h 1 2) = 40 then some ([], h) else some ([], mUp (mUp h 1 4 ((w32 ((h 1 4) + 1)).tmod 40)) 1 2 (w32 (((mUp h 1 4 ((w32 ((h 1 4) + 1)).tmod 40)) 1 2) - 1))) := (ev_aload_n 1 dX4_makeRoom_0 rfl rfl).trans ((ev_getI 4 2 dX4_makeRoom_1 fl_4_59 oc1 ak1 (by decide) rfl rfl).trans ((ev_bipush 6 (v := 40) dX4_makeRoom_4 rfl rfl).trans ((ev_ic_ne 32 9 dX4_makeRoom_6 rfl rfl).trans (mm_ite (ev_vret dX4_makeRoom_32 rfl) ((ev_aload_n 10 dX4_makeRoom_9 rfl rfl).trans ((ev_aload_n 11 dX4_makeRoom_10 rfl rfl).trans ((ev_getI 14 4 dX4_makeRoom_11 fl_4_56 oc1 ak1 (by decide) rfl rfl).trans ((ev_iconst 15 (v := 1) dX4_makeRoom_14 rfl rfl).trans ((ev_iadd 16 dX4_makeRoom_15 rfl).trans ((ev_bipush 18 (v := 40) dX4_makeRoom_16 rfl rfl).trans (((ev_irem 19 dX4_makeRoom_18 rfl).trans (if_neg (by decide))).trans ((ev_putI 22 4 dX4_makeRoom_19 fl_4_56 oc1 ak1 rfl rfl rfl).trans ((ev_aload_n 23 dX4_makeRoom_22 rfl rfl).trans ((ev_dup 24 dX4_makeRoom_23 rfl rfl).trans ((ev_getI 27 2 dX4_makeRoom_24 fl_4_59 oc1 ak1 (by decide) rfl rfl).trans ((ev_iconst 28 (v := 1) dX4_makeRoom_27 rfl rfl).trans ((ev_isub 29 dX4_makeRoom_28 rfl).trans ((ev_putI 32 2 dX4_makeRoom_29 fl_4_59 oc1 ak1 rfl rfl rfl).trans (ev_vret dX4_makeRoom_32 rfl)))))))))))))))))))
theorem X4_makeRoom_c (h : mm_M) : mm_call mX4_makeRoom [vR 1] h = if ¬ (h 1 2) = 40 then some ([], h) else some ([], mUp (mUp h 1 4 ((w32 ((h 1 4) + 1)).tmod 40)) 1 2 (w32 (((mUp h 1 4 ((w32 ((h 1 4) + 1)).tmod 40)) 1 2) - 1))) := X4_makeRoom_0 h 
theorem dX4_addPost_0 : decode mX4_addPost.1 0 = .ok (.aload_n 0, 1) := by decide +kernel
theorem dX4_addPost_1 : decode mX4_addPost.1 1 = .ok (.getfield 27, 3) := by decide +kernel
theorem dX4_addPost_4 : decode mX4_addPost.1 4 = .ok (.istore 4, 2) := by decide +kernel
theorem dX4_addPost_6 : decode mX4_addPost.1 6 = .ok (.aload_n 0, 1) := by decide +kernel
theorem dX4_addPost_7 : decode mX4_addPost.1 7 = .ok (.getfield 9, 3) := by decide +kernel
theorem dX4_addPost_10 : decode mX4_addPost.1 10 = .ok (.getstatic 24, 3) := by decide +kernel
theorem dX4_addPost_13 : decode mX4_addPost.1 13 = .ok (.iconst 0, 1) := by decide +kernel
theorem dX4_addPost_14 : decode mX4_addPost.1 14 = .ok (.iaload, 1) := by decide +kernel
theorem dX4_addPost_15 : decode mX4_addPost.1 15 = .ok (.iload 4, 2) := by decide +kernel
theorem dX4_addPost_17 : decode mX4_addPost.1 17 = .ok (.iadd, 1) := by decide +kernel
theorem dX4_addPost_18 : decode mX4_addPost.1 18 = .ok (.iload_n 1, 1) := by decide +kernel
theorem dX4_addPost_19 : decode mX4_addPost.1 19 = .ok (.iastore, 1) := by decide +kernel
theorem dX4_addPost_20 : decode mX4_addPost.1 20 = .ok (.aload_n 0, 1) := by decide +kernel
theorem dX4_addPost_21 : decode mX4_addPost.1 21 = .ok (.getfield 9, 3) := by decide +kernel
theorem dX4_addPost_24 : decode mX4_addPost.1 24 = .ok (.getstatic 24, 3) := by decide +kernel
theorem dX4_addPost_27 : decode mX4_addPost.1 27 = .ok (.iconst 1, 1) := by decide +kernel
theorem dX4_addPost_28 : decode mX4_addPost.1 28 = .ok (.iaload, 1) := by decide +kernel
theorem dX4_addPost_29 : decode mX4_addPost.1 29 = .ok (.iload 4, 2) := by decide +kernel
theorem dX4_addPost_31 : decode mX4_addPost.1 31 = .ok (.iadd, 1) := by decide +kernel
theorem dX4_addPost_32 : decode mX4_addPost.1 32 = .ok (.iload_n 2, 1) := by decide +kernel
theorem dX4_addPost_33 : decode mX4_addPost.1 33 = .ok (.iastore, 1) := by decide +kernel
theorem dX4_addPost_34 : decode mX4_addPost.1 34 = .ok (.aload_n 0, 1) := by decide +kernel
theorem dX4_addPost_35 : decode mX4_addPost.1 35 = .ok (.getfield 9, 3) := by decide +kernel
theorem dX4_addPost_38 : decode mX4_addPost.1 38 = .ok (.getstatic 24, 3) := by decide +kernel
theorem dX4_addPost_41 : decode mX4_addPost.1 41 = .ok (.iconst 2, 1) := by decide +kernel
theorem dX4_addPost_42 : decode mX4_addPost.1 42 = .ok (.iaload, 1) := by decide +kernel
theorem dX4_addPost_43 : decode mX4_addPost.1 43 = .ok (.iload 4, 2) := by decide +kernel
theorem dX4_addPost_45 : decode mX4_addPost.1 45 = .ok (.iadd, 1) := by decide +kernel
theorem dX4_addPost_46 : decode mX4_addPost.1 46 = .ok (.iload_n 3, 1) := by decide +kernel
theorem dX4_addPost_47 : decode mX4_addPost.1 47 = .ok (.iastore, 1) := by decide +kernel
theorem dX4_addPost_48 : decode mX4_addPost.1 48 = .ok (.aload_n 0, 1) := by decide +kernel
theorem dX4_addPost_49 : decode mX4_addPost.1 49 = .ok (.dup, 1) := by decide +kernel
theorem dX4_addPost_50 : decode mX4_addPost.1 50 = .ok (.getfield 27, 3) := by decide +kernel
theorem dX4_addPost_53 : decode mX4_addPost.1 53 = .ok (.iconst 1, 1) := by decide +kernel
theorem dX4_addPost_54 : decode mX4_addPost.1 54 = .ok (.iadd, 1) := by decide +kernel
theorem dX4_addPost_55 : decode mX4_addPost.1 55 = .ok (.putfield 27, 3) := by decide +kernel
theorem dX4_addPost_58 : decode mX4_addPost.1 58 = .ok (.iload 4, 2) := by decide +kernel
theorem dX4_addPost_60 : decode mX4_addPost.1 60 = .ok (.ireturn, 1) := by decide +kernel
theorem X4_addPost_0 (h : mm_M) (a1 : Int) (a2 : Int) (a3 : Int) : mm_ev mX4_addPost 1 0 [some (vR 1), some (vI a1), some (vI a2), some (vI a3), none] [] h = if 0 ≤ 0 ∧ 0 < 12 then if 0 ≤ (w32 ((mm_ct 100 0) + (h 1 1))) ∧ (w32 ((mm_ct 100 0) + (h 1 1))) < 57 then if 0 ≤ 1 ∧ 1 < 12 then if 0 ≤ (w32 ((mm_ct 100 1) + (h 1 1))) ∧ (w32 ((mm_ct 100 1) + (h 1 1))) < 57 then if 0 ≤ 2 ∧ 2 < 12 then if 0 ≤ (w32 ((mm_ct 100 2) + (h 1 1))) ∧ (w32 ((mm_ct 100 2) + (h 1 1))) < 57 then some ([vI (h 1 1)], mUp (mUp (mUp (mUp h 11 (w32 ((mm_ct 100 0) + (h 1 1))) a1) 11 (w32 ((mm_ct 100 1) + (h 1 1))) a2) 11 (w32 ((mm_ct 100 2) + (h 1 1))) a3) 1 1 (w32 (((mUp (mUp (mUp h 11 (w32 ((mm_ct 100 0) + (h 1 1))) a1) 11 (w32 ((mm_ct 100 1) + (h 1 1))) a2) 11 (w32 ((mm_ct 100 2) + (h 1 1))) a3) 1 1) + 1))) else none else none else none else none else none else none := (ev_aload_n 1 dX4_addPost_0 rfl rfl).trans ((ev_getI 4 1 dX4_addPost_1 fl_4_27 oc1 ak1 (by decide) rfl rfl).trans ((ev_istore 6 [some (vR 1), some (vI a1), some (vI a2), some (vI a3), some (vI (h 1 1))] dX4_addPost_4 rfl rfl).trans ((ev_aload_n 7 dX4_addPost_6 rfl rfl).trans ((ev_getF 10 11 dX4_addPost_7 fl_4_9 oc1 ak1 rfl rf_1_0 rfl).trans ((ev_gets 13 100 dX4_addPost_10 st_4_24 rfl).trans ((ev_iconst 14 (v := 0) dX4_addPost_13 rfl rfl).trans ((ev_ialdC 15 12 dX4_addPost_14 ak100 an100 rfl).trans (mm_ite ((ev_iload 17 dX4_addPost_15 rfl rfl).trans ((ev_iadd 18 dX4_addPost_17 rfl).trans ((ev_iload_n 19 dX4_addPost_18 rfl rfl).trans ((ev_iast 20 57 dX4_addPost_19 ak11 an11 rfl).trans (mm_ite ((ev_aload_n 21 dX4_addPost_20 rfl rfl).trans ((ev_getF 24 11 dX4_addPost_21 fl_4_9 oc1 ak1 rfl rf_1_0 rfl).trans ((ev_gets 27 100 dX4_addPost_24 st_4_24 rfl).trans ((ev_iconst 28 (v := 1) dX4_addPost_27 rfl rfl).trans ((ev_ialdC 29 12 dX4_addPost_28 ak100 an100 rfl).trans (mm_ite ((ev_iload 31 dX4_addPost_29 rfl rfl).trans ((ev_iadd 32 dX4_addPost_31 rfl).trans ((ev_iload_n 33 dX4_addPost_32 rfl rfl).trans ((ev_iast 34 57 dX4_addPost_33 ak11 an11 rfl).trans (mm_ite ((ev_aload_n 35 dX4_addPost_34 rfl rfl).trans ((ev_getF 38 11 dX4_addPost_35 fl_4_9 oc1 ak1 rfl rf_1_0 rfl).trans ((ev_gets 41 100 dX4_addPost_38 st_4_24 rfl).trans ((ev_iconst 42 (v := 2) dX4_addPost_41 rfl rfl).trans ((ev_ialdC 43 12 dX4_addPost_42 ak100 an100 rfl).trans (mm_ite ((ev_iload 45 dX4_addPost_43 rfl rfl).trans ((ev_iadd 46 dX4_addPost_45 rfl).trans ((ev_iload_n 47 dX4_addPost_46 rfl rfl).trans ((ev_iast 48 57 dX4_addPost_47 ak11 an11 rfl).trans (mm_ite ((ev_aload_n 49 dX4_addPost_48 rfl rfl).trans ((ev_dup 50 dX4_addPost_49 rfl rfl).trans ((ev_getI 53 1 dX4_addPost_50 fl_4_27 oc1 ak1 (by decide) rfl rfl).trans ((ev_iconst 54 (v := 1) dX4_addPost_53 rfl rfl).trans ((ev_iadd 55 dX4_addPost_54 rfl).trans ((ev_putI 58 1 dX4_addPost_55 fl_4_27 oc1 ak1 rfl rfl rfl).trans ((ev_iload 60 dX4_addPost_58 rfl rfl).trans (ev_iret dX4_addPost_60 rfl)))))))) (rfl)))))) (rfl))))))) (rfl)))))) (rfl))))))) (rfl)))))) (rfl)))))))))
theorem X4_addPost_c (h : mm_M) (a1 : Int) (a2 : Int) (a3 : Int) : mm_call mX4_addPost [vR 1, vI a1, vI a2, vI a3] h = if 0 ≤ 0 ∧ 0 < 12 then if 0 ≤ (w32 ((mm_ct 100 0) + (h 1 1))) ∧ (w32 ((mm_ct 100 0) + (h 1 1))) < 57 then if 0 ≤ 1 ∧ 1 < 12 then if 0 ≤ (w32 ((mm_ct 100 1) + (h 1 1))) ∧ (w32 ((mm_ct 100 1) + (h 1 1))) < 57 then if 0 ≤ 2 ∧ 2 < 12 then if 0 ≤ (w32 ((mm_ct 100 2) + (h 1 1))) ∧ (w32 ((mm_ct 100 2) + (h 1 1))) < 57 then some ([vI (h 1 1)], mUp (mUp (mUp (mUp h 11 (w32 ((mm_ct 100 0) + (h 1 1))) a1) 11 (w32 ((mm_ct 100 1) + (h 1 1))) a2) 11 (w32 ((mm_ct 100 2) + (h 1 1))) a3) 1 1 (w32 (((mUp (mUp (mUp h 11 (w32 ((mm_ct 100 0) + (h 1 1))) a1) 11 (w32 ((mm_ct 100 1) + (h 1 1))) a2) 11 (w32 ((mm_ct 100 2) + (h 1 1))) a3) 1 1) + 1))) else none else none else none else none else none else none := X4_addPost_0 h a1 a2 a3
theorem dX7_isShelf_0 : decode mX7_isShelf.1 0 = .ok (.iload_n 1, 1) := by decide +kernel
theorem dX7_isShelf_1 : decode mX7_isShelf.1 1 = .ok (.ifCond .lt 13, 3) := by decide +kernel
theorem dX7_isShelf_4 : decode mX7_isShelf.1 4 = .ok (.iload_n 1, 1) := by decide +kernel
theorem dX7_isShelf_5 : decode mX7_isShelf.1 5 = .ok (.bipush 6, 2) := by decide +kernel
theorem dX7_isShelf_7 : decode mX7_isShelf.1 7 = .ok (.if_icmp .ge 7, 3) := by decide +kernel
theorem dX7_isShelf_10 : decode mX7_isShelf.1 10 = .ok (.iconst 1, 1) := by decide +kernel
theorem dX7_isShelf_11 : decode mX7_isShelf.1 11 = .ok (.goto 4, 3) := by decide +kernel
theorem dX7_isShelf_14 : decode mX7_isShelf.1 14 = .ok (.iconst 0, 1) := by decide +kernel
theorem dX7_isShelf_15 : decode mX7_isShelf.1 15 = .ok (.ireturn, 1) := by decide +kernel
theorem X7_isShelf_0 (h : mm_M) (a1 : Int) : mm_ev mX7_isShelf 1 0 [some (vR 3), some (vI a1)] [] h = if a1 < 0 then some ([vI 0], h) else if 6 ≤ a1 then some ([vI 0], h) else some ([vI 1], h) := (ev_iload_n 1 dX7_isShelf_0 rfl rfl).trans ((ev_if_lt 14 4 dX7_isShelf_1 rfl rfl).trans (mm_ite ((ev_iconst 15 (v := 0) dX7_isShelf_14 rfl rfl).trans (ev_zret0 dX7_isShelf_15 rfl)) ((ev_iload_n 5 dX7_isShelf_4 rfl rfl).trans ((ev_bipush 7 (v := 6) dX7_isShelf_5 rfl rfl).trans ((ev_ic_ge 14 10 dX7_isShelf_7 rfl rfl).trans (mm_ite ((ev_iconst 15 (v := 0) dX7_isShelf_14 rfl rfl).trans (ev_zret0 dX7_isShelf_15 rfl)) ((ev_iconst 11 (v := 1) dX7_isShelf_10 rfl rfl).trans ((ev_goto 15 dX7_isShelf_11 rfl).trans (ev_zret1 dX7_isShelf_15 rfl)))))))))
theorem X7_isShelf_c (h : mm_M) (a1 : Int) : mm_call mX7_isShelf [vR 3, vI a1] h = if a1 < 0 then some ([vI 0], h) else if 6 ≤ a1 then some ([vI 0], h) else some ([vI 1], h) := X7_isShelf_0 h a1
theorem dX7_move_0 : decode mX7_move.1 0 = .ok (.aload_n 0, 1) := by decide +kernel
theorem dX7_move_1 : decode mX7_move.1 1 = .ok (.getfield 11, 3) := by decide +kernel
theorem dX7_move_4 : decode mX7_move.1 4 = .ok (.iload_n 1, 1) := by decide +kernel
theorem dX7_move_5 : decode mX7_move.1 5 = .ok (.iaload, 1) := by decide +kernel
theorem dX7_move_6 : decode mX7_move.1 6 = .ok (.iconst (-1), 1) := by decide +kernel
theorem dX7_move_7 : decode mX7_move.1 7 = .ok (.if_icmp .eq 13, 3) := by decide +kernel
theorem dX7_move_10 : decode mX7_move.1 10 = .ok (.aload_n 0, 1) := by decide +kernel
theorem dX7_move_11 : decode mX7_move.1 11 = .ok (.getfield 11, 3) := by decide +kernel
theorem dX7_move_14 : decode mX7_move.1 14 = .ok (.iload_n 3, 1) := by decide +kernel
theorem dX7_move_15 : decode mX7_move.1 15 = .ok (.iaload, 1) := by decide +kernel
theorem dX7_move_16 : decode mX7_move.1 16 = .ok (.iconst (-1), 1) := by decide +kernel
theorem dX7_move_17 : decode mX7_move.1 17 = .ok (.if_icmp .ne 6, 3) := by decide +kernel
theorem dX7_move_20 : decode mX7_move.1 20 = .ok (.bipush (-11), 2) := by decide +kernel
theorem dX7_move_22 : decode mX7_move.1 22 = .ok (.ireturn, 1) := by decide +kernel
theorem dX7_move_23 : decode mX7_move.1 23 = .ok (.aload_n 0, 1) := by decide +kernel
theorem dX7_move_24 : decode mX7_move.1 24 = .ok (.getfield 11, 3) := by decide +kernel
theorem dX7_move_27 : decode mX7_move.1 27 = .ok (.iload_n 1, 1) := by decide +kernel
theorem dX7_move_28 : decode mX7_move.1 28 = .ok (.iaload, 1) := by decide +kernel
theorem dX7_move_29 : decode mX7_move.1 29 = .ok (.bipush (-2), 2) := by decide +kernel
theorem dX7_move_31 : decode mX7_move.1 31 = .ok (.if_icmp .eq 18, 3) := by decide +kernel
theorem dX7_move_34 : decode mX7_move.1 34 = .ok (.aload_n 0, 1) := by decide +kernel
theorem dX7_move_35 : decode mX7_move.1 35 = .ok (.getfield 11, 3) := by decide +kernel
theorem dX7_move_38 : decode mX7_move.1 38 = .ok (.iload_n 3, 1) := by decide +kernel
theorem dX7_move_39 : decode mX7_move.1 39 = .ok (.iaload, 1) := by decide +kernel
theorem dX7_move_40 : decode mX7_move.1 40 = .ok (.aload_n 0, 1) := by decide +kernel
theorem dX7_move_41 : decode mX7_move.1 41 = .ok (.getfield 11, 3) := by decide +kernel
theorem dX7_move_44 : decode mX7_move.1 44 = .ok (.iload_n 1, 1) := by decide +kernel
theorem dX7_move_45 : decode mX7_move.1 45 = .ok (.iaload, 1) := by decide +kernel
theorem dX7_move_46 : decode mX7_move.1 46 = .ok (.if_icmp .eq 6, 3) := by decide +kernel
theorem dX7_move_49 : decode mX7_move.1 49 = .ok (.bipush (-12), 2) := by decide +kernel
theorem dX7_move_51 : decode mX7_move.1 51 = .ok (.ireturn, 1) := by decide +kernel
theorem dX7_move_52 : decode mX7_move.1 52 = .ok (.iload 5, 2) := by decide +kernel
theorem dX7_move_54 : decode mX7_move.1 54 = .ok (.ifCond .lt 39, 3) := by decide +kernel
theorem dX7_move_57 : decode mX7_move.1 57 = .ok (.iload_n 2, 1) := by decide +kernel
theorem dX7_move_58 : decode mX7_move.1 58 = .ok (.ifCond .lt 35, 3) := by decide +kernel
theorem dX7_move_61 : decode mX7_move.1 61 = .ok (.iload 4, 2) := by decide +kernel
theorem dX7_move_63 : decode mX7_move.1 63 = .ok (.ifCond .lt 30, 3) := by decide +kernel
theorem dX7_move_66 : decode mX7_move.1 66 = .ok (.iload_n 2, 1) := by decide +kernel
theorem dX7_move_67 : decode mX7_move.1 67 = .ok (.aload_n 0, 1) := by decide +kernel
theorem dX7_move_68 : decode mX7_move.1 68 = .ok (.getfield 15, 3) := by decide +kernel
theorem dX7_move_71 : decode mX7_move.1 71 = .ok (.iload_n 1, 1) := by decide +kernel
theorem dX7_move_72 : decode mX7_move.1 72 = .ok (.iaload, 1) := by decide +kernel
theorem dX7_move_73 : decode mX7_move.1 73 = .ok (.iload 5, 2) := by decide +kernel
theorem dX7_move_75 : decode mX7_move.1 75 = .ok (.isub, 1) := by decide +kernel
theorem dX7_move_76 : decode mX7_move.1 76 = .ok (.if_icmp .gt 17, 3) := by decide +kernel
theorem dX7_move_79 : decode mX7_move.1 79 = .ok (.iload 4, 2) := by decide +kernel
theorem dX7_move_81 : decode mX7_move.1 81 = .ok (.aload_n 0, 1) := by decide +kernel
theorem dX7_move_82 : decode mX7_move.1 82 = .ok (.getfield 15, 3) := by decide +kernel
theorem dX7_move_85 : decode mX7_move.1 85 = .ok (.iload_n 3, 1) := by decide +kernel
theorem dX7_move_86 : decode mX7_move.1 86 = .ok (.iaload, 1) := by decide +kernel
theorem dX7_move_87 : decode mX7_move.1 87 = .ok (.iload 5, 2) := by decide +kernel
theorem dX7_move_89 : decode mX7_move.1 89 = .ok (.isub, 1) := by decide +kernel
theorem dX7_move_90 : decode mX7_move.1 90 = .ok (.if_icmp .le 6, 3) := by decide +kernel
theorem dX7_move_93 : decode mX7_move.1 93 = .ok (.bipush (-13), 2) := by decide +kernel
theorem dX7_move_95 : decode mX7_move.1 95 = .ok (.ireturn, 1) := by decide +kernel
theorem dX7_move_96 : decode mX7_move.1 96 = .ok (.aload_n 0, 1) := by decide +kernel
theorem dX7_move_97 : decode mX7_move.1 97 = .ok (.getfield 21, 3) := by decide +kernel
theorem dX7_move_100 : decode mX7_move.1 100 = .ok (.iload_n 1, 1) := by decide +kernel
theorem dX7_move_101 : decode mX7_move.1 101 = .ok (.bipush 60, 2) := by decide +kernel
theorem dX7_move_103 : decode mX7_move.1 103 = .ok (.imul, 1) := by decide +kernel
theorem dX7_move_104 : decode mX7_move.1 104 = .ok (.iload_n 2, 1) := by decide +kernel
theorem dX7_move_105 : decode mX7_move.1 105 = .ok (.iadd, 1) := by decide +kernel
theorem dX7_move_106 : decode mX7_move.1 106 = .ok (.aload_n 0, 1) := by decide +kernel
theorem dX7_move_107 : decode mX7_move.1 107 = .ok (.getfield 21, 3) := by decide +kernel
theorem dX7_move_110 : decode mX7_move.1 110 = .ok (.iload_n 3, 1) := by decide +kernel
theorem dX7_move_111 : decode mX7_move.1 111 = .ok (.bipush 60, 2) := by decide +kernel
theorem dX7_move_113 : decode mX7_move.1 113 = .ok (.imul, 1) := by decide +kernel
theorem dX7_move_114 : decode mX7_move.1 114 = .ok (.iload 4, 2) := by decide +kernel
theorem dX7_move_116 : decode mX7_move.1 116 = .ok (.iadd, 1) := by decide +kernel
theorem dX7_move_117 : decode mX7_move.1 117 = .ok (.iload 5, 2) := by decide +kernel
theorem dX7_move_119 : decode mX7_move.1 119 = .ok (.invokestatic 37, 3) := by decide +kernel
theorem dX7_move_122 : decode mX7_move.1 122 = .ok (.iload 5, 2) := by decide +kernel
theorem dX7_move_124 : decode mX7_move.1 124 = .ok (.ireturn, 1) := by decide +kernel
theorem X7_move_0 (h : mm_M) (a1 : Int) (a2 : Int) (a3 : Int) (a4 : Int) (a5 : Int) : mm_ev mX7_move 1 0 [some (vR 3), some (vI a1), some (vI a2), some (vI a3), some (vI a4), some (vI a5)] [] h = if 0 ≤ a1 ∧ a1 < 6 then if (h 19 a1) = (-1) then some ([vI (-11)], h) else if 0 ≤ a3 ∧ a3 < 6 then if ¬ (h 19 a3) = (-1) then if 0 ≤ a1 ∧ a1 < 6 then if (h 19 a1) = (-2) then some ([vI (-12)], h) else if 0 ≤ a3 ∧ a3 < 6 then if 0 ≤ a1 ∧ a1 < 6 then if (h 19 a3) = (h 19 a1) then if a5 < 0 then some ([vI (-13)], h) else if a2 < 0 then some ([vI (-13)], h) else if a4 < 0 then some ([vI (-13)], h) else if 0 ≤ a1 ∧ a1 < 6 then if (w32 ((h 20 a1) - a5)) < a2 then some ([vI (-13)], h) else if 0 ≤ a3 ∧ a3 < 6 then if a4 ≤ (w32 ((h 20 a3) - a5)) then if 0 ≤ (w32 ((w32 (a1 * 60)) + a2)) ∧ 0 ≤ (w32 ((w32 (a3 * 60)) + a4)) ∧ 0 ≤ a5 ∧ (w32 ((w32 (a1 * 60)) + a2)) + a5 ≤ 360 ∧ (w32 ((w32 (a3 * 60)) + a4)) + a5 ≤ 360 then some ([vI a5], mCpy h 22 (w32 ((w32 (a1 * 60)) + a2)) 22 (w32 ((w32 (a3 * 60)) + a4)) a5) else none else some ([vI (-13)], h) else none else none else some ([vI (-12)], h) else none else none else none else some ([vI (-11)], h) else none else none := (ev_aload_n 1 dX7_move_0 rfl rfl).trans ((ev_getF 4 19 dX7_move_1 fl_7_11 oc3 ak3 rfl rf_3_0 rfl).trans ((ev_iload_n 5 dX7_move_4 rfl rfl).trans ((ev_iald 6 6 dX7_move_5 ak19 an19 rfl).trans (mm_ite ((ev_iconst 7 (v := (-1)) dX7_move_6 rfl rfl).trans ((ev_ic_eq 20 10 dX7_move_7 rfl rfl).trans (mm_ite ((ev_bipush 22 (v := (-11)) dX7_move_20 rfl rfl).trans (ev_iret dX7_move_22 rfl)) ((ev_aload_n 11 dX7_move_10 rfl rfl).trans ((ev_getF 14 19 dX7_move_11 fl_7_11 oc3 ak3 rfl rf_3_0 rfl).trans ((ev_iload_n 15 dX7_move_14 rfl rfl).trans ((ev_iald 16 6 dX7_move_15 ak19 an19 rfl).trans (mm_ite ((ev_iconst 17 (v := (-1)) dX7_move_16 rfl rfl).trans ((ev_ic_ne 23 20 dX7_move_17 rfl rfl).trans (mm_ite ((ev_aload_n 24 dX7_move_23 rfl rfl).trans ((ev_getF 27 19 dX7_move_24 fl_7_11 oc3 ak3 rfl rf_3_0 rfl).trans ((ev_iload_n 28 dX7_move_27 rfl rfl).trans ((ev_iald 29 6 dX7_move_28 ak19 an19 rfl).trans (mm_ite ((ev_bipush 31 (v := (-2)) dX7_move_29 rfl rfl).trans ((ev_ic_eq 49 34 dX7_move_31 rfl rfl).trans (mm_ite ((ev_bipush 51 (v := (-12)) dX7_move_49 rfl rfl).trans (ev_iret dX7_move_51 rfl)) ((ev_aload_n 35 dX7_move_34 rfl rfl).trans ((ev_getF 38 19 dX7_move_35 fl_7_11 oc3 ak3 rfl rf_3_0 rfl).trans ((ev_iload_n 39 dX7_move_38 rfl rfl).trans ((ev_iald 40 6 dX7_move_39 ak19 an19 rfl).trans (mm_ite ((ev_aload_n 41 dX7_move_40 rfl rfl).trans ((ev_getF 44 19 dX7_move_41 fl_7_11 oc3 ak3 rfl rf_3_0 rfl).trans ((ev_iload_n 45 dX7_move_44 rfl rfl).trans ((ev_iald 46 6 dX7_move_45 ak19 an19 rfl).trans (mm_ite ((ev_ic_eq 52 49 dX7_move_46 rfl rfl).trans (mm_ite ((ev_iload 54 dX7_move_52 rfl rfl).trans ((ev_if_lt 93 57 dX7_move_54 rfl rfl).trans (mm_ite ((ev_bipush 95 (v := (-13)) dX7_move_93 rfl rfl).trans (ev_iret dX7_move_95 rfl)) ((ev_iload_n 58 dX7_move_57 rfl rfl).trans ((ev_if_lt 93 61 dX7_move_58 rfl rfl).trans (mm_ite ((ev_bipush 95 (v := (-13)) dX7_move_93 rfl rfl).trans (ev_iret dX7_move_95 rfl)) ((ev_iload 63 dX7_move_61 rfl rfl).trans ((ev_if_lt 93 66 dX7_move_63 rfl rfl).trans (mm_ite ((ev_bipush 95 (v := (-13)) dX7_move_93 rfl rfl).trans (ev_iret dX7_move_95 rfl)) ((ev_iload_n 67 dX7_move_66 rfl rfl).trans ((ev_aload_n 68 dX7_move_67 rfl rfl).trans ((ev_getF 71 20 dX7_move_68 fl_7_15 oc3 ak3 rfl rf_3_1 rfl).trans ((ev_iload_n 72 dX7_move_71 rfl rfl).trans ((ev_iald 73 6 dX7_move_72 ak20 an20 rfl).trans (mm_ite ((ev_iload 75 dX7_move_73 rfl rfl).trans ((ev_isub 76 dX7_move_75 rfl).trans ((ev_ic_gt 93 79 dX7_move_76 rfl rfl).trans (mm_ite ((ev_bipush 95 (v := (-13)) dX7_move_93 rfl rfl).trans (ev_iret dX7_move_95 rfl)) ((ev_iload 81 dX7_move_79 rfl rfl).trans ((ev_aload_n 82 dX7_move_81 rfl rfl).trans ((ev_getF 85 20 dX7_move_82 fl_7_15 oc3 ak3 rfl rf_3_1 rfl).trans ((ev_iload_n 86 dX7_move_85 rfl rfl).trans ((ev_iald 87 6 dX7_move_86 ak20 an20 rfl).trans (mm_ite ((ev_iload 89 dX7_move_87 rfl rfl).trans ((ev_isub 90 dX7_move_89 rfl).trans ((ev_ic_le 96 93 dX7_move_90 rfl rfl).trans (mm_ite ((ev_aload_n 97 dX7_move_96 rfl rfl).trans ((ev_getF 100 22 dX7_move_97 fl_7_21 oc3 ak3 rfl rf_3_3 rfl).trans ((ev_iload_n 101 dX7_move_100 rfl rfl).trans ((ev_bipush 103 (v := 60) dX7_move_101 rfl rfl).trans ((ev_imul 104 dX7_move_103 rfl).trans ((ev_iload_n 105 dX7_move_104 rfl rfl).trans ((ev_iadd 106 dX7_move_105 rfl).trans ((ev_aload_n 107 dX7_move_106 rfl rfl).trans ((ev_getF 110 22 dX7_move_107 fl_7_21 oc3 ak3 rfl rf_3_3 rfl).trans ((ev_iload_n 111 dX7_move_110 rfl rfl).trans ((ev_bipush 113 (v := 60) dX7_move_111 rfl rfl).trans ((ev_imul 114 dX7_move_113 rfl).trans ((ev_iload 116 dX7_move_114 rfl rfl).trans ((ev_iadd 117 dX7_move_116 rfl).trans ((ev_iload 119 dX7_move_117 rfl rfl).trans ((ev_copy 122 360 360 dX7_move_119 ml_7_37 (Nat.le_of_ble_eq_true rfl) (Or.inr ak22) (ak22.trans ak22.symm) an22 an22 rfl).trans (mm_ite ((ev_iload 124 dX7_move_122 rfl rfl).trans (ev_iret dX7_move_124 rfl)) (rfl)))))))))))))))))) ((ev_bipush 95 (v := (-13)) dX7_move_93 rfl rfl).trans (ev_iret dX7_move_95 rfl)))))) (rfl))))))))))) (rfl)))))))))))))))) ((ev_bipush 51 (v := (-12)) dX7_move_49 rfl rfl).trans (ev_iret dX7_move_51 rfl)))) (rfl)))))) (rfl))))))))) (rfl)))))) ((ev_bipush 22 (v := (-11)) dX7_move_20 rfl rfl).trans (ev_iret dX7_move_22 rfl))))) (rfl))))))))) (rfl)))))
theorem X7_move_c (h : mm_M) (a1 : Int) (a2 : Int) (a3 : Int) (a4 : Int) (a5 : Int) : mm_call mX7_move [vR 3, vI a1, vI a2, vI a3, vI a4, vI a5] h = if 0 ≤ a1 ∧ a1 < 6 then if (h 19 a1) = (-1) then some ([vI (-11)], h) else if 0 ≤ a3 ∧ a3 < 6 then if ¬ (h 19 a3) = (-1) then if 0 ≤ a1 ∧ a1 < 6 then if (h 19 a1) = (-2) then some ([vI (-12)], h) else if 0 ≤ a3 ∧ a3 < 6 then if 0 ≤ a1 ∧ a1 < 6 then if (h 19 a3) = (h 19 a1) then if a5 < 0 then some ([vI (-13)], h) else if a2 < 0 then some ([vI (-13)], h) else if a4 < 0 then some ([vI (-13)], h) else if 0 ≤ a1 ∧ a1 < 6 then if (w32 ((h 20 a1) - a5)) < a2 then some ([vI (-13)], h) else if 0 ≤ a3 ∧ a3 < 6 then if a4 ≤ (w32 ((h 20 a3) - a5)) then if 0 ≤ (w32 ((w32 (a1 * 60)) + a2)) ∧ 0 ≤ (w32 ((w32 (a3 * 60)) + a4)) ∧ 0 ≤ a5 ∧ (w32 ((w32 (a1 * 60)) + a2)) + a5 ≤ 360 ∧ (w32 ((w32 (a3 * 60)) + a4)) + a5 ≤ 360 then some ([vI a5], mCpy h 22 (w32 ((w32 (a1 * 60)) + a2)) 22 (w32 ((w32 (a3 * 60)) + a4)) a5) else none else some ([vI (-13)], h) else none else none else some ([vI (-12)], h) else none else none else none else some ([vI (-11)], h) else none else none := X7_move_0 h a1 a2 a3 a4 a5
theorem dX7_refusalOfPlace_0 : decode mX7_refusalOfPlace.1 0 = .ok (.aload_n 0, 1) := by decide +kernel
theorem dX7_refusalOfPlace_1 : decode mX7_refusalOfPlace.1 1 = .ok (.iload_n 1, 1) := by decide +kernel
theorem dX7_refusalOfPlace_2 : decode mX7_refusalOfPlace.1 2 = .ok (.invokevirtual 25, 3) := by decide +kernel
theorem dX7_refusalOfPlace_5 : decode mX7_refusalOfPlace.1 5 = .ok (.ifCond .ne 5, 3) := by decide +kernel
theorem dX7_refusalOfPlace_8 : decode mX7_refusalOfPlace.1 8 = .ok (.iconst (-1), 1) := by decide +kernel
theorem dX7_refusalOfPlace_9 : decode mX7_refusalOfPlace.1 9 = .ok (.ireturn, 1) := by decide +kernel
theorem dX7_refusalOfPlace_10 : decode mX7_refusalOfPlace.1 10 = .ok (.aload_n 0, 1) := by decide +kernel
theorem dX7_refusalOfPlace_11 : decode mX7_refusalOfPlace.1 11 = .ok (.getfield 11, 3) := by decide +kernel
theorem dX7_refusalOfPlace_14 : decode mX7_refusalOfPlace.1 14 = .ok (.iload_n 1, 1) := by decide +kernel
theorem dX7_refusalOfPlace_15 : decode mX7_refusalOfPlace.1 15 = .ok (.iaload, 1) := by decide +kernel
theorem dX7_refusalOfPlace_16 : decode mX7_refusalOfPlace.1 16 = .ok (.ifCond .ge 21, 3) := by decide +kernel
theorem dX7_refusalOfPlace_19 : decode mX7_refusalOfPlace.1 19 = .ok (.aload_n 0, 1) := by decide +kernel
theorem dX7_refusalOfPlace_20 : decode mX7_refusalOfPlace.1 20 = .ok (.getfield 11, 3) := by decide +kernel
theorem dX7_refusalOfPlace_23 : decode mX7_refusalOfPlace.1 23 = .ok (.iload_n 1, 1) := by decide +kernel
theorem dX7_refusalOfPlace_24 : decode mX7_refusalOfPlace.1 24 = .ok (.iaload, 1) := by decide +kernel
theorem dX7_refusalOfPlace_25 : decode mX7_refusalOfPlace.1 25 = .ok (.iconst (-1), 1) := by decide +kernel
theorem dX7_refusalOfPlace_26 : decode mX7_refusalOfPlace.1 26 = .ok (.if_icmp .ne 8, 3) := by decide +kernel
theorem dX7_refusalOfPlace_29 : decode mX7_refusalOfPlace.1 29 = .ok (.bipush (-11), 2) := by decide +kernel
theorem dX7_refusalOfPlace_31 : decode mX7_refusalOfPlace.1 31 = .ok (.goto 5, 3) := by decide +kernel
theorem dX7_refusalOfPlace_34 : decode mX7_refusalOfPlace.1 34 = .ok (.bipush (-12), 2) := by decide +kernel
theorem dX7_refusalOfPlace_36 : decode mX7_refusalOfPlace.1 36 = .ok (.ireturn, 1) := by decide +kernel
theorem dX7_refusalOfPlace_37 : decode mX7_refusalOfPlace.1 37 = .ok (.iload_n 2, 1) := by decide +kernel
theorem dX7_refusalOfPlace_38 : decode mX7_refusalOfPlace.1 38 = .ok (.ifCond .lt 17, 3) := by decide +kernel
theorem dX7_refusalOfPlace_41 : decode mX7_refusalOfPlace.1 41 = .ok (.iload_n 2, 1) := by decide +kernel
theorem dX7_refusalOfPlace_42 : decode mX7_refusalOfPlace.1 42 = .ok (.aload_n 0, 1) := by decide +kernel
theorem dX7_refusalOfPlace_43 : decode mX7_refusalOfPlace.1 43 = .ok (.getfield 15, 3) := by decide +kernel
theorem dX7_refusalOfPlace_46 : decode mX7_refusalOfPlace.1 46 = .ok (.iload_n 1, 1) := by decide +kernel
theorem dX7_refusalOfPlace_47 : decode mX7_refusalOfPlace.1 47 = .ok (.iaload, 1) := by decide +kernel
theorem dX7_refusalOfPlace_48 : decode mX7_refusalOfPlace.1 48 = .ok (.if_icmp .ge 7, 3) := by decide +kernel
theorem dX7_refusalOfPlace_51 : decode mX7_refusalOfPlace.1 51 = .ok (.iconst 0, 1) := by decide +kernel
theorem dX7_refusalOfPlace_52 : decode mX7_refusalOfPlace.1 52 = .ok (.goto 5, 3) := by decide +kernel
theorem dX7_refusalOfPlace_55 : decode mX7_refusalOfPlace.1 55 = .ok (.bipush (-13), 2) := by decide +kernel
theorem dX7_refusalOfPlace_57 : decode mX7_refusalOfPlace.1 57 = .ok (.ireturn, 1) := by decide +kernel
theorem X7_refusalOfPlace_0 (h : mm_M) (a1 : Int) (a2 : Int) : mm_ev mX7_refusalOfPlace 2 0 [some (vR 3), some (vI a1), some (vI a2)] [] h = (mm_call mX7_isShelf [vR 3, vI a1] h).bind (fun w => mm_ev mX7_refusalOfPlace 2 5 [some (vR 3), some (vI a1), some (vI a2)] (w.1 ++ []) w.2) := (ev_aload_n 1 dX7_refusalOfPlace_0 rfl rfl).trans ((ev_iload_n 2 dX7_refusalOfPlace_1 rfl rfl).trans ((ev_callv mX7_isShelf [vR 3, vI a1] [] 5 dX7_refusalOfPlace_2 ml_7_25 k64 rfl oc3 ak3 rfl rfl (Nat.le_of_ble_eq_true rfl) (Nat.le_of_ble_eq_true rfl) rfl).trans (if_pos (show 1 < 2 from by decide))))
theorem X7_refusalOfPlace_c (h : mm_M) (a1 : Int) (a2 : Int) : mm_call mX7_refusalOfPlace [vR 3, vI a1, vI a2] h = (mm_call mX7_isShelf [vR 3, vI a1] h).bind (fun w => mm_ev mX7_refusalOfPlace 2 5 [some (vR 3), some (vI a1), some (vI a2)] (w.1 ++ []) w.2) := X7_refusalOfPlace_0 h a1 a2
theorem X7_refusalOfPlace_5 (h : mm_M) (a1 : Int) (a2 : Int) (s0 : Int) : mm_ev mX7_refusalOfPlace 2 5 [some (vR 3), some (vI a1), some (vI a2)] [vI s0] h = if ¬ s0 = 0 then if 0 ≤ a1 ∧ a1 < 6 then if 0 ≤ (h 19 a1) then if a2 < 0 then some ([vI (-13)], h) else if 0 ≤ a1 ∧ a1 < 6 then if (h 20 a1) ≤ a2 then some ([vI (-13)], h) else some ([vI 0], h) else none else if 0 ≤ a1 ∧ a1 < 6 then if ¬ (h 19 a1) = (-1) then some ([vI (-12)], h) else some ([vI (-11)], h) else none else none else some ([vI (-1)], h) := (ev_if_ne 10 8 dX7_refusalOfPlace_5 rfl rfl).trans (mm_ite ((ev_aload_n 11 dX7_refusalOfPlace_10 rfl rfl).trans ((ev_getF 14 19 dX7_refusalOfPlace_11 fl_7_11 oc3 ak3 rfl rf_3_0 rfl).trans ((ev_iload_n 15 dX7_refusalOfPlace_14 rfl rfl).trans ((ev_iald 16 6 dX7_refusalOfPlace_15 ak19 an19 rfl).trans (mm_ite ((ev_if_ge 37 19 dX7_refusalOfPlace_16 rfl rfl).trans (mm_ite ((ev_iload_n 38 dX7_refusalOfPlace_37 rfl rfl).trans ((ev_if_lt 55 41 dX7_refusalOfPlace_38 rfl rfl).trans (mm_ite ((ev_bipush 57 (v := (-13)) dX7_refusalOfPlace_55 rfl rfl).trans (ev_iret dX7_refusalOfPlace_57 rfl)) ((ev_iload_n 42 dX7_refusalOfPlace_41 rfl rfl).trans ((ev_aload_n 43 dX7_refusalOfPlace_42 rfl rfl).trans ((ev_getF 46 20 dX7_refusalOfPlace_43 fl_7_15 oc3 ak3 rfl rf_3_1 rfl).trans ((ev_iload_n 47 dX7_refusalOfPlace_46 rfl rfl).trans ((ev_iald 48 6 dX7_refusalOfPlace_47 ak20 an20 rfl).trans (mm_ite ((ev_ic_ge 55 51 dX7_refusalOfPlace_48 rfl rfl).trans (mm_ite ((ev_bipush 57 (v := (-13)) dX7_refusalOfPlace_55 rfl rfl).trans (ev_iret dX7_refusalOfPlace_57 rfl)) ((ev_iconst 52 (v := 0) dX7_refusalOfPlace_51 rfl rfl).trans ((ev_goto 57 dX7_refusalOfPlace_52 rfl).trans (ev_iret dX7_refusalOfPlace_57 rfl))))) (rfl)))))))))) ((ev_aload_n 20 dX7_refusalOfPlace_19 rfl rfl).trans ((ev_getF 23 19 dX7_refusalOfPlace_20 fl_7_11 oc3 ak3 rfl rf_3_0 rfl).trans ((ev_iload_n 24 dX7_refusalOfPlace_23 rfl rfl).trans ((ev_iald 25 6 dX7_refusalOfPlace_24 ak19 an19 rfl).trans (mm_ite ((ev_iconst 26 (v := (-1)) dX7_refusalOfPlace_25 rfl rfl).trans ((ev_ic_ne 34 29 dX7_refusalOfPlace_26 rfl rfl).trans (mm_ite ((ev_bipush 36 (v := (-12)) dX7_refusalOfPlace_34 rfl rfl).trans (ev_iret dX7_refusalOfPlace_36 rfl)) ((ev_bipush 31 (v := (-11)) dX7_refusalOfPlace_29 rfl rfl).trans ((ev_goto 36 dX7_refusalOfPlace_31 rfl).trans (ev_iret dX7_refusalOfPlace_36 rfl)))))) (rfl)))))))) (rfl)))))) ((ev_iconst 9 (v := (-1)) dX7_refusalOfPlace_8 rfl rfl).trans (ev_iret dX7_refusalOfPlace_9 rfl)))
theorem dX7_read_0 : decode mX7_read.1 0 = .ok (.aload_n 0, 1) := by decide +kernel
theorem dX7_read_1 : decode mX7_read.1 1 = .ok (.iload_n 1, 1) := by decide +kernel
theorem dX7_read_2 : decode mX7_read.1 2 = .ok (.iload_n 2, 1) := by decide +kernel
theorem dX7_read_3 : decode mX7_read.1 3 = .ok (.invokevirtual 29, 3) := by decide +kernel
theorem dX7_read_6 : decode mX7_read.1 6 = .ok (.ifCond .ne 17, 3) := by decide +kernel
theorem dX7_read_9 : decode mX7_read.1 9 = .ok (.aload_n 0, 1) := by decide +kernel
theorem dX7_read_10 : decode mX7_read.1 10 = .ok (.getfield 21, 3) := by decide +kernel
theorem dX7_read_13 : decode mX7_read.1 13 = .ok (.iload_n 1, 1) := by decide +kernel
theorem dX7_read_14 : decode mX7_read.1 14 = .ok (.bipush 60, 2) := by decide +kernel
theorem dX7_read_16 : decode mX7_read.1 16 = .ok (.imul, 1) := by decide +kernel
theorem dX7_read_17 : decode mX7_read.1 17 = .ok (.iload_n 2, 1) := by decide +kernel
theorem dX7_read_18 : decode mX7_read.1 18 = .ok (.iadd, 1) := by decide +kernel
theorem dX7_read_19 : decode mX7_read.1 19 = .ok (.laload, 1) := by decide +kernel
theorem dX7_read_20 : decode mX7_read.1 20 = .ok (.goto 4, 3) := by decide +kernel
theorem dX7_read_23 : decode mX7_read.1 23 = .ok (.lconst 0, 1) := by decide +kernel
theorem dX7_read_24 : decode mX7_read.1 24 = .ok (.lreturn, 1) := by decide +kernel
theorem X7_read_0 (h : mm_M) (a1 : Int) (a2 : Int) : mm_ev mX7_read 3 0 [some (vR 3), some (vI a1), some (vI a2)] [] h = (mm_call mX7_refusalOfPlace [vR 3, vI a1, vI a2] h).bind (fun w => mm_ev mX7_read 3 6 [some (vR 3), some (vI a1), some (vI a2)] (w.1 ++ []) w.2) := (ev_aload_n 1 dX7_read_0 rfl rfl).trans ((ev_iload_n 2 dX7_read_1 rfl rfl).trans ((ev_iload_n 3 dX7_read_2 rfl rfl).trans ((ev_callv mX7_refusalOfPlace [vR 3, vI a1, vI a2] [] 6 dX7_read_3 ml_7_29 k66 rfl oc3 ak3 rfl rfl (Nat.le_of_ble_eq_true rfl) (Nat.le_of_ble_eq_true rfl) rfl).trans (if_pos (show 2 < 3 from by decide)))))
theorem X7_read_c (h : mm_M) (a1 : Int) (a2 : Int) : mm_call mX7_read [vR 3, vI a1, vI a2] h = (mm_call mX7_refusalOfPlace [vR 3, vI a1, vI a2] h).bind (fun w => mm_ev mX7_read 3 6 [some (vR 3), some (vI a1), some (vI a2)] (w.1 ++ []) w.2) := X7_read_0 h a1 a2
theorem X7_read_6 (h : mm_M) (a1 : Int) (a2 : Int) (s0 : Int) : mm_ev mX7_read 3 6 [some (vR 3), some (vI a1), some (vI a2)] [vI s0] h = if ¬ s0 = 0 then some ([vL 0], h) else if 0 ≤ (w32 ((w32 (a1 * 60)) + a2)) ∧ (w32 ((w32 (a1 * 60)) + a2)) < 360 then some ([vL (h 22 (w32 ((w32 (a1 * 60)) + a2)))], h) else none := (ev_if_ne 23 9 dX7_read_6 rfl rfl).trans (mm_ite ((ev_lconst 24 (v := 0) dX7_read_23 rfl rfl).trans (ev_lret dX7_read_24 rfl)) ((ev_aload_n 10 dX7_read_9 rfl rfl).trans ((ev_getF 13 22 dX7_read_10 fl_7_21 oc3 ak3 rfl rf_3_3 rfl).trans ((ev_iload_n 14 dX7_read_13 rfl rfl).trans ((ev_bipush 16 (v := 60) dX7_read_14 rfl rfl).trans ((ev_imul 17 dX7_read_16 rfl).trans ((ev_iload_n 18 dX7_read_17 rfl rfl).trans ((ev_iadd 19 dX7_read_18 rfl).trans ((ev_lald 20 360 dX7_read_19 ak22 an22 rfl).trans (mm_ite ((ev_goto 24 dX7_read_20 rfl).trans (ev_lret dX7_read_24 rfl)) (rfl)))))))))))
theorem dX7_write_0 : decode mX7_write.1 0 = .ok (.aload_n 0, 1) := by decide +kernel
theorem dX7_write_1 : decode mX7_write.1 1 = .ok (.iload_n 1, 1) := by decide +kernel
theorem dX7_write_2 : decode mX7_write.1 2 = .ok (.iload_n 2, 1) := by decide +kernel
theorem dX7_write_3 : decode mX7_write.1 3 = .ok (.invokevirtual 29, 3) := by decide +kernel
theorem dX7_write_6 : decode mX7_write.1 6 = .ok (.ifCond .ne 24, 3) := by decide +kernel
theorem dX7_write_9 : decode mX7_write.1 9 = .ok (.aload_n 0, 1) := by decide +kernel
theorem dX7_write_10 : decode mX7_write.1 10 = .ok (.getfield 21, 3) := by decide +kernel
theorem dX7_write_13 : decode mX7_write.1 13 = .ok (.iload_n 1, 1) := by decide +kernel
theorem dX7_write_14 : decode mX7_write.1 14 = .ok (.bipush 60, 2) := by decide +kernel
theorem dX7_write_16 : decode mX7_write.1 16 = .ok (.imul, 1) := by decide +kernel
theorem dX7_write_17 : decode mX7_write.1 17 = .ok (.iload_n 2, 1) := by decide +kernel
theorem dX7_write_18 : decode mX7_write.1 18 = .ok (.iadd, 1) := by decide +kernel
theorem dX7_write_19 : decode mX7_write.1 19 = .ok (.aload_n 0, 1) := by decide +kernel
theorem dX7_write_20 : decode mX7_write.1 20 = .ok (.getfield 11, 3) := by decide +kernel
theorem dX7_write_23 : decode mX7_write.1 23 = .ok (.iload_n 1, 1) := by decide +kernel
theorem dX7_write_24 : decode mX7_write.1 24 = .ok (.iaload, 1) := by decide +kernel
theorem dX7_write_25 : decode mX7_write.1 25 = .ok (.lload_n 3, 1) := by decide +kernel
theorem dX7_write_26 : decode mX7_write.1 26 = .ok (.invokestatic 33, 3) := by decide +kernel
theorem dX7_write_29 : decode mX7_write.1 29 = .ok (.lastore, 1) := by decide +kernel
theorem dX7_write_30 : decode mX7_write.1 30 = .ok (.return_, 1) := by decide +kernel
theorem X7_write_0 (h : mm_M) (a1 : Int) (a2 : Int) (a3 : Int) : mm_ev mX7_write 3 0 [some (vR 3), some (vI a1), some (vI a2), some (vL a3), none] [] h = (mm_call mX7_refusalOfPlace [vR 3, vI a1, vI a2] h).bind (fun w => mm_ev mX7_write 3 6 [some (vR 3), some (vI a1), some (vI a2), some (vL a3), none] (w.1 ++ []) w.2) := (ev_aload_n 1 dX7_write_0 rfl rfl).trans ((ev_iload_n 2 dX7_write_1 rfl rfl).trans ((ev_iload_n 3 dX7_write_2 rfl rfl).trans ((ev_callv mX7_refusalOfPlace [vR 3, vI a1, vI a2] [] 6 dX7_write_3 ml_7_29 k66 rfl oc3 ak3 rfl rfl (Nat.le_of_ble_eq_true rfl) (Nat.le_of_ble_eq_true rfl) rfl).trans (if_pos (show 2 < 3 from by decide)))))
theorem X7_write_c (h : mm_M) (a1 : Int) (a2 : Int) (a3 : Int) : mm_call mX7_write [vR 3, vI a1, vI a2, vL a3] h = (mm_call mX7_refusalOfPlace [vR 3, vI a1, vI a2] h).bind (fun w => mm_ev mX7_write 3 6 [some (vR 3), some (vI a1), some (vI a2), some (vL a3), none] (w.1 ++ []) w.2) := X7_write_0 h a1 a2 a3
theorem X7_write_6 (h : mm_M) (a1 : Int) (a2 : Int) (a3 : Int) (s0 : Int) : mm_ev mX7_write 3 6 [some (vR 3), some (vI a1), some (vI a2), some (vL a3), none] [vI s0] h = if ¬ s0 = 0 then some ([], h) else if 0 ≤ a1 ∧ a1 < 6 then (mm_call mX7_narrowed [vI (h 19 a1), vL a3] h).bind (fun w => mm_ev mX7_write 3 29 [some (vR 3), some (vI a1), some (vI a2), some (vL a3), none] (w.1 ++ [vI (w32 ((w32 (a1 * 60)) + a2)), vR 22]) w.2) else none := (ev_if_ne 30 9 dX7_write_6 rfl rfl).trans (mm_ite (ev_vret dX7_write_30 rfl) ((ev_aload_n 10 dX7_write_9 rfl rfl).trans ((ev_getF 13 22 dX7_write_10 fl_7_21 oc3 ak3 rfl rf_3_3 rfl).trans ((ev_iload_n 14 dX7_write_13 rfl rfl).trans ((ev_bipush 16 (v := 60) dX7_write_14 rfl rfl).trans ((ev_imul 17 dX7_write_16 rfl).trans ((ev_iload_n 18 dX7_write_17 rfl rfl).trans ((ev_iadd 19 dX7_write_18 rfl).trans ((ev_aload_n 20 dX7_write_19 rfl rfl).trans ((ev_getF 23 19 dX7_write_20 fl_7_11 oc3 ak3 rfl rf_3_0 rfl).trans ((ev_iload_n 24 dX7_write_23 rfl rfl).trans ((ev_iald 25 6 dX7_write_24 ak19 an19 rfl).trans (mm_ite ((ev_lload_n 26 dX7_write_25 rfl rfl).trans ((ev_calls mX7_narrowed [vI (h 19 a1), vL a3] [vI (w32 ((w32 (a1 * 60)) + a2)), vR 22] 29 dX7_write_26 ml_7_33 k71 rfl rfl rfl (Nat.le_of_ble_eq_true rfl) (Nat.le_of_ble_eq_true rfl) rfl).trans (if_pos (show 1 < 3 from by decide)))) (rfl))))))))))))))
theorem X7_write_29 (h : mm_M) (a1 : Int) (a2 : Int) (a3 : Int) (s0 : Int) (s1 : Int) : mm_ev mX7_write 3 29 [some (vR 3), some (vI a1), some (vI a2), some (vL a3), none] [vL s0, vI s1, vR 22] h = if 0 ≤ s1 ∧ s1 < 360 then some ([], mUp h 22 s1 s0) else none := (ev_last 30 360 dX7_write_29 ak22 an22 rfl).trans (mm_ite (ev_vret dX7_write_30 rfl) (rfl))
theorem dX7_narrowed_0 : decode mX7_narrowed.1 0 = .ok (.iload_n 0, 1) := by decide +kernel
theorem dX7_narrowed_1 : decode mX7_narrowed.1 1 = .ok (.tableswitch 47 0 3 #[31, 36, 41, 45], 31) := by decide +kernel
theorem dX7_narrowed_32 : decode mX7_narrowed.1 32 = .ok (.lload_n 1, 1) := by decide +kernel
theorem dX7_narrowed_33 : decode mX7_narrowed.1 33 = .ok (.l2i, 1) := by decide +kernel
theorem dX7_narrowed_34 : decode mX7_narrowed.1 34 = .ok (.i2b, 1) := by decide +kernel
theorem dX7_narrowed_35 : decode mX7_narrowed.1 35 = .ok (.i2l, 1) := by decide +kernel
theorem dX7_narrowed_36 : decode mX7_narrowed.1 36 = .ok (.lreturn, 1) := by decide +kernel
theorem dX7_narrowed_37 : decode mX7_narrowed.1 37 = .ok (.lload_n 1, 1) := by decide +kernel
theorem dX7_narrowed_38 : decode mX7_narrowed.1 38 = .ok (.l2i, 1) := by decide +kernel
theorem dX7_narrowed_39 : decode mX7_narrowed.1 39 = .ok (.i2s, 1) := by decide +kernel
theorem dX7_narrowed_40 : decode mX7_narrowed.1 40 = .ok (.i2l, 1) := by decide +kernel
theorem dX7_narrowed_41 : decode mX7_narrowed.1 41 = .ok (.lreturn, 1) := by decide +kernel
theorem dX7_narrowed_42 : decode mX7_narrowed.1 42 = .ok (.lload_n 1, 1) := by decide +kernel
theorem dX7_narrowed_43 : decode mX7_narrowed.1 43 = .ok (.l2i, 1) := by decide +kernel
theorem dX7_narrowed_44 : decode mX7_narrowed.1 44 = .ok (.i2l, 1) := by decide +kernel
theorem dX7_narrowed_45 : decode mX7_narrowed.1 45 = .ok (.lreturn, 1) := by decide +kernel
theorem dX7_narrowed_46 : decode mX7_narrowed.1 46 = .ok (.lload_n 1, 1) := by decide +kernel
theorem dX7_narrowed_47 : decode mX7_narrowed.1 47 = .ok (.lreturn, 1) := by decide +kernel
theorem dX7_narrowed_48 : decode mX7_narrowed.1 48 = .ok (.lload_n 1, 1) := by decide +kernel
theorem dX7_narrowed_49 : decode mX7_narrowed.1 49 = .ok (.lconst 0, 1) := by decide +kernel
theorem dX7_narrowed_50 : decode mX7_narrowed.1 50 = .ok (.lcmp, 1) := by decide +kernel
theorem dX7_narrowed_51 : decode mX7_narrowed.1 51 = .ok (.ifCond .eq 7, 3) := by decide +kernel
theorem dX7_narrowed_54 : decode mX7_narrowed.1 54 = .ok (.lconst 1, 1) := by decide +kernel
theorem dX7_narrowed_55 : decode mX7_narrowed.1 55 = .ok (.goto 4, 3) := by decide +kernel
theorem dX7_narrowed_58 : decode mX7_narrowed.1 58 = .ok (.lconst 0, 1) := by decide +kernel
theorem dX7_narrowed_59 : decode mX7_narrowed.1 59 = .ok (.lreturn, 1) := by decide +kernel
theorem X7_narrowed_0 (h : mm_M) (a0 : Int) (a1 : Int) : mm_ev mX7_narrowed 1 0 [some (vI a0), some (vL a1), none] [] h = if a0 = 0 then some ([vL (w8 (w32 a1))], h) else if a0 = 1 then some ([vL (w16 (w32 a1))], h) else if a0 = 2 then some ([vL (w32 a1)], h) else if a0 = 3 then some ([vL a1], h) else if (lCmp a1 0) = 0 then some ([vL 0], h) else some ([vL 1], h) := (ev_iload_n 1 dX7_narrowed_0 rfl rfl).trans (ev_tabC (k := 0) dX7_narrowed_1 (fun z0 => (ev_tabK 32 (k := 0) dX7_narrowed_1 z0 (by decide) rfl rfl).trans ((ev_lload_n 33 dX7_narrowed_32 rfl rfl).trans ((ev_l2i 34 dX7_narrowed_33 rfl).trans ((ev_i2b 35 dX7_narrowed_34 rfl).trans ((ev_i2l 36 dX7_narrowed_35 rfl).trans (ev_lret dX7_narrowed_36 rfl)))))) (fun n0 => ev_tabC (k := 1) dX7_narrowed_1 (fun z1 => (ev_tabK 37 (k := 1) dX7_narrowed_1 z1 (by decide) rfl rfl).trans ((ev_lload_n 38 dX7_narrowed_37 rfl rfl).trans ((ev_l2i 39 dX7_narrowed_38 rfl).trans ((ev_i2s 40 dX7_narrowed_39 rfl).trans ((ev_i2l 41 dX7_narrowed_40 rfl).trans (ev_lret dX7_narrowed_41 rfl)))))) (fun n1 => ev_tabC (k := 2) dX7_narrowed_1 (fun z2 => (ev_tabK 42 (k := 2) dX7_narrowed_1 z2 (by decide) rfl rfl).trans ((ev_lload_n 43 dX7_narrowed_42 rfl rfl).trans ((ev_l2i 44 dX7_narrowed_43 rfl).trans ((ev_i2l 45 dX7_narrowed_44 rfl).trans (ev_lret dX7_narrowed_45 rfl))))) (fun n2 => ev_tabC (k := 3) dX7_narrowed_1 (fun z3 => (ev_tabK 46 (k := 3) dX7_narrowed_1 z3 (by decide) rfl rfl).trans ((ev_lload_n 47 dX7_narrowed_46 rfl rfl).trans (ev_lret dX7_narrowed_47 rfl))) (fun n3 => (ev_tabD 48 dX7_narrowed_1 (by omega) rfl).trans ((ev_lload_n 49 dX7_narrowed_48 rfl rfl).trans ((ev_lconst 50 (v := 0) dX7_narrowed_49 rfl rfl).trans ((ev_lcmp 51 dX7_narrowed_50 rfl).trans ((ev_if_eq 58 54 dX7_narrowed_51 rfl rfl).trans (mm_ite ((ev_lconst 59 (v := 0) dX7_narrowed_58 rfl rfl).trans (ev_lret dX7_narrowed_59 rfl)) ((ev_lconst 55 (v := 1) dX7_narrowed_54 rfl rfl).trans ((ev_goto 59 dX7_narrowed_55 rfl).trans (ev_lret dX7_narrowed_59 rfl)))))))))))))
theorem X7_narrowed_c (h : mm_M) (a0 : Int) (a1 : Int) : mm_call mX7_narrowed [vI a0, vL a1] h = if a0 = 0 then some ([vL (w8 (w32 a1))], h) else if a0 = 1 then some ([vL (w16 (w32 a1))], h) else if a0 = 2 then some ([vL (w32 a1)], h) else if a0 = 3 then some ([vL a1], h) else if (lCmp a1 0) = 0 then some ([vL 0], h) else some ([vL 1], h) := X7_narrowed_0 h a0 a1
theorem dX7_layRow_0 : decode mX7_layRow.1 0 = .ok (.aload_n 0, 1) := by decide +kernel
theorem dX7_layRow_1 : decode mX7_layRow.1 1 = .ok (.getfield 11, 3) := by decide +kernel
theorem dX7_layRow_4 : decode mX7_layRow.1 4 = .ok (.iload_n 1, 1) := by decide +kernel
theorem dX7_layRow_5 : decode mX7_layRow.1 5 = .ok (.iload_n 2, 1) := by decide +kernel
theorem dX7_layRow_6 : decode mX7_layRow.1 6 = .ok (.iastore, 1) := by decide +kernel
theorem dX7_layRow_7 : decode mX7_layRow.1 7 = .ok (.aload_n 0, 1) := by decide +kernel
theorem dX7_layRow_8 : decode mX7_layRow.1 8 = .ok (.getfield 15, 3) := by decide +kernel
theorem dX7_layRow_11 : decode mX7_layRow.1 11 = .ok (.iload_n 1, 1) := by decide +kernel
theorem dX7_layRow_12 : decode mX7_layRow.1 12 = .ok (.iload_n 3, 1) := by decide +kernel
theorem dX7_layRow_13 : decode mX7_layRow.1 13 = .ok (.iastore, 1) := by decide +kernel
theorem dX7_layRow_14 : decode mX7_layRow.1 14 = .ok (.iconst 0, 1) := by decide +kernel
theorem dX7_layRow_15 : decode mX7_layRow.1 15 = .ok (.istore 4, 2) := by decide +kernel
theorem dX7_layRow_17 : decode mX7_layRow.1 17 = .ok (.iload 4, 2) := by decide +kernel
theorem dX7_layRow_19 : decode mX7_layRow.1 19 = .ok (.iload_n 3, 1) := by decide +kernel
theorem dX7_layRow_20 : decode mX7_layRow.1 20 = .ok (.if_icmp .ge 22, 3) := by decide +kernel
theorem dX7_layRow_23 : decode mX7_layRow.1 23 = .ok (.aload_n 0, 1) := by decide +kernel
theorem dX7_layRow_24 : decode mX7_layRow.1 24 = .ok (.getfield 21, 3) := by decide +kernel
theorem dX7_layRow_27 : decode mX7_layRow.1 27 = .ok (.iload_n 1, 1) := by decide +kernel
theorem dX7_layRow_28 : decode mX7_layRow.1 28 = .ok (.bipush 60, 2) := by decide +kernel
theorem dX7_layRow_30 : decode mX7_layRow.1 30 = .ok (.imul, 1) := by decide +kernel
theorem dX7_layRow_31 : decode mX7_layRow.1 31 = .ok (.iload 4, 2) := by decide +kernel
theorem dX7_layRow_33 : decode mX7_layRow.1 33 = .ok (.iadd, 1) := by decide +kernel
theorem dX7_layRow_34 : decode mX7_layRow.1 34 = .ok (.lconst 0, 1) := by decide +kernel
theorem dX7_layRow_35 : decode mX7_layRow.1 35 = .ok (.lastore, 1) := by decide +kernel
theorem dX7_layRow_36 : decode mX7_layRow.1 36 = .ok (.iinc 4 1, 3) := by decide +kernel
theorem dX7_layRow_39 : decode mX7_layRow.1 39 = .ok (.goto (-22), 3) := by decide +kernel
theorem dX7_layRow_42 : decode mX7_layRow.1 42 = .ok (.return_, 1) := by decide +kernel
theorem X7_layRow_0 (h : mm_M) (a1 : Int) (a2 : Int) (a3 : Int) : mm_ev mX7_layRow 1 0 [some (vR 3), some (vI a1), some (vI a2), some (vI a3), none] [] h = if 0 ≤ a1 ∧ a1 < 6 then if 0 ≤ a1 ∧ a1 < 6 then mm_ev mX7_layRow 1 17 [some (vR 3), some (vI a1), some (vI a2), some (vI a3), some (vI 0)] [] (mUp (mUp h 19 a1 a2) 20 a1 a3) else none else none := (ev_aload_n 1 dX7_layRow_0 rfl rfl).trans ((ev_getF 4 19 dX7_layRow_1 fl_7_11 oc3 ak3 rfl rf_3_0 rfl).trans ((ev_iload_n 5 dX7_layRow_4 rfl rfl).trans ((ev_iload_n 6 dX7_layRow_5 rfl rfl).trans ((ev_iast 7 6 dX7_layRow_6 ak19 an19 rfl).trans (mm_ite ((ev_aload_n 8 dX7_layRow_7 rfl rfl).trans ((ev_getF 11 20 dX7_layRow_8 fl_7_15 oc3 ak3 rfl rf_3_1 rfl).trans ((ev_iload_n 12 dX7_layRow_11 rfl rfl).trans ((ev_iload_n 13 dX7_layRow_12 rfl rfl).trans ((ev_iast 14 6 dX7_layRow_13 ak20 an20 rfl).trans (mm_ite ((ev_iconst 15 (v := 0) dX7_layRow_14 rfl rfl).trans (ev_istore 17 [some (vR 3), some (vI a1), some (vI a2), some (vI a3), some (vI 0)] dX7_layRow_15 rfl rfl)) (rfl))))))) (rfl))))))
theorem X7_layRow_c (h : mm_M) (a1 : Int) (a2 : Int) (a3 : Int) : mm_call mX7_layRow [vR 3, vI a1, vI a2, vI a3] h = if 0 ≤ a1 ∧ a1 < 6 then if 0 ≤ a1 ∧ a1 < 6 then mm_ev mX7_layRow 1 17 [some (vR 3), some (vI a1), some (vI a2), some (vI a3), some (vI 0)] [] (mUp (mUp h 19 a1 a2) 20 a1 a3) else none else none := X7_layRow_0 h a1 a2 a3
theorem X7_layRow_17 (h : mm_M) (a1 : Int) (a2 : Int) (a3 : Int) (a4 : Int) : mm_ev mX7_layRow 1 17 [some (vR 3), some (vI a1), some (vI a2), some (vI a3), some (vI a4)] [] h = if a3 ≤ a4 then some ([], h) else if 0 ≤ (w32 ((w32 (a1 * 60)) + a4)) ∧ (w32 ((w32 (a1 * 60)) + a4)) < 360 then mm_ev mX7_layRow 1 17 [some (vR 3), some (vI a1), some (vI a2), some (vI a3), some (vI (w32 (a4 + 1)))] [] (mUp h 22 (w32 ((w32 (a1 * 60)) + a4)) 0) else none := (ev_iload 19 dX7_layRow_17 rfl rfl).trans ((ev_iload_n 20 dX7_layRow_19 rfl rfl).trans ((ev_ic_ge 42 23 dX7_layRow_20 rfl rfl).trans (mm_ite (ev_vret dX7_layRow_42 rfl) ((ev_aload_n 24 dX7_layRow_23 rfl rfl).trans ((ev_getF 27 22 dX7_layRow_24 fl_7_21 oc3 ak3 rfl rf_3_3 rfl).trans ((ev_iload_n 28 dX7_layRow_27 rfl rfl).trans ((ev_bipush 30 (v := 60) dX7_layRow_28 rfl rfl).trans ((ev_imul 31 dX7_layRow_30 rfl).trans ((ev_iload 33 dX7_layRow_31 rfl rfl).trans ((ev_iadd 34 dX7_layRow_33 rfl).trans ((ev_lconst 35 (v := 0) dX7_layRow_34 rfl rfl).trans ((ev_last 36 360 dX7_layRow_35 ak22 an22 rfl).trans (mm_ite ((ev_iinc 39 [some (vR 3), some (vI a1), some (vI a2), some (vI a3), some (vI (w32 (a4 + 1)))] dX7_layRow_36 rfl rfl rfl).trans (ev_goto 17 dX7_layRow_39 rfl)) (rfl))))))))))))))
theorem dX7_hold_0 : decode mX7_hold.1 0 = .ok (.aload_n 0, 1) := by decide +kernel
theorem dX7_hold_1 : decode mX7_hold.1 1 = .ok (.getfield 11, 3) := by decide +kernel
theorem dX7_hold_4 : decode mX7_hold.1 4 = .ok (.iload_n 1, 1) := by decide +kernel
theorem dX7_hold_5 : decode mX7_hold.1 5 = .ok (.iload_n 2, 1) := by decide +kernel
theorem dX7_hold_6 : decode mX7_hold.1 6 = .ok (.ifCond .ge 7, 3) := by decide +kernel
theorem dX7_hold_9 : decode mX7_hold.1 9 = .ok (.iconst (-1), 1) := by decide +kernel
theorem dX7_hold_10 : decode mX7_hold.1 10 = .ok (.goto 5, 3) := by decide +kernel
theorem dX7_hold_13 : decode mX7_hold.1 13 = .ok (.bipush (-2), 2) := by decide +kernel
theorem dX7_hold_15 : decode mX7_hold.1 15 = .ok (.iastore, 1) := by decide +kernel
theorem dX7_hold_16 : decode mX7_hold.1 16 = .ok (.aload_n 0, 1) := by decide +kernel
theorem dX7_hold_17 : decode mX7_hold.1 17 = .ok (.getfield 15, 3) := by decide +kernel
theorem dX7_hold_20 : decode mX7_hold.1 20 = .ok (.iload_n 1, 1) := by decide +kernel
theorem dX7_hold_21 : decode mX7_hold.1 21 = .ok (.iconst 0, 1) := by decide +kernel
theorem dX7_hold_22 : decode mX7_hold.1 22 = .ok (.iastore, 1) := by decide +kernel
theorem dX7_hold_23 : decode mX7_hold.1 23 = .ok (.aload_n 0, 1) := by decide +kernel
theorem dX7_hold_24 : decode mX7_hold.1 24 = .ok (.getfield 18, 3) := by decide +kernel
theorem dX7_hold_27 : decode mX7_hold.1 27 = .ok (.iload_n 1, 1) := by decide +kernel
theorem dX7_hold_28 : decode mX7_hold.1 28 = .ok (.iload_n 2, 1) := by decide +kernel
theorem dX7_hold_29 : decode mX7_hold.1 29 = .ok (.iastore, 1) := by decide +kernel
theorem dX7_hold_30 : decode mX7_hold.1 30 = .ok (.return_, 1) := by decide +kernel
theorem X7_hold_0 (h : mm_M) (a1 : Int) (a2 : Int) : mm_ev mX7_hold 1 0 [some (vR 3), some (vI a1), some (vI a2)] [] h = if 0 ≤ a2 then mm_ev mX7_hold 1 15 [some (vR 3), some (vI a1), some (vI a2)] [vI (-2), vI a1, vR 19] h else mm_ev mX7_hold 1 15 [some (vR 3), some (vI a1), some (vI a2)] [vI (-1), vI a1, vR 19] h := (ev_aload_n 1 dX7_hold_0 rfl rfl).trans ((ev_getF 4 19 dX7_hold_1 fl_7_11 oc3 ak3 rfl rf_3_0 rfl).trans ((ev_iload_n 5 dX7_hold_4 rfl rfl).trans ((ev_iload_n 6 dX7_hold_5 rfl rfl).trans ((ev_if_ge 13 9 dX7_hold_6 rfl rfl).trans (mm_ite (ev_bipush 15 (v := (-2)) dX7_hold_13 rfl rfl) ((ev_iconst 10 (v := (-1)) dX7_hold_9 rfl rfl).trans (ev_goto 15 dX7_hold_10 rfl)))))))
theorem X7_hold_c (h : mm_M) (a1 : Int) (a2 : Int) : mm_call mX7_hold [vR 3, vI a1, vI a2] h = if 0 ≤ a2 then mm_ev mX7_hold 1 15 [some (vR 3), some (vI a1), some (vI a2)] [vI (-2), vI a1, vR 19] h else mm_ev mX7_hold 1 15 [some (vR 3), some (vI a1), some (vI a2)] [vI (-1), vI a1, vR 19] h := X7_hold_0 h a1 a2
theorem X7_hold_15 (h : mm_M) (a1 : Int) (a2 : Int) (s0 : Int) (s1 : Int) : mm_ev mX7_hold 1 15 [some (vR 3), some (vI a1), some (vI a2)] [vI s0, vI s1, vR 19] h = if 0 ≤ s1 ∧ s1 < 6 then if 0 ≤ a1 ∧ a1 < 6 then if 0 ≤ a1 ∧ a1 < 6 then some ([], mUp (mUp (mUp h 19 s1 s0) 20 a1 0) 21 a1 a2) else none else none else none := (ev_iast 16 6 dX7_hold_15 ak19 an19 rfl).trans (mm_ite ((ev_aload_n 17 dX7_hold_16 rfl rfl).trans ((ev_getF 20 20 dX7_hold_17 fl_7_15 oc3 ak3 rfl rf_3_1 rfl).trans ((ev_iload_n 21 dX7_hold_20 rfl rfl).trans ((ev_iconst 22 (v := 0) dX7_hold_21 rfl rfl).trans ((ev_iast 23 6 dX7_hold_22 ak20 an20 rfl).trans (mm_ite ((ev_aload_n 24 dX7_hold_23 rfl rfl).trans ((ev_getF 27 21 dX7_hold_24 fl_7_18 oc3 ak3 rfl rf_3_2 rfl).trans ((ev_iload_n 28 dX7_hold_27 rfl rfl).trans ((ev_iload_n 29 dX7_hold_28 rfl rfl).trans ((ev_iast 30 6 dX7_hold_29 ak21 an21 rfl).trans (mm_ite (ev_vret dX7_hold_30 rfl) (rfl))))))) (rfl))))))) (rfl))
theorem dX7_refusal_0 : decode mX7_refusal.1 0 = .ok (.aload_n 0, 1) := by decide +kernel
theorem dX7_refusal_1 : decode mX7_refusal.1 1 = .ok (.iload_n 1, 1) := by decide +kernel
theorem dX7_refusal_2 : decode mX7_refusal.1 2 = .ok (.invokevirtual 25, 3) := by decide +kernel
theorem dX7_refusal_5 : decode mX7_refusal.1 5 = .ok (.ifCond .ne 5, 3) := by decide +kernel
theorem dX7_refusal_8 : decode mX7_refusal.1 8 = .ok (.iconst (-1), 1) := by decide +kernel
theorem dX7_refusal_9 : decode mX7_refusal.1 9 = .ok (.ireturn, 1) := by decide +kernel
theorem dX7_refusal_10 : decode mX7_refusal.1 10 = .ok (.aload_n 0, 1) := by decide +kernel
theorem dX7_refusal_11 : decode mX7_refusal.1 11 = .ok (.getfield 11, 3) := by decide +kernel
theorem dX7_refusal_14 : decode mX7_refusal.1 14 = .ok (.iload_n 1, 1) := by decide +kernel
theorem dX7_refusal_15 : decode mX7_refusal.1 15 = .ok (.iaload, 1) := by decide +kernel
theorem dX7_refusal_16 : decode mX7_refusal.1 16 = .ok (.iconst (-1), 1) := by decide +kernel
theorem dX7_refusal_17 : decode mX7_refusal.1 17 = .ok (.if_icmp .ne 6, 3) := by decide +kernel
theorem dX7_refusal_20 : decode mX7_refusal.1 20 = .ok (.bipush (-11), 2) := by decide +kernel
theorem dX7_refusal_22 : decode mX7_refusal.1 22 = .ok (.ireturn, 1) := by decide +kernel
theorem dX7_refusal_23 : decode mX7_refusal.1 23 = .ok (.aload_n 0, 1) := by decide +kernel
theorem dX7_refusal_24 : decode mX7_refusal.1 24 = .ok (.getfield 11, 3) := by decide +kernel
theorem dX7_refusal_27 : decode mX7_refusal.1 27 = .ok (.iload_n 1, 1) := by decide +kernel
theorem dX7_refusal_28 : decode mX7_refusal.1 28 = .ok (.iaload, 1) := by decide +kernel
theorem dX7_refusal_29 : decode mX7_refusal.1 29 = .ok (.iload_n 2, 1) := by decide +kernel
theorem dX7_refusal_30 : decode mX7_refusal.1 30 = .ok (.if_icmp .ne 7, 3) := by decide +kernel
theorem dX7_refusal_33 : decode mX7_refusal.1 33 = .ok (.iconst 0, 1) := by decide +kernel
theorem dX7_refusal_34 : decode mX7_refusal.1 34 = .ok (.goto 5, 3) := by decide +kernel
theorem dX7_refusal_37 : decode mX7_refusal.1 37 = .ok (.bipush (-12), 2) := by decide +kernel
theorem dX7_refusal_39 : decode mX7_refusal.1 39 = .ok (.ireturn, 1) := by decide +kernel
theorem X7_refusal_0 (h : mm_M) (a1 : Int) (a2 : Int) : mm_ev mX7_refusal 2 0 [some (vR 3), some (vI a1), some (vI a2)] [] h = (mm_call mX7_isShelf [vR 3, vI a1] h).bind (fun w => mm_ev mX7_refusal 2 5 [some (vR 3), some (vI a1), some (vI a2)] (w.1 ++ []) w.2) := (ev_aload_n 1 dX7_refusal_0 rfl rfl).trans ((ev_iload_n 2 dX7_refusal_1 rfl rfl).trans ((ev_callv mX7_isShelf [vR 3, vI a1] [] 5 dX7_refusal_2 ml_7_25 k64 rfl oc3 ak3 rfl rfl (Nat.le_of_ble_eq_true rfl) (Nat.le_of_ble_eq_true rfl) rfl).trans (if_pos (show 1 < 2 from by decide))))
theorem X7_refusal_c (h : mm_M) (a1 : Int) (a2 : Int) : mm_call mX7_refusal [vR 3, vI a1, vI a2] h = (mm_call mX7_isShelf [vR 3, vI a1] h).bind (fun w => mm_ev mX7_refusal 2 5 [some (vR 3), some (vI a1), some (vI a2)] (w.1 ++ []) w.2) := X7_refusal_0 h a1 a2
theorem X7_refusal_5 (h : mm_M) (a1 : Int) (a2 : Int) (s0 : Int) : mm_ev mX7_refusal 2 5 [some (vR 3), some (vI a1), some (vI a2)] [vI s0] h = if ¬ s0 = 0 then if 0 ≤ a1 ∧ a1 < 6 then if ¬ (h 19 a1) = (-1) then if 0 ≤ a1 ∧ a1 < 6 then if ¬ (h 19 a1) = a2 then some ([vI (-12)], h) else some ([vI 0], h) else none else some ([vI (-11)], h) else none else some ([vI (-1)], h) := (ev_if_ne 10 8 dX7_refusal_5 rfl rfl).trans (mm_ite ((ev_aload_n 11 dX7_refusal_10 rfl rfl).trans ((ev_getF 14 19 dX7_refusal_11 fl_7_11 oc3 ak3 rfl rf_3_0 rfl).trans ((ev_iload_n 15 dX7_refusal_14 rfl rfl).trans ((ev_iald 16 6 dX7_refusal_15 ak19 an19 rfl).trans (mm_ite ((ev_iconst 17 (v := (-1)) dX7_refusal_16 rfl rfl).trans ((ev_ic_ne 23 20 dX7_refusal_17 rfl rfl).trans (mm_ite ((ev_aload_n 24 dX7_refusal_23 rfl rfl).trans ((ev_getF 27 19 dX7_refusal_24 fl_7_11 oc3 ak3 rfl rf_3_0 rfl).trans ((ev_iload_n 28 dX7_refusal_27 rfl rfl).trans ((ev_iald 29 6 dX7_refusal_28 ak19 an19 rfl).trans (mm_ite ((ev_iload_n 30 dX7_refusal_29 rfl rfl).trans ((ev_ic_ne 37 33 dX7_refusal_30 rfl rfl).trans (mm_ite ((ev_bipush 39 (v := (-12)) dX7_refusal_37 rfl rfl).trans (ev_iret dX7_refusal_39 rfl)) ((ev_iconst 34 (v := 0) dX7_refusal_33 rfl rfl).trans ((ev_goto 39 dX7_refusal_34 rfl).trans (ev_iret dX7_refusal_39 rfl)))))) (rfl)))))) ((ev_bipush 22 (v := (-11)) dX7_refusal_20 rfl rfl).trans (ev_iret dX7_refusal_22 rfl))))) (rfl)))))) ((ev_iconst 9 (v := (-1)) dX7_refusal_8 rfl rfl).trans (ev_iret dX7_refusal_9 rfl)))
