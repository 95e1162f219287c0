/-! rows of the methods, by program (wip/whole/gen13.py): X2, X0 -/
theorem dX2_layBack_0 : decode mX2_layBack.1 0 = .ok (.aload_n 0, 1) := by decide +kernel
theorem dX2_layBack_1 : decode mX2_layBack.1 1 = .ok (.aload_n 0, 1) := by decide +kernel
theorem dX2_layBack_2 : decode mX2_layBack.1 2 = .ok (.getfield 44, 3) := by decide +kernel
theorem dX2_layBack_5 : decode mX2_layBack.1 5 = .ok (.putfield 41, 3) := by decide +kernel
theorem dX2_layBack_8 : decode mX2_layBack.1 8 = .ok (.aload_n 0, 1) := by decide +kernel
theorem dX2_layBack_9 : decode mX2_layBack.1 9 = .ok (.getfield 28, 3) := by decide +kernel
theorem dX2_layBack_12 : decode mX2_layBack.1 12 = .ok (.iconst 0, 1) := by decide +kernel
theorem dX2_layBack_13 : decode mX2_layBack.1 13 = .ok (.aload_n 0, 1) := by decide +kernel
theorem dX2_layBack_14 : decode mX2_layBack.1 14 = .ok (.getfield 9, 3) := by decide +kernel
theorem dX2_layBack_17 : decode mX2_layBack.1 17 = .ok (.iconst 0, 1) := by decide +kernel
theorem dX2_layBack_18 : decode mX2_layBack.1 18 = .ok (.bipush 7, 2) := by decide +kernel
theorem dX2_layBack_20 : decode mX2_layBack.1 20 = .ok (.invokestatic 47, 3) := by decide +kernel
theorem dX2_layBack_23 : decode mX2_layBack.1 23 = .ok (.aload_n 0, 1) := by decide +kernel
theorem dX2_layBack_24 : decode mX2_layBack.1 24 = .ok (.getfield 31, 3) := by decide +kernel
theorem dX2_layBack_27 : decode mX2_layBack.1 27 = .ok (.iconst 0, 1) := by decide +kernel
theorem dX2_layBack_28 : decode mX2_layBack.1 28 = .ok (.aload_n 0, 1) := by decide +kernel
theorem dX2_layBack_29 : decode mX2_layBack.1 29 = .ok (.getfield 15, 3) := by decide +kernel
theorem dX2_layBack_32 : decode mX2_layBack.1 32 = .ok (.iconst 0, 1) := by decide +kernel
theorem dX2_layBack_33 : decode mX2_layBack.1 33 = .ok (.bipush 7, 2) := by decide +kernel
theorem dX2_layBack_35 : decode mX2_layBack.1 35 = .ok (.invokestatic 47, 3) := by decide +kernel
theorem dX2_layBack_38 : decode mX2_layBack.1 38 = .ok (.aload_n 0, 1) := by decide +kernel
theorem dX2_layBack_39 : decode mX2_layBack.1 39 = .ok (.getfield 34, 3) := by decide +kernel
theorem dX2_layBack_42 : decode mX2_layBack.1 42 = .ok (.iconst 0, 1) := by decide +kernel
theorem dX2_layBack_43 : decode mX2_layBack.1 43 = .ok (.aload_n 0, 1) := by decide +kernel
theorem dX2_layBack_44 : decode mX2_layBack.1 44 = .ok (.getfield 18, 3) := by decide +kernel
theorem dX2_layBack_47 : decode mX2_layBack.1 47 = .ok (.iconst 0, 1) := by decide +kernel
theorem dX2_layBack_48 : decode mX2_layBack.1 48 = .ok (.bipush 7, 2) := by decide +kernel
theorem dX2_layBack_50 : decode mX2_layBack.1 50 = .ok (.invokestatic 47, 3) := by decide +kernel
theorem dX2_layBack_53 : decode mX2_layBack.1 53 = .ok (.aload_n 0, 1) := by decide +kernel
theorem dX2_layBack_54 : decode mX2_layBack.1 54 = .ok (.getfield 37, 3) := by decide +kernel
theorem dX2_layBack_57 : decode mX2_layBack.1 57 = .ok (.iconst 0, 1) := by decide +kernel
theorem dX2_layBack_58 : decode mX2_layBack.1 58 = .ok (.aload_n 0, 1) := by decide +kernel
theorem dX2_layBack_59 : decode mX2_layBack.1 59 = .ok (.getfield 21, 3) := by decide +kernel
theorem dX2_layBack_62 : decode mX2_layBack.1 62 = .ok (.iconst 0, 1) := by decide +kernel
theorem dX2_layBack_63 : decode mX2_layBack.1 63 = .ok (.aload_n 0, 1) := by decide +kernel
theorem dX2_layBack_64 : decode mX2_layBack.1 64 = .ok (.getfield 21, 3) := by decide +kernel
theorem dX2_layBack_67 : decode mX2_layBack.1 67 = .ok (.arraylength, 1) := by decide +kernel
theorem dX2_layBack_68 : decode mX2_layBack.1 68 = .ok (.invokestatic 47, 3) := by decide +kernel
theorem dX2_layBack_71 : decode mX2_layBack.1 71 = .ok (.aload_n 0, 1) := by decide +kernel
theorem dX2_layBack_72 : decode mX2_layBack.1 72 = .ok (.getfield 24, 3) := by decide +kernel
theorem dX2_layBack_75 : decode mX2_layBack.1 75 = .ok (.istore_n 2, 1) := by decide +kernel
theorem dX2_layBack_76 : decode mX2_layBack.1 76 = .ok (.iload_n 2, 1) := by decide +kernel
theorem dX2_layBack_77 : decode mX2_layBack.1 77 = .ok (.bipush 7, 2) := by decide +kernel
theorem dX2_layBack_79 : decode mX2_layBack.1 79 = .ok (.if_icmp .ge 15, 3) := by decide +kernel
theorem dX2_layBack_82 : decode mX2_layBack.1 82 = .ok (.aload_n 0, 1) := by decide +kernel
theorem dX2_layBack_83 : decode mX2_layBack.1 83 = .ok (.iload_n 2, 1) := by decide +kernel
theorem dX2_layBack_84 : decode mX2_layBack.1 84 = .ok (.iload_n 1, 1) := by decide +kernel
theorem dX2_layBack_85 : decode mX2_layBack.1 85 = .ok (.invokevirtual 53, 3) := by decide +kernel
theorem dX2_layBack_88 : decode mX2_layBack.1 88 = .ok (.iinc 2 1, 3) := by decide +kernel
theorem dX2_layBack_91 : decode mX2_layBack.1 91 = .ok (.goto (-15), 3) := by decide +kernel
theorem dX2_layBack_94 : decode mX2_layBack.1 94 = .ok (.return_, 1) := by decide +kernel
theorem X2_layBack_0 (h : mm_M) (a1 : Int) : mm_ev mX2_layBack 2 0 [some (vR 9), some (vI a1), none] [] h = if 0 ≤ 0 ∧ 0 ≤ 0 ∧ 0 ≤ 7 ∧ 0 + 7 ≤ 7 ∧ 0 + 7 ≤ 7 then if 0 ≤ 0 ∧ 0 ≤ 0 ∧ 0 ≤ 7 ∧ 0 + 7 ≤ 7 ∧ 0 + 7 ≤ 7 then if 0 ≤ 0 ∧ 0 ≤ 0 ∧ 0 ≤ 7 ∧ 0 + 7 ≤ 7 ∧ 0 + 7 ≤ 7 then if 0 ≤ 0 ∧ 0 ≤ 0 ∧ 0 ≤ 4 ∧ 0 + 4 ≤ 4 ∧ 0 + 4 ≤ 4 then mm_ev mX2_layBack 2 76 [some (vR 9), some (vI a1), some (vI ((mCpy (mCpy (mCpy (mCpy (mUp h 9 0 (h 9 6)) 41 0 37 0 7) 42 0 38 0 7) 43 0 39 0 7) 44 0 40 0 4) 9 5))] [] (mCpy (mCpy (mCpy (mCpy (mUp h 9 0 (h 9 6)) 41 0 37 0 7) 42 0 38 0 7) 43 0 39 0 7) 44 0 40 0 4) else none else none else none else none := (ev_aload_n 1 dX2_layBack_0 rfl rfl).trans ((ev_aload_n 2 dX2_layBack_1 rfl rfl).trans ((ev_getI 5 6 dX2_layBack_2 fl_2_44 oc9 ak9 (by decide) rfl rfl).trans ((ev_putI 8 0 dX2_layBack_5 fl_2_41 oc9 ak9 rfl rfl rfl).trans ((ev_aload_n 9 dX2_layBack_8 rfl rfl).trans ((ev_getF 12 41 dX2_layBack_9 fl_2_28 oc9 ak9 rfl rf_9_7 rfl).trans ((ev_iconst 13 (v := 0) dX2_layBack_12 rfl rfl).trans ((ev_aload_n 14 dX2_layBack_13 rfl rfl).trans ((ev_getF 17 37 dX2_layBack_14 fl_2_9 oc9 ak9 rfl rf_9_1 rfl).trans ((ev_iconst 18 (v := 0) dX2_layBack_17 rfl rfl).trans ((ev_bipush 20 (v := 7) dX2_layBack_18 rfl rfl).trans ((ev_copy 23 7 7 dX2_layBack_20 ml_2_47 (Nat.le_of_ble_eq_true rfl) (Or.inl ak37) (ak41.trans ak37.symm) an41 an37 rfl).trans (mm_ite ((ev_aload_n 24 dX2_layBack_23 rfl rfl).trans ((ev_getF 27 42 dX2_layBack_24 fl_2_31 oc9 ak9 rfl rf_9_8 rfl).trans ((ev_iconst 28 (v := 0) dX2_layBack_27 rfl rfl).trans ((ev_aload_n 29 dX2_layBack_28 rfl rfl).trans ((ev_getF 32 38 dX2_layBack_29 fl_2_15 oc9 ak9 rfl rf_9_2 rfl).trans ((ev_iconst 33 (v := 0) dX2_layBack_32 rfl rfl).trans ((ev_bipush 35 (v := 7) dX2_layBack_33 rfl rfl).trans ((ev_copy 38 7 7 dX2_layBack_35 ml_2_47 (Nat.le_of_ble_eq_true rfl) (Or.inl ak38) (ak42.trans ak38.symm) an42 an38 rfl).trans (mm_ite ((ev_aload_n 39 dX2_layBack_38 rfl rfl).trans ((ev_getF 42 43 dX2_layBack_39 fl_2_34 oc9 ak9 rfl rf_9_9 rfl).trans ((ev_iconst 43 (v := 0) dX2_layBack_42 rfl rfl).trans ((ev_aload_n 44 dX2_layBack_43 rfl rfl).trans ((ev_getF 47 39 dX2_layBack_44 fl_2_18 oc9 ak9 rfl rf_9_3 rfl).trans ((ev_iconst 48 (v := 0) dX2_layBack_47 rfl rfl).trans ((ev_bipush 50 (v := 7) dX2_layBack_48 rfl rfl).trans ((ev_copy 53 7 7 dX2_layBack_50 ml_2_47 (Nat.le_of_ble_eq_true rfl) (Or.inl ak39) (ak43.trans ak39.symm) an43 an39 rfl).trans (mm_ite ((ev_aload_n 54 dX2_layBack_53 rfl rfl).trans ((ev_getF 57 44 dX2_layBack_54 fl_2_37 oc9 ak9 rfl rf_9_10 rfl).trans ((ev_iconst 58 (v := 0) dX2_layBack_57 rfl rfl).trans ((ev_aload_n 59 dX2_layBack_58 rfl rfl).trans ((ev_getF 62 40 dX2_layBack_59 fl_2_21 oc9 ak9 rfl rf_9_4 rfl).trans ((ev_iconst 63 (v := 0) dX2_layBack_62 rfl rfl).trans ((ev_aload_n 64 dX2_layBack_63 rfl rfl).trans ((ev_getF 67 40 dX2_layBack_64 fl_2_21 oc9 ak9 rfl rf_9_4 rfl).trans ((ev_alen 68 4 dX2_layBack_67 (by rw [ak40]; decide) an40 rfl).trans ((ev_copy 71 4 4 dX2_layBack_68 ml_2_47 (Nat.le_of_ble_eq_true rfl) (Or.inl ak40) (ak44.trans ak40.symm) an44 an40 rfl).trans (mm_ite ((ev_aload_n 72 dX2_layBack_71 rfl rfl).trans ((ev_getI 75 5 dX2_layBack_72 fl_2_24 oc9 ak9 (by decide) rfl rfl).trans (ev_istore_n 76 [some (vR 9), some (vI a1), some (vI ((mCpy (mCpy (mCpy (mCpy (mUp h 9 0 (h 9 6)) 41 0 37 0 7) 42 0 38 0 7) 43 0 39 0 7) 44 0 40 0 4) 9 5))] dX2_layBack_75 rfl rfl))) (rfl)))))))))))) (rfl)))))))))) (rfl)))))))))) (rfl)))))))))))))
theorem X2_layBack_c (h : mm_M) (a1 : Int) : mm_call mX2_layBack [vR 9, vI a1] h = if 0 ≤ 0 ∧ 0 ≤ 0 ∧ 0 ≤ 7 ∧ 0 + 7 ≤ 7 ∧ 0 + 7 ≤ 7 then if 0 ≤ 0 ∧ 0 ≤ 0 ∧ 0 ≤ 7 ∧ 0 + 7 ≤ 7 ∧ 0 + 7 ≤ 7 then if 0 ≤ 0 ∧ 0 ≤ 0 ∧ 0 ≤ 7 ∧ 0 + 7 ≤ 7 ∧ 0 + 7 ≤ 7 then if 0 ≤ 0 ∧ 0 ≤ 0 ∧ 0 ≤ 4 ∧ 0 + 4 ≤ 4 ∧ 0 + 4 ≤ 4 then mm_ev mX2_layBack 2 76 [some (vR 9), some (vI a1), some (vI ((mCpy (mCpy (mCpy (mCpy (mUp h 9 0 (h 9 6)) 41 0 37 0 7) 42 0 38 0 7) 43 0 39 0 7) 44 0 40 0 4) 9 5))] [] (mCpy (mCpy (mCpy (mCpy (mUp h 9 0 (h 9 6)) 41 0 37 0 7) 42 0 38 0 7) 43 0 39 0 7) 44 0 40 0 4) else none else none else none else none := X2_layBack_0 h a1
theorem X2_layBack_76 (h : mm_M) (a1 : Int) (a2 : Int) : mm_ev mX2_layBack 2 76 [some (vR 9), some (vI a1), some (vI a2)] [] h = if 7 ≤ a2 then some ([], h) else (mm_call mX2_forget [vR 9, vI a2, vI a1] h).bind (fun w => mm_ev mX2_layBack 2 88 [some (vR 9), some (vI a1), some (vI a2)] (w.1 ++ []) w.2) := (ev_iload_n 77 dX2_layBack_76 rfl rfl).trans ((ev_bipush 79 (v := 7) dX2_layBack_77 rfl rfl).trans ((ev_ic_ge 94 82 dX2_layBack_79 rfl rfl).trans (mm_ite (ev_vret dX2_layBack_94 rfl) ((ev_aload_n 83 dX2_layBack_82 rfl rfl).trans ((ev_iload_n 84 dX2_layBack_83 rfl rfl).trans ((ev_iload_n 85 dX2_layBack_84 rfl rfl).trans ((ev_callv mX2_forget [vR 9, vI a2, vI a1] [] 88 dX2_layBack_85 ml_2_53 k15 rfl oc9 ak9 rfl rfl (Nat.le_of_ble_eq_true rfl) (Nat.le_of_ble_eq_true rfl) rfl).trans (if_pos (show 1 < 2 from by decide)))))))))
theorem X2_layBack_88 (h : mm_M) (a1 : Int) (a2 : Int) : mm_ev mX2_layBack 2 88 [some (vR 9), some (vI a1), some (vI a2)] [] h = mm_ev mX2_layBack 2 76 [some (vR 9), some (vI a1), some (vI (w32 (a2 + 1)))] [] h := (ev_iinc 91 [some (vR 9), some (vI a1), some (vI (w32 (a2 + 1)))] dX2_layBack_88 rfl rfl rfl).trans (ev_goto 76 dX2_layBack_91 rfl)
theorem dX2_forget_0 : decode mX2_forget.1 0 = .ok (.aload_n 0, 1) := by decide +kernel
theorem dX2_forget_1 : decode mX2_forget.1 1 = .ok (.getfield 9, 3) := by decide +kernel
theorem dX2_forget_4 : decode mX2_forget.1 4 = .ok (.iload_n 1, 1) := by decide +kernel
theorem dX2_forget_5 : decode mX2_forget.1 5 = .ok (.iload_n 2, 1) := by decide +kernel
theorem dX2_forget_6 : decode mX2_forget.1 6 = .ok (.iastore, 1) := by decide +kernel
theorem dX2_forget_7 : decode mX2_forget.1 7 = .ok (.aload_n 0, 1) := by decide +kernel
theorem dX2_forget_8 : decode mX2_forget.1 8 = .ok (.getfield 15, 3) := by decide +kernel
theorem dX2_forget_11 : decode mX2_forget.1 11 = .ok (.iload_n 1, 1) := by decide +kernel
theorem dX2_forget_12 : decode mX2_forget.1 12 = .ok (.ldc 40, 2) := by decide +kernel
theorem dX2_forget_14 : decode mX2_forget.1 14 = .ok (.iastore, 1) := by decide +kernel
theorem dX2_forget_15 : decode mX2_forget.1 15 = .ok (.aload_n 0, 1) := by decide +kernel
theorem dX2_forget_16 : decode mX2_forget.1 16 = .ok (.getfield 18, 3) := by decide +kernel
theorem dX2_forget_19 : decode mX2_forget.1 19 = .ok (.iload_n 1, 1) := by decide +kernel
theorem dX2_forget_20 : decode mX2_forget.1 20 = .ok (.aload_n 0, 1) := by decide +kernel
theorem dX2_forget_21 : decode mX2_forget.1 21 = .ok (.getfield 41, 3) := by decide +kernel
theorem dX2_forget_24 : decode mX2_forget.1 24 = .ok (.iastore, 1) := by decide +kernel
theorem dX2_forget_25 : decode mX2_forget.1 25 = .ok (.return_, 1) := by decide +kernel
theorem X2_forget_0 (h : mm_M) (a1 : Int) (a2 : Int) : mm_ev mX2_forget 1 0 [some (vR 9), some (vI a1), some (vI a2)] [] h = if 0 ≤ a1 ∧ a1 < 7 then if 0 ≤ a1 ∧ a1 < 7 then if 0 ≤ a1 ∧ a1 < 7 then some ([], mUp (mUp (mUp h 37 a1 a2) 38 a1 (-2000000000)) 39 a1 ((mUp (mUp h 37 a1 a2) 38 a1 (-2000000000)) 9 0)) else none else none else none := (ev_aload_n 1 dX2_forget_0 rfl rfl).trans ((ev_getF 4 37 dX2_forget_1 fl_2_9 oc9 ak9 rfl rf_9_1 rfl).trans ((ev_iload_n 5 dX2_forget_4 rfl rfl).trans ((ev_iload_n 6 dX2_forget_5 rfl rfl).trans ((ev_iast 7 7 dX2_forget_6 ak37 an37 rfl).trans (mm_ite ((ev_aload_n 8 dX2_forget_7 rfl rfl).trans ((ev_getF 11 38 dX2_forget_8 fl_2_15 oc9 ak9 rfl rf_9_2 rfl).trans ((ev_iload_n 12 dX2_forget_11 rfl rfl).trans ((ev_ldc 14 dX2_forget_12 cI_2_40 rfl).trans ((ev_iast 15 7 dX2_forget_14 ak38 an38 rfl).trans (mm_ite ((ev_aload_n 16 dX2_forget_15 rfl rfl).trans ((ev_getF 19 39 dX2_forget_16 fl_2_18 oc9 ak9 rfl rf_9_3 rfl).trans ((ev_iload_n 20 dX2_forget_19 rfl rfl).trans ((ev_aload_n 21 dX2_forget_20 rfl rfl).trans ((ev_getI 24 0 dX2_forget_21 fl_2_41 oc9 ak9 (by decide) rfl rfl).trans ((ev_iast 25 7 dX2_forget_24 ak39 an39 rfl).trans (mm_ite (ev_vret dX2_forget_25 rfl) (rfl)))))))) (rfl))))))) (rfl))))))
theorem X2_forget_c (h : mm_M) (a1 : Int) (a2 : Int) : mm_call mX2_forget [vR 9, vI a1, vI a2] h = if 0 ≤ a1 ∧ a1 < 7 then if 0 ≤ a1 ∧ a1 < 7 then if 0 ≤ a1 ∧ a1 < 7 then some ([], mUp (mUp (mUp h 37 a1 a2) 38 a1 (-2000000000)) 39 a1 ((mUp (mUp h 37 a1 a2) 38 a1 (-2000000000)) 9 0)) else none else none else none := X2_forget_0 h a1 a2
theorem dX2_depict_0 : decode mX2_depict.1 0 = .ok (.aload_n 0, 1) := by decide +kernel
theorem dX2_depict_1 : decode mX2_depict.1 1 = .ok (.iload_n 1, 1) := by decide +kernel
theorem dX2_depict_2 : decode mX2_depict.1 2 = .ok (.putfield 24, 3) := by decide +kernel
theorem dX2_depict_5 : decode mX2_depict.1 5 = .ok (.aload_n 0, 1) := by decide +kernel
theorem dX2_depict_6 : decode mX2_depict.1 6 = .ok (.aload_n 0, 1) := by decide +kernel
theorem dX2_depict_7 : decode mX2_depict.1 7 = .ok (.getfield 41, 3) := by decide +kernel
theorem dX2_depict_10 : decode mX2_depict.1 10 = .ok (.putfield 44, 3) := by decide +kernel
theorem dX2_depict_13 : decode mX2_depict.1 13 = .ok (.aload_n 0, 1) := by decide +kernel
theorem dX2_depict_14 : decode mX2_depict.1 14 = .ok (.getfield 9, 3) := by decide +kernel
theorem dX2_depict_17 : decode mX2_depict.1 17 = .ok (.iconst 0, 1) := by decide +kernel
theorem dX2_depict_18 : decode mX2_depict.1 18 = .ok (.aload_n 0, 1) := by decide +kernel
theorem dX2_depict_19 : decode mX2_depict.1 19 = .ok (.getfield 28, 3) := by decide +kernel
theorem dX2_depict_22 : decode mX2_depict.1 22 = .ok (.iconst 0, 1) := by decide +kernel
theorem dX2_depict_23 : decode mX2_depict.1 23 = .ok (.bipush 7, 2) := by decide +kernel
theorem dX2_depict_25 : decode mX2_depict.1 25 = .ok (.invokestatic 47, 3) := by decide +kernel
theorem dX2_depict_28 : decode mX2_depict.1 28 = .ok (.aload_n 0, 1) := by decide +kernel
theorem dX2_depict_29 : decode mX2_depict.1 29 = .ok (.getfield 15, 3) := by decide +kernel
theorem dX2_depict_32 : decode mX2_depict.1 32 = .ok (.iconst 0, 1) := by decide +kernel
theorem dX2_depict_33 : decode mX2_depict.1 33 = .ok (.aload_n 0, 1) := by decide +kernel
theorem dX2_depict_34 : decode mX2_depict.1 34 = .ok (.getfield 31, 3) := by decide +kernel
theorem dX2_depict_37 : decode mX2_depict.1 37 = .ok (.iconst 0, 1) := by decide +kernel
theorem dX2_depict_38 : decode mX2_depict.1 38 = .ok (.bipush 7, 2) := by decide +kernel
theorem dX2_depict_40 : decode mX2_depict.1 40 = .ok (.invokestatic 47, 3) := by decide +kernel
theorem dX2_depict_43 : decode mX2_depict.1 43 = .ok (.aload_n 0, 1) := by decide +kernel
theorem dX2_depict_44 : decode mX2_depict.1 44 = .ok (.getfield 18, 3) := by decide +kernel
theorem dX2_depict_47 : decode mX2_depict.1 47 = .ok (.iconst 0, 1) := by decide +kernel
theorem dX2_depict_48 : decode mX2_depict.1 48 = .ok (.aload_n 0, 1) := by decide +kernel
theorem dX2_depict_49 : decode mX2_depict.1 49 = .ok (.getfield 34, 3) := by decide +kernel
theorem dX2_depict_52 : decode mX2_depict.1 52 = .ok (.iconst 0, 1) := by decide +kernel
theorem dX2_depict_53 : decode mX2_depict.1 53 = .ok (.bipush 7, 2) := by decide +kernel
theorem dX2_depict_55 : decode mX2_depict.1 55 = .ok (.invokestatic 47, 3) := by decide +kernel
theorem dX2_depict_58 : decode mX2_depict.1 58 = .ok (.aload_n 0, 1) := by decide +kernel
theorem dX2_depict_59 : decode mX2_depict.1 59 = .ok (.getfield 21, 3) := by decide +kernel
theorem dX2_depict_62 : decode mX2_depict.1 62 = .ok (.iconst 0, 1) := by decide +kernel
theorem dX2_depict_63 : decode mX2_depict.1 63 = .ok (.aload_n 0, 1) := by decide +kernel
theorem dX2_depict_64 : decode mX2_depict.1 64 = .ok (.getfield 37, 3) := by decide +kernel
theorem dX2_depict_67 : decode mX2_depict.1 67 = .ok (.iconst 0, 1) := by decide +kernel
theorem dX2_depict_68 : decode mX2_depict.1 68 = .ok (.aload_n 0, 1) := by decide +kernel
theorem dX2_depict_69 : decode mX2_depict.1 69 = .ok (.getfield 21, 3) := by decide +kernel
theorem dX2_depict_72 : decode mX2_depict.1 72 = .ok (.arraylength, 1) := by decide +kernel
theorem dX2_depict_73 : decode mX2_depict.1 73 = .ok (.invokestatic 47, 3) := by decide +kernel
theorem dX2_depict_76 : decode mX2_depict.1 76 = .ok (.return_, 1) := by decide +kernel
theorem X2_depict_0 (h : mm_M) (a1 : Int) : mm_ev mX2_depict 1 0 [some (vR 9), some (vI a1)] [] h = if 0 ≤ 0 ∧ 0 ≤ 0 ∧ 0 ≤ 7 ∧ 0 + 7 ≤ 7 ∧ 0 + 7 ≤ 7 then if 0 ≤ 0 ∧ 0 ≤ 0 ∧ 0 ≤ 7 ∧ 0 + 7 ≤ 7 ∧ 0 + 7 ≤ 7 then if 0 ≤ 0 ∧ 0 ≤ 0 ∧ 0 ≤ 7 ∧ 0 + 7 ≤ 7 ∧ 0 + 7 ≤ 7 then if 0 ≤ 0 ∧ 0 ≤ 0 ∧ 0 ≤ 4 ∧ 0 + 4 ≤ 4 ∧ 0 + 4 ≤ 4 then some ([], mCpy (mCpy (mCpy (mCpy (mUp (mUp h 9 5 a1) 9 6 ((mUp h 9 5 a1) 9 0)) 37 0 41 0 7) 38 0 42 0 7) 39 0 43 0 7) 40 0 44 0 4) else none else none else none else none := (ev_aload_n 1 dX2_depict_0 rfl rfl).trans ((ev_iload_n 2 dX2_depict_1 rfl rfl).trans ((ev_putI 5 5 dX2_depict_2 fl_2_24 oc9 ak9 rfl rfl rfl).trans ((ev_aload_n 6 dX2_depict_5 rfl rfl).trans ((ev_aload_n 7 dX2_depict_6 rfl rfl).trans ((ev_getI 10 0 dX2_depict_7 fl_2_41 oc9 ak9 (by decide) rfl rfl).trans ((ev_putI 13 6 dX2_depict_10 fl_2_44 oc9 ak9 rfl rfl rfl).trans ((ev_aload_n 14 dX2_depict_13 rfl rfl).trans ((ev_getF 17 37 dX2_depict_14 fl_2_9 oc9 ak9 rfl rf_9_1 rfl).trans ((ev_iconst 18 (v := 0) dX2_depict_17 rfl rfl).trans ((ev_aload_n 19 dX2_depict_18 rfl rfl).trans ((ev_getF 22 41 dX2_depict_19 fl_2_28 oc9 ak9 rfl rf_9_7 rfl).trans ((ev_iconst 23 (v := 0) dX2_depict_22 rfl rfl).trans ((ev_bipush 25 (v := 7) dX2_depict_23 rfl rfl).trans ((ev_copy 28 7 7 dX2_depict_25 ml_2_47 (Nat.le_of_ble_eq_true rfl) (Or.inl ak41) (ak37.trans ak41.symm) an37 an41 rfl).trans (mm_ite ((ev_aload_n 29 dX2_depict_28 rfl rfl).trans ((ev_getF 32 38 dX2_depict_29 fl_2_15 oc9 ak9 rfl rf_9_2 rfl).trans ((ev_iconst 33 (v := 0) dX2_depict_32 rfl rfl).trans ((ev_aload_n 34 dX2_depict_33 rfl rfl).trans ((ev_getF 37 42 dX2_depict_34 fl_2_31 oc9 ak9 rfl rf_9_8 rfl).trans ((ev_iconst 38 (v := 0) dX2_depict_37 rfl rfl).trans ((ev_bipush 40 (v := 7) dX2_depict_38 rfl rfl).trans ((ev_copy 43 7 7 dX2_depict_40 ml_2_47 (Nat.le_of_ble_eq_true rfl) (Or.inl ak42) (ak38.trans ak42.symm) an38 an42 rfl).trans (mm_ite ((ev_aload_n 44 dX2_depict_43 rfl rfl).trans ((ev_getF 47 39 dX2_depict_44 fl_2_18 oc9 ak9 rfl rf_9_3 rfl).trans ((ev_iconst 48 (v := 0) dX2_depict_47 rfl rfl).trans ((ev_aload_n 49 dX2_depict_48 rfl rfl).trans ((ev_getF 52 43 dX2_depict_49 fl_2_34 oc9 ak9 rfl rf_9_9 rfl).trans ((ev_iconst 53 (v := 0) dX2_depict_52 rfl rfl).trans ((ev_bipush 55 (v := 7) dX2_depict_53 rfl rfl).trans ((ev_copy 58 7 7 dX2_depict_55 ml_2_47 (Nat.le_of_ble_eq_true rfl) (Or.inl ak43) (ak39.trans ak43.symm) an39 an43 rfl).trans (mm_ite ((ev_aload_n 59 dX2_depict_58 rfl rfl).trans ((ev_getF 62 40 dX2_depict_59 fl_2_21 oc9 ak9 rfl rf_9_4 rfl).trans ((ev_iconst 63 (v := 0) dX2_depict_62 rfl rfl).trans ((ev_aload_n 64 dX2_depict_63 rfl rfl).trans ((ev_getF 67 44 dX2_depict_64 fl_2_37 oc9 ak9 rfl rf_9_10 rfl).trans ((ev_iconst 68 (v := 0) dX2_depict_67 rfl rfl).trans ((ev_aload_n 69 dX2_depict_68 rfl rfl).trans ((ev_getF 72 40 dX2_depict_69 fl_2_21 oc9 ak9 rfl rf_9_4 rfl).trans ((ev_alen 73 4 dX2_depict_72 (by rw [ak40]; decide) an40 rfl).trans ((ev_copy 76 4 4 dX2_depict_73 ml_2_47 (Nat.le_of_ble_eq_true rfl) (Or.inl ak44) (ak40.trans ak44.symm) an40 an44 rfl).trans (mm_ite (ev_vret dX2_depict_76 rfl) (rfl)))))))))))) (rfl)))))))))) (rfl)))))))))) (rfl))))))))))))))))
theorem X2_depict_c (h : mm_M) (a1 : Int) : mm_call mX2_depict [vR 9, vI a1] h = if 0 ≤ 0 ∧ 0 ≤ 0 ∧ 0 ≤ 7 ∧ 0 + 7 ≤ 7 ∧ 0 + 7 ≤ 7 then if 0 ≤ 0 ∧ 0 ≤ 0 ∧ 0 ≤ 7 ∧ 0 + 7 ≤ 7 ∧ 0 + 7 ≤ 7 then if 0 ≤ 0 ∧ 0 ≤ 0 ∧ 0 ≤ 7 ∧ 0 + 7 ≤ 7 ∧ 0 + 7 ≤ 7 then if 0 ≤ 0 ∧ 0 ≤ 0 ∧ 0 ≤ 4 ∧ 0 + 4 ≤ 4 ∧ 0 + 4 ≤ 4 then some ([], mCpy (mCpy (mCpy (mCpy (mUp (mUp h 9 5 a1) 9 6 ((mUp h 9 5 a1) 9 0)) 37 0 41 0 7) 38 0 42 0 7) 39 0 43 0 7) 40 0 44 0 4) else none else none else none else none := X2_depict_0 h a1
theorem dX2_answer_0 : decode mX2_answer.1 0 = .ok (.iload_n 2, 1) := by decide +kernel
theorem dX2_answer_1 : decode mX2_answer.1 1 = .ok (.aload_n 0, 1) := by decide +kernel
theorem dX2_answer_2 : decode mX2_answer.1 2 = .ok (.getfield 9, 3) := by decide +kernel
theorem dX2_answer_5 : decode mX2_answer.1 5 = .ok (.iload_n 1, 1) := by decide +kernel
theorem dX2_answer_6 : decode mX2_answer.1 6 = .ok (.iaload, 1) := by decide +kernel
theorem dX2_answer_7 : decode mX2_answer.1 7 = .ok (.if_icmp .eq 28, 3) := by decide +kernel
theorem dX2_answer_10 : decode mX2_answer.1 10 = .ok (.iload_n 2, 1) := by decide +kernel
theorem dX2_answer_11 : decode mX2_answer.1 11 = .ok (.aload_n 0, 1) := by decide +kernel
theorem dX2_answer_12 : decode mX2_answer.1 12 = .ok (.getfield 15, 3) := by decide +kernel
theorem dX2_answer_15 : decode mX2_answer.1 15 = .ok (.iload_n 1, 1) := by decide +kernel
theorem dX2_answer_16 : decode mX2_answer.1 16 = .ok (.iaload, 1) := by decide +kernel
theorem dX2_answer_17 : decode mX2_answer.1 17 = .ok (.if_icmp .ne 22, 3) := by decide +kernel
theorem dX2_answer_20 : decode mX2_answer.1 20 = .ok (.aload_n 0, 1) := by decide +kernel
theorem dX2_answer_21 : decode mX2_answer.1 21 = .ok (.getfield 41, 3) := by decide +kernel
theorem dX2_answer_24 : decode mX2_answer.1 24 = .ok (.aload_n 0, 1) := by decide +kernel
theorem dX2_answer_25 : decode mX2_answer.1 25 = .ok (.getfield 18, 3) := by decide +kernel
theorem dX2_answer_28 : decode mX2_answer.1 28 = .ok (.iload_n 1, 1) := by decide +kernel
theorem dX2_answer_29 : decode mX2_answer.1 29 = .ok (.iaload, 1) := by decide +kernel
theorem dX2_answer_30 : decode mX2_answer.1 30 = .ok (.isub, 1) := by decide +kernel
theorem dX2_answer_31 : decode mX2_answer.1 31 = .ok (.iload_n 3, 1) := by decide +kernel
theorem dX2_answer_32 : decode mX2_answer.1 32 = .ok (.if_icmp .ge 7, 3) := by decide +kernel
theorem dX2_answer_35 : decode mX2_answer.1 35 = .ok (.iconst 1, 1) := by decide +kernel
theorem dX2_answer_36 : decode mX2_answer.1 36 = .ok (.goto 4, 3) := by decide +kernel
theorem dX2_answer_39 : decode mX2_answer.1 39 = .ok (.iconst 0, 1) := by decide +kernel
theorem dX2_answer_40 : decode mX2_answer.1 40 = .ok (.istore 4, 2) := by decide +kernel
theorem dX2_answer_42 : decode mX2_answer.1 42 = .ok (.aload_n 0, 1) := by decide +kernel
theorem dX2_answer_43 : decode mX2_answer.1 43 = .ok (.getfield 21, 3) := by decide +kernel
theorem dX2_answer_46 : decode mX2_answer.1 46 = .ok (.iconst 2, 1) := by decide +kernel
theorem dX2_answer_47 : decode mX2_answer.1 47 = .ok (.dup2, 1) := by decide +kernel
theorem dX2_answer_48 : decode mX2_answer.1 48 = .ok (.iaload, 1) := by decide +kernel
theorem dX2_answer_49 : decode mX2_answer.1 49 = .ok (.iconst 1, 1) := by decide +kernel
theorem dX2_answer_50 : decode mX2_answer.1 50 = .ok (.iadd, 1) := by decide +kernel
theorem dX2_answer_51 : decode mX2_answer.1 51 = .ok (.iastore, 1) := by decide +kernel
theorem dX2_answer_52 : decode mX2_answer.1 52 = .ok (.iload 4, 2) := by decide +kernel
theorem dX2_answer_54 : decode mX2_answer.1 54 = .ok (.ifCond .eq 13, 3) := by decide +kernel
theorem dX2_answer_57 : decode mX2_answer.1 57 = .ok (.aload_n 0, 1) := by decide +kernel
theorem dX2_answer_58 : decode mX2_answer.1 58 = .ok (.getfield 21, 3) := by decide +kernel
theorem dX2_answer_61 : decode mX2_answer.1 61 = .ok (.iconst 3, 1) := by decide +kernel
theorem dX2_answer_62 : decode mX2_answer.1 62 = .ok (.dup2, 1) := by decide +kernel
theorem dX2_answer_63 : decode mX2_answer.1 63 = .ok (.iaload, 1) := by decide +kernel
theorem dX2_answer_64 : decode mX2_answer.1 64 = .ok (.iconst 1, 1) := by decide +kernel
theorem dX2_answer_65 : decode mX2_answer.1 65 = .ok (.iadd, 1) := by decide +kernel
theorem dX2_answer_66 : decode mX2_answer.1 66 = .ok (.iastore, 1) := by decide +kernel
theorem dX2_answer_67 : decode mX2_answer.1 67 = .ok (.iload 4, 2) := by decide +kernel
theorem dX2_answer_69 : decode mX2_answer.1 69 = .ok (.ifCond .eq 7, 3) := by decide +kernel
theorem dX2_answer_72 : decode mX2_answer.1 72 = .ok (.iconst 1, 1) := by decide +kernel
theorem dX2_answer_73 : decode mX2_answer.1 73 = .ok (.goto 4, 3) := by decide +kernel
theorem dX2_answer_76 : decode mX2_answer.1 76 = .ok (.iconst 0, 1) := by decide +kernel
theorem dX2_answer_77 : decode mX2_answer.1 77 = .ok (.ireturn, 1) := by decide +kernel
theorem X2_answer_0 (h : mm_M) (a1 : Int) (a2 : Int) (a3 : Int) : mm_ev mX2_answer 1 0 [some (vR 9), some (vI a1), some (vI a2), some (vI a3), none] [] h = if 0 ≤ a1 ∧ a1 < 7 then if a2 = (h 37 a1) then mm_ev mX2_answer 1 40 [some (vR 9), some (vI a1), some (vI a2), some (vI a3), none] [vI 1] h else if 0 ≤ a1 ∧ a1 < 7 then if ¬ a2 = (h 38 a1) then mm_ev mX2_answer 1 40 [some (vR 9), some (vI a1), some (vI a2), some (vI a3), none] [vI 0] h else if 0 ≤ a1 ∧ a1 < 7 then if a3 ≤ (w32 ((h 9 0) - (h 39 a1))) then mm_ev mX2_answer 1 40 [some (vR 9), some (vI a1), some (vI a2), some (vI a3), none] [vI 0] h else mm_ev mX2_answer 1 40 [some (vR 9), some (vI a1), some (vI a2), some (vI a3), none] [vI 1] h else none else none else none := (ev_iload_n 1 dX2_answer_0 rfl rfl).trans ((ev_aload_n 2 dX2_answer_1 rfl rfl).trans ((ev_getF 5 37 dX2_answer_2 fl_2_9 oc9 ak9 rfl rf_9_1 rfl).trans ((ev_iload_n 6 dX2_answer_5 rfl rfl).trans ((ev_iald 7 7 dX2_answer_6 ak37 an37 rfl).trans (mm_ite ((ev_ic_eq 35 10 dX2_answer_7 rfl rfl).trans (mm_ite ((ev_iconst 36 (v := 1) dX2_answer_35 rfl rfl).trans (ev_goto 40 dX2_answer_36 rfl)) ((ev_iload_n 11 dX2_answer_10 rfl rfl).trans ((ev_aload_n 12 dX2_answer_11 rfl rfl).trans ((ev_getF 15 38 dX2_answer_12 fl_2_15 oc9 ak9 rfl rf_9_2 rfl).trans ((ev_iload_n 16 dX2_answer_15 rfl rfl).trans ((ev_iald 17 7 dX2_answer_16 ak38 an38 rfl).trans (mm_ite ((ev_ic_ne 39 20 dX2_answer_17 rfl rfl).trans (mm_ite (ev_iconst 40 (v := 0) dX2_answer_39 rfl rfl) ((ev_aload_n 21 dX2_answer_20 rfl rfl).trans ((ev_getI 24 0 dX2_answer_21 fl_2_41 oc9 ak9 (by decide) rfl rfl).trans ((ev_aload_n 25 dX2_answer_24 rfl rfl).trans ((ev_getF 28 39 dX2_answer_25 fl_2_18 oc9 ak9 rfl rf_9_3 rfl).trans ((ev_iload_n 29 dX2_answer_28 rfl rfl).trans ((ev_iald 30 7 dX2_answer_29 ak39 an39 rfl).trans (mm_ite ((ev_isub 31 dX2_answer_30 rfl).trans ((ev_iload_n 32 dX2_answer_31 rfl rfl).trans ((ev_ic_ge 39 35 dX2_answer_32 rfl rfl).trans (mm_ite (ev_iconst 40 (v := 0) dX2_answer_39 rfl rfl) ((ev_iconst 36 (v := 1) dX2_answer_35 rfl rfl).trans (ev_goto 40 dX2_answer_36 rfl)))))) (rfl)))))))))) (rfl))))))))) (rfl))))))
theorem X2_answer_c (h : mm_M) (a1 : Int) (a2 : Int) (a3 : Int) : mm_call mX2_answer [vR 9, vI a1, vI a2, vI a3] h = if 0 ≤ a1 ∧ a1 < 7 then if a2 = (h 37 a1) then mm_ev mX2_answer 1 40 [some (vR 9), some (vI a1), some (vI a2), some (vI a3), none] [vI 1] h else if 0 ≤ a1 ∧ a1 < 7 then if ¬ a2 = (h 38 a1) then mm_ev mX2_answer 1 40 [some (vR 9), some (vI a1), some (vI a2), some (vI a3), none] [vI 0] h else if 0 ≤ a1 ∧ a1 < 7 then if a3 ≤ (w32 ((h 9 0) - (h 39 a1))) then mm_ev mX2_answer 1 40 [some (vR 9), some (vI a1), some (vI a2), some (vI a3), none] [vI 0] h else mm_ev mX2_answer 1 40 [some (vR 9), some (vI a1), some (vI a2), some (vI a3), none] [vI 1] h else none else none else none := X2_answer_0 h a1 a2 a3
theorem X2_answer_40 (h : mm_M) (a1 : Int) (a2 : Int) (a3 : Int) (s0 : Int) : mm_ev mX2_answer 1 40 [some (vR 9), some (vI a1), some (vI a2), some (vI a3), none] [vI s0] h = if 0 ≤ 2 ∧ 2 < 4 then if 0 ≤ 2 ∧ 2 < 4 then if s0 = 0 then mm_ev mX2_answer 1 67 [some (vR 9), some (vI a1), some (vI a2), some (vI a3), some (vI s0)] [] (mUp h 40 2 (w32 ((h 40 2) + 1))) else if 0 ≤ 3 ∧ 3 < 4 then if 0 ≤ 3 ∧ 3 < 4 then mm_ev mX2_answer 1 67 [some (vR 9), some (vI a1), some (vI a2), some (vI a3), some (vI s0)] [] (mUp (mUp h 40 2 (w32 ((h 40 2) + 1))) 40 3 (w32 (((mUp h 40 2 (w32 ((h 40 2) + 1))) 40 3) + 1))) else none else none else none else none := (ev_istore 42 [some (vR 9), some (vI a1), some (vI a2), some (vI a3), some (vI s0)] dX2_answer_40 rfl rfl).trans ((ev_aload_n 43 dX2_answer_42 rfl rfl).trans ((ev_getF 46 40 dX2_answer_43 fl_2_21 oc9 ak9 rfl rf_9_4 rfl).trans ((ev_iconst 47 (v := 2) dX2_answer_46 rfl rfl).trans ((ev_dup2 48 dX2_answer_47 rfl rfl).trans ((ev_iald 49 4 dX2_answer_48 ak40 an40 rfl).trans (mm_ite ((ev_iconst 50 (v := 1) dX2_answer_49 rfl rfl).trans ((ev_iadd 51 dX2_answer_50 rfl).trans ((ev_iast 52 4 dX2_answer_51 ak40 an40 rfl).trans (mm_ite ((ev_iload 54 dX2_answer_52 rfl rfl).trans ((ev_if_eq 67 57 dX2_answer_54 rfl rfl).trans (mm_ite (rfl) ((ev_aload_n 58 dX2_answer_57 rfl rfl).trans ((ev_getF 61 40 dX2_answer_58 fl_2_21 oc9 ak9 rfl rf_9_4 rfl).trans ((ev_iconst 62 (v := 3) dX2_answer_61 rfl rfl).trans ((ev_dup2 63 dX2_answer_62 rfl rfl).trans ((ev_iald 64 4 dX2_answer_63 ak40 an40 rfl).trans (mm_ite ((ev_iconst 65 (v := 1) dX2_answer_64 rfl rfl).trans ((ev_iadd 66 dX2_answer_65 rfl).trans (ev_iast 67 4 dX2_answer_66 ak40 an40 rfl))) (rfl)))))))))) (rfl))))) (rfl)))))))
theorem X2_answer_67 (h : mm_M) (a1 : Int) (a2 : Int) (a3 : Int) (a4 : Int) : mm_ev mX2_answer 1 67 [some (vR 9), some (vI a1), some (vI a2), some (vI a3), some (vI a4)] [] h = if a4 = 0 then some ([vI 0], h) else some ([vI 1], h) := (ev_iload 69 dX2_answer_67 rfl rfl).trans ((ev_if_eq 76 72 dX2_answer_69 rfl rfl).trans (mm_ite ((ev_iconst 77 (v := 0) dX2_answer_76 rfl rfl).trans (ev_iret dX2_answer_77 rfl)) ((ev_iconst 73 (v := 1) dX2_answer_72 rfl rfl).trans ((ev_goto 77 dX2_answer_73 rfl).trans (ev_iret dX2_answer_77 rfl)))))
theorem dX2_give_0 : decode mX2_give.1 0 = .ok (.aload_n 0, 1) := by decide +kernel
theorem dX2_give_1 : decode mX2_give.1 1 = .ok (.getfield 9, 3) := by decide +kernel
theorem dX2_give_4 : decode mX2_give.1 4 = .ok (.iload_n 1, 1) := by decide +kernel
theorem dX2_give_5 : decode mX2_give.1 5 = .ok (.iaload, 1) := by decide +kernel
theorem dX2_give_6 : decode mX2_give.1 6 = .ok (.istore_n 3, 1) := by decide +kernel
theorem dX2_give_7 : decode mX2_give.1 7 = .ok (.aload_n 0, 1) := by decide +kernel
theorem dX2_give_8 : decode mX2_give.1 8 = .ok (.getfield 15, 3) := by decide +kernel
theorem dX2_give_11 : decode mX2_give.1 11 = .ok (.iload_n 1, 1) := by decide +kernel
theorem dX2_give_12 : decode mX2_give.1 12 = .ok (.iload_n 3, 1) := by decide +kernel
theorem dX2_give_13 : decode mX2_give.1 13 = .ok (.iastore, 1) := by decide +kernel
theorem dX2_give_14 : decode mX2_give.1 14 = .ok (.aload_n 0, 1) := by decide +kernel
theorem dX2_give_15 : decode mX2_give.1 15 = .ok (.getfield 9, 3) := by decide +kernel
theorem dX2_give_18 : decode mX2_give.1 18 = .ok (.iload_n 1, 1) := by decide +kernel
theorem dX2_give_19 : decode mX2_give.1 19 = .ok (.iload_n 2, 1) := by decide +kernel
theorem dX2_give_20 : decode mX2_give.1 20 = .ok (.iastore, 1) := by decide +kernel
theorem dX2_give_21 : decode mX2_give.1 21 = .ok (.aload_n 0, 1) := by decide +kernel
theorem dX2_give_22 : decode mX2_give.1 22 = .ok (.getfield 18, 3) := by decide +kernel
theorem dX2_give_25 : decode mX2_give.1 25 = .ok (.iload_n 1, 1) := by decide +kernel
theorem dX2_give_26 : decode mX2_give.1 26 = .ok (.aload_n 0, 1) := by decide +kernel
theorem dX2_give_27 : decode mX2_give.1 27 = .ok (.getfield 41, 3) := by decide +kernel
theorem dX2_give_30 : decode mX2_give.1 30 = .ok (.iastore, 1) := by decide +kernel
theorem dX2_give_31 : decode mX2_give.1 31 = .ok (.iload_n 3, 1) := by decide +kernel
theorem dX2_give_32 : decode mX2_give.1 32 = .ok (.ireturn, 1) := by decide +kernel
theorem X2_give_0 (h : mm_M) (a1 : Int) (a2 : Int) : mm_ev mX2_give 1 0 [some (vR 9), some (vI a1), some (vI a2), none] [] h = if 0 ≤ a1 ∧ a1 < 7 then if 0 ≤ a1 ∧ a1 < 7 then if 0 ≤ a1 ∧ a1 < 7 then if 0 ≤ a1 ∧ a1 < 7 then some ([vI (h 37 a1)], mUp (mUp (mUp h 38 a1 (h 37 a1)) 37 a1 a2) 39 a1 ((mUp (mUp h 38 a1 (h 37 a1)) 37 a1 a2) 9 0)) else none else none else none else none := (ev_aload_n 1 dX2_give_0 rfl rfl).trans ((ev_getF 4 37 dX2_give_1 fl_2_9 oc9 ak9 rfl rf_9_1 rfl).trans ((ev_iload_n 5 dX2_give_4 rfl rfl).trans ((ev_iald 6 7 dX2_give_5 ak37 an37 rfl).trans (mm_ite ((ev_istore_n 7 [some (vR 9), some (vI a1), some (vI a2), some (vI (h 37 a1))] dX2_give_6 rfl rfl).trans ((ev_aload_n 8 dX2_give_7 rfl rfl).trans ((ev_getF 11 38 dX2_give_8 fl_2_15 oc9 ak9 rfl rf_9_2 rfl).trans ((ev_iload_n 12 dX2_give_11 rfl rfl).trans ((ev_iload_n 13 dX2_give_12 rfl rfl).trans ((ev_iast 14 7 dX2_give_13 ak38 an38 rfl).trans (mm_ite ((ev_aload_n 15 dX2_give_14 rfl rfl).trans ((ev_getF 18 37 dX2_give_15 fl_2_9 oc9 ak9 rfl rf_9_1 rfl).trans ((ev_iload_n 19 dX2_give_18 rfl rfl).trans ((ev_iload_n 20 dX2_give_19 rfl rfl).trans ((ev_iast 21 7 dX2_give_20 ak37 an37 rfl).trans (mm_ite ((ev_aload_n 22 dX2_give_21 rfl rfl).trans ((ev_getF 25 39 dX2_give_22 fl_2_18 oc9 ak9 rfl rf_9_3 rfl).trans ((ev_iload_n 26 dX2_give_25 rfl rfl).trans ((ev_aload_n 27 dX2_give_26 rfl rfl).trans ((ev_getI 30 0 dX2_give_27 fl_2_41 oc9 ak9 (by decide) rfl rfl).trans ((ev_iast 31 7 dX2_give_30 ak39 an39 rfl).trans (mm_ite ((ev_iload_n 32 dX2_give_31 rfl rfl).trans (ev_iret dX2_give_32 rfl)) (rfl)))))))) (rfl))))))) (rfl)))))))) (rfl)))))
theorem X2_give_c (h : mm_M) (a1 : Int) (a2 : Int) : mm_call mX2_give [vR 9, vI a1, vI a2] h = if 0 ≤ a1 ∧ a1 < 7 then if 0 ≤ a1 ∧ a1 < 7 then if 0 ≤ a1 ∧ a1 < 7 then if 0 ≤ a1 ∧ a1 < 7 then some ([vI (h 37 a1)], mUp (mUp (mUp h 38 a1 (h 37 a1)) 37 a1 a2) 39 a1 ((mUp (mUp h 38 a1 (h 37 a1)) 37 a1 a2) 9 0)) else none else none else none else none := X2_give_0 h a1 a2
theorem dX0_kindOf_0 : decode mX0_kindOf.1 0 = .ok (.iload_n 1, 1) := by decide +kernel
theorem dX0_kindOf_1 : decode mX0_kindOf.1 1 = .ok (.ifCond .lt 20, 3) := by decide +kernel
theorem dX0_kindOf_4 : decode mX0_kindOf.1 4 = .ok (.iload_n 1, 1) := by decide +kernel
theorem dX0_kindOf_5 : decode mX0_kindOf.1 5 = .ok (.aload_n 0, 1) := by decide +kernel
theorem dX0_kindOf_6 : decode mX0_kindOf.1 6 = .ok (.getfield 18, 3) := by decide +kernel
theorem dX0_kindOf_9 : decode mX0_kindOf.1 9 = .ok (.if_icmp .ge 12, 3) := by decide +kernel
theorem dX0_kindOf_12 : decode mX0_kindOf.1 12 = .ok (.aload_n 0, 1) := by decide +kernel
theorem dX0_kindOf_13 : decode mX0_kindOf.1 13 = .ok (.getfield 15, 3) := by decide +kernel
theorem dX0_kindOf_16 : decode mX0_kindOf.1 16 = .ok (.iload_n 1, 1) := by decide +kernel
theorem dX0_kindOf_17 : decode mX0_kindOf.1 17 = .ok (.iaload, 1) := by decide +kernel
theorem dX0_kindOf_18 : decode mX0_kindOf.1 18 = .ok (.goto 4, 3) := by decide +kernel
theorem dX0_kindOf_21 : decode mX0_kindOf.1 21 = .ok (.iconst (-1), 1) := by decide +kernel
theorem dX0_kindOf_22 : decode mX0_kindOf.1 22 = .ok (.ireturn, 1) := by decide +kernel
theorem X0_kindOf_0 (h : mm_M) (a1 : Int) : mm_ev mX0_kindOf 1 0 [some (vR 10), some (vI a1)] [] h = if a1 < 0 then some ([vI (-1)], h) else if (h 10 0) ≤ a1 then some ([vI (-1)], h) else if 0 ≤ a1 ∧ a1 < 50 then some ([vI (h 46 a1)], h) else none := (ev_iload_n 1 dX0_kindOf_0 rfl rfl).trans ((ev_if_lt 21 4 dX0_kindOf_1 rfl rfl).trans (mm_ite ((ev_iconst 22 (v := (-1)) dX0_kindOf_21 rfl rfl).trans (ev_iret dX0_kindOf_22 rfl)) ((ev_iload_n 5 dX0_kindOf_4 rfl rfl).trans ((ev_aload_n 6 dX0_kindOf_5 rfl rfl).trans ((ev_getI 9 0 dX0_kindOf_6 fl_0_18 oc10 ak10 (by decide) rfl rfl).trans ((ev_ic_ge 21 12 dX0_kindOf_9 rfl rfl).trans (mm_ite ((ev_iconst 22 (v := (-1)) dX0_kindOf_21 rfl rfl).trans (ev_iret dX0_kindOf_22 rfl)) ((ev_aload_n 13 dX0_kindOf_12 rfl rfl).trans ((ev_getF 16 46 dX0_kindOf_13 fl_0_15 oc10 ak10 rfl rf_10_3 rfl).trans ((ev_iload_n 17 dX0_kindOf_16 rfl rfl).trans ((ev_iald 18 50 dX0_kindOf_17 ak46 an46 rfl).trans (mm_ite ((ev_goto 22 dX0_kindOf_18 rfl).trans (ev_iret dX0_kindOf_22 rfl)) (rfl)))))))))))))
theorem X0_kindOf_c (h : mm_M) (a1 : Int) : mm_call mX0_kindOf [vR 10, vI a1] h = if a1 < 0 then some ([vI (-1)], h) else if (h 10 0) ≤ a1 then some ([vI (-1)], h) else if 0 ≤ a1 ∧ a1 < 50 then some ([vI (h 46 a1)], h) else none := X0_kindOf_0 h a1
theorem dX0_isUnder_0 : decode mX0_isUnder.1 0 = .ok (.iload_n 0, 1) := by decide +kernel
theorem dX0_isUnder_1 : decode mX0_isUnder.1 1 = .ok (.istore_n 2, 1) := by decide +kernel
theorem dX0_isUnder_2 : decode mX0_isUnder.1 2 = .ok (.iconst 0, 1) := by decide +kernel
theorem dX0_isUnder_3 : decode mX0_isUnder.1 3 = .ok (.istore_n 3, 1) := by decide +kernel
theorem dX0_isUnder_4 : decode mX0_isUnder.1 4 = .ok (.iload_n 3, 1) := by decide +kernel
theorem dX0_isUnder_5 : decode mX0_isUnder.1 5 = .ok (.bipush 8, 2) := by decide +kernel
theorem dX0_isUnder_7 : decode mX0_isUnder.1 7 = .ok (.if_icmp .ge 26, 3) := by decide +kernel
theorem dX0_isUnder_10 : decode mX0_isUnder.1 10 = .ok (.iload_n 2, 1) := by decide +kernel
theorem dX0_isUnder_11 : decode mX0_isUnder.1 11 = .ok (.ifCond .lt 22, 3) := by decide +kernel
theorem dX0_isUnder_14 : decode mX0_isUnder.1 14 = .ok (.iload_n 2, 1) := by decide +kernel
theorem dX0_isUnder_15 : decode mX0_isUnder.1 15 = .ok (.iload_n 1, 1) := by decide +kernel
theorem dX0_isUnder_16 : decode mX0_isUnder.1 16 = .ok (.if_icmp .ne 5, 3) := by decide +kernel
theorem dX0_isUnder_19 : decode mX0_isUnder.1 19 = .ok (.iconst 1, 1) := by decide +kernel
theorem dX0_isUnder_20 : decode mX0_isUnder.1 20 = .ok (.ireturn, 1) := by decide +kernel
theorem dX0_isUnder_21 : decode mX0_isUnder.1 21 = .ok (.getstatic 22, 3) := by decide +kernel
theorem dX0_isUnder_24 : decode mX0_isUnder.1 24 = .ok (.iload_n 2, 1) := by decide +kernel
theorem dX0_isUnder_25 : decode mX0_isUnder.1 25 = .ok (.iaload, 1) := by decide +kernel
theorem dX0_isUnder_26 : decode mX0_isUnder.1 26 = .ok (.istore_n 2, 1) := by decide +kernel
theorem dX0_isUnder_27 : decode mX0_isUnder.1 27 = .ok (.iinc 3 1, 3) := by decide +kernel
theorem dX0_isUnder_30 : decode mX0_isUnder.1 30 = .ok (.goto (-26), 3) := by decide +kernel
theorem dX0_isUnder_33 : decode mX0_isUnder.1 33 = .ok (.iconst 0, 1) := by decide +kernel
theorem dX0_isUnder_34 : decode mX0_isUnder.1 34 = .ok (.ireturn, 1) := by decide +kernel
theorem X0_isUnder_0 (h : mm_M) (a0 : Int) (a1 : Int) : mm_ev mX0_isUnder 1 0 [some (vI a0), some (vI a1), none, none] [] h = mm_ev mX0_isUnder 1 4 [some (vI a0), some (vI a1), some (vI a0), some (vI 0)] [] h := (ev_iload_n 1 dX0_isUnder_0 rfl rfl).trans ((ev_istore_n 2 [some (vI a0), some (vI a1), some (vI a0), none] dX0_isUnder_1 rfl rfl).trans ((ev_iconst 3 (v := 0) dX0_isUnder_2 rfl rfl).trans (ev_istore_n 4 [some (vI a0), some (vI a1), some (vI a0), some (vI 0)] dX0_isUnder_3 rfl rfl)))
theorem X0_isUnder_c (h : mm_M) (a0 : Int) (a1 : Int) : mm_call mX0_isUnder [vI a0, vI a1] h = mm_ev mX0_isUnder 1 4 [some (vI a0), some (vI a1), some (vI a0), some (vI 0)] [] h := X0_isUnder_0 h a0 a1
theorem X0_isUnder_4 (h : mm_M) (a0 : Int) (a1 : Int) (a2 : Int) (a3 : Int) : mm_ev mX0_isUnder 1 4 [some (vI a0), some (vI a1), some (vI a2), some (vI a3)] [] h = if 8 ≤ a3 then some ([vI 0], h) else if a2 < 0 then some ([vI 0], h) else if ¬ a2 = a1 then if 0 ≤ a2 ∧ a2 < 8 then mm_ev mX0_isUnder 1 4 [some (vI a0), some (vI a1), some (vI (mm_ct 104 a2)), some (vI (w32 (a3 + 1)))] [] h else none else some ([vI 1], h) := (ev_iload_n 5 dX0_isUnder_4 rfl rfl).trans ((ev_bipush 7 (v := 8) dX0_isUnder_5 rfl rfl).trans ((ev_ic_ge 33 10 dX0_isUnder_7 rfl rfl).trans (mm_ite ((ev_iconst 34 (v := 0) dX0_isUnder_33 rfl rfl).trans (ev_zret0 dX0_isUnder_34 rfl)) ((ev_iload_n 11 dX0_isUnder_10 rfl rfl).trans ((ev_if_lt 33 14 dX0_isUnder_11 rfl rfl).trans (mm_ite ((ev_iconst 34 (v := 0) dX0_isUnder_33 rfl rfl).trans (ev_zret0 dX0_isUnder_34 rfl)) ((ev_iload_n 15 dX0_isUnder_14 rfl rfl).trans ((ev_iload_n 16 dX0_isUnder_15 rfl rfl).trans ((ev_ic_ne 21 19 dX0_isUnder_16 rfl rfl).trans (mm_ite ((ev_gets 24 104 dX0_isUnder_21 st_0_22 rfl).trans ((ev_iload_n 25 dX0_isUnder_24 rfl rfl).trans ((ev_ialdC 26 8 dX0_isUnder_25 ak104 an104 rfl).trans (mm_ite ((ev_istore_n 27 [some (vI a0), some (vI a1), some (vI (mm_ct 104 a2)), some (vI a3)] dX0_isUnder_26 rfl rfl).trans ((ev_iinc 30 [some (vI a0), some (vI a1), some (vI (mm_ct 104 a2)), some (vI (w32 (a3 + 1)))] dX0_isUnder_27 rfl rfl rfl).trans (ev_goto 4 dX0_isUnder_30 rfl))) (rfl))))) ((ev_iconst 20 (v := 1) dX0_isUnder_19 rfl rfl).trans (ev_zret1 dX0_isUnder_20 rfl))))))))))))
theorem dX0_perform_0 : decode mX0_perform.1 0 = .ok (.aload_n 0, 1) := by decide +kernel
theorem dX0_perform_1 : decode mX0_perform.1 1 = .ok (.iconst 0, 1) := by decide +kernel
theorem dX0_perform_2 : decode mX0_perform.1 2 = .ok (.putfield 25, 3) := by decide +kernel
theorem dX0_perform_5 : decode mX0_perform.1 5 = .ok (.aload_n 0, 1) := by decide +kernel
theorem dX0_perform_6 : decode mX0_perform.1 6 = .ok (.iload_n 1, 1) := by decide +kernel
theorem dX0_perform_7 : decode mX0_perform.1 7 = .ok (.invokevirtual 28, 3) := by decide +kernel
theorem dX0_perform_10 : decode mX0_perform.1 10 = .ok (.ifCond .lt 12, 3) := by decide +kernel
theorem dX0_perform_13 : decode mX0_perform.1 13 = .ok (.iload_n 2, 1) := by decide +kernel
theorem dX0_perform_14 : decode mX0_perform.1 14 = .ok (.ifCond .lt 8, 3) := by decide +kernel
theorem dX0_perform_17 : decode mX0_perform.1 17 = .ok (.iload_n 2, 1) := by decide +kernel
theorem dX0_perform_18 : decode mX0_perform.1 18 = .ok (.iconst 4, 1) := by decide +kernel
theorem dX0_perform_19 : decode mX0_perform.1 19 = .ok (.if_icmp .lt 5, 3) := by decide +kernel
theorem dX0_perform_22 : decode mX0_perform.1 22 = .ok (.iconst 0, 1) := by decide +kernel
theorem dX0_perform_23 : decode mX0_perform.1 23 = .ok (.ireturn, 1) := by decide +kernel
theorem dX0_perform_24 : decode mX0_perform.1 24 = .ok (.aload_n 0, 1) := by decide +kernel
theorem dX0_perform_25 : decode mX0_perform.1 25 = .ok (.iload_n 1, 1) := by decide +kernel
theorem dX0_perform_26 : decode mX0_perform.1 26 = .ok (.putfield 32, 3) := by decide +kernel
theorem dX0_perform_29 : decode mX0_perform.1 29 = .ok (.aload_n 0, 1) := by decide +kernel
theorem dX0_perform_30 : decode mX0_perform.1 30 = .ok (.iload_n 2, 1) := by decide +kernel
theorem dX0_perform_31 : decode mX0_perform.1 31 = .ok (.iload_n 3, 1) := by decide +kernel
theorem dX0_perform_32 : decode mX0_perform.1 32 = .ok (.iconst 0, 1) := by decide +kernel
theorem dX0_perform_33 : decode mX0_perform.1 33 = .ok (.invokevirtual 35, 3) := by decide +kernel
theorem dX0_perform_36 : decode mX0_perform.1 36 = .ok (.ireturn, 1) := by decide +kernel
theorem X0_perform_0 (h : mm_M) (a1 : Int) (a2 : Int) (a3 : Int) : mm_ev mX0_perform 161 0 [some (vR 10), some (vI a1), some (vI a2), some (vI a3)] [] h = (mm_call mX0_kindOf [vR 10, vI a1] (mUp h 10 1 0)).bind (fun w => mm_ev mX0_perform 161 10 [some (vR 10), some (vI a1), some (vI a2), some (vI a3)] (w.1 ++ []) w.2) := (ev_aload_n 1 dX0_perform_0 rfl rfl).trans ((ev_iconst 2 (v := 0) dX0_perform_1 rfl rfl).trans ((ev_putI 5 1 dX0_perform_2 fl_0_25 oc10 ak10 rfl rfl rfl).trans ((ev_aload_n 6 dX0_perform_5 rfl rfl).trans ((ev_iload_n 7 dX0_perform_6 rfl rfl).trans ((ev_callv mX0_kindOf [vR 10, vI a1] [] 10 dX0_perform_7 ml_0_28 k1 rfl oc10 ak10 rfl rfl (Nat.le_of_ble_eq_true rfl) (Nat.le_of_ble_eq_true rfl) rfl).trans (if_pos (show 1 < 161 from by decide)))))))
theorem X0_perform_c (h : mm_M) (a1 : Int) (a2 : Int) (a3 : Int) : mm_call mX0_perform [vR 10, vI a1, vI a2, vI a3] h = (mm_call mX0_kindOf [vR 10, vI a1] (mUp h 10 1 0)).bind (fun w => mm_ev mX0_perform 161 10 [some (vR 10), some (vI a1), some (vI a2), some (vI a3)] (w.1 ++ []) w.2) := X0_perform_0 h a1 a2 a3
theorem X0_perform_10 (h : mm_M) (a1 : Int) (a2 : Int) (a3 : Int) (s0 : Int) : mm_ev mX0_perform 161 10 [some (vR 10), some (vI a1), some (vI a2), some (vI a3)] [vI s0] h = if s0 < 0 then some ([vI 0], h) else if a2 < 0 then some ([vI 0], h) else if a2 < 4 then if 10 + (3 * (42 - 0) + 2 : Int).toNat < 161 then (mm_call mX0_own [vR 10, vI a2, vI a3, vI 0] (mUp h 10 4 a1)).bind (fun w => mm_ev mX0_perform 161 36 [some (vR 10), some (vI a1), some (vI a2), some (vI a3)] (w.1 ++ []) w.2) else none else some ([vI 0], h) := (ev_if_lt 22 13 dX0_perform_10 rfl rfl).trans (mm_ite ((ev_iconst 23 (v := 0) dX0_perform_22 rfl rfl).trans (ev_iret dX0_perform_23 rfl)) ((ev_iload_n 14 dX0_perform_13 rfl rfl).trans ((ev_if_lt 22 17 dX0_perform_14 rfl rfl).trans (mm_ite ((ev_iconst 23 (v := 0) dX0_perform_22 rfl rfl).trans (ev_iret dX0_perform_23 rfl)) ((ev_iload_n 18 dX0_perform_17 rfl rfl).trans ((ev_iconst 19 (v := 4) dX0_perform_18 rfl rfl).trans ((ev_ic_lt 24 22 dX0_perform_19 rfl rfl).trans (mm_ite ((ev_aload_n 25 dX0_perform_24 rfl rfl).trans ((ev_iload_n 26 dX0_perform_25 rfl rfl).trans ((ev_putI 29 4 dX0_perform_26 fl_0_32 oc10 ak10 rfl rfl rfl).trans ((ev_aload_n 30 dX0_perform_29 rfl rfl).trans ((ev_iload_n 31 dX0_perform_30 rfl rfl).trans ((ev_iload_n 32 dX0_perform_31 rfl rfl).trans ((ev_iconst 33 (v := 0) dX0_perform_32 rfl rfl).trans (ev_callv mX0_own [vR 10, vI a2, vI a3, vI 0] [] 36 dX0_perform_33 ml_0_35 k4 rfl oc10 ak10 rfl rfl (Nat.le_of_ble_eq_true rfl) (Nat.le_of_ble_eq_true rfl) rfl)))))))) ((ev_iconst 23 (v := 0) dX0_perform_22 rfl rfl).trans (ev_iret dX0_perform_23 rfl))))))))))
theorem X0_perform_36 (h : mm_M) (a1 : Int) (a2 : Int) (a3 : Int) (s0 : Int) : mm_ev mX0_perform 161 36 [some (vR 10), some (vI a1), some (vI a2), some (vI a3)] [vI s0] h = some ([vI s0], h) := ev_iret dX0_perform_36 rfl
theorem dX0_own_0 : decode mX0_own.1 0 = .ok (.aload_n 0, 1) := by decide +kernel
theorem dX0_own_1 : decode mX0_own.1 1 = .ok (.aload_n 0, 1) := by decide +kernel
theorem dX0_own_2 : decode mX0_own.1 2 = .ok (.aload_n 0, 1) := by decide +kernel
theorem dX0_own_3 : decode mX0_own.1 3 = .ok (.getfield 32, 3) := by decide +kernel
theorem dX0_own_6 : decode mX0_own.1 6 = .ok (.invokevirtual 28, 3) := by decide +kernel
theorem dX0_own_9 : decode mX0_own.1 9 = .ok (.iload_n 1, 1) := by decide +kernel
theorem dX0_own_10 : decode mX0_own.1 10 = .ok (.iload_n 2, 1) := by decide +kernel
theorem dX0_own_11 : decode mX0_own.1 11 = .ok (.iload_n 3, 1) := by decide +kernel
theorem dX0_own_12 : decode mX0_own.1 12 = .ok (.invokevirtual 39, 3) := by decide +kernel
theorem dX0_own_15 : decode mX0_own.1 15 = .ok (.ireturn, 1) := by decide +kernel
theorem X0_own_0 (h : mm_M) (r : Nat) (a1 : Int) (a2 : Int) (a3 : Int) : mm_ev mX0_own r 0 [some (vR 10), some (vI a1), some (vI a2), some (vI a3)] [] h = if 1 < r then (mm_call mX0_kindOf [vR 10, vI (h 10 4)] h).bind (fun w => mm_ev mX0_own r 9 [some (vR 10), some (vI a1), some (vI a2), some (vI a3)] (w.1 ++ [vR 10]) w.2) else none := (ev_aload_n 1 dX0_own_0 rfl rfl).trans ((ev_aload_n 2 dX0_own_1 rfl rfl).trans ((ev_aload_n 3 dX0_own_2 rfl rfl).trans ((ev_getI 6 4 dX0_own_3 fl_0_32 oc10 ak10 (by decide) rfl rfl).trans (ev_callv mX0_kindOf [vR 10, vI (h 10 4)] [vR 10] 9 dX0_own_6 ml_0_28 k1 rfl oc10 ak10 rfl rfl (Nat.le_of_ble_eq_true rfl) (Nat.le_of_ble_eq_true rfl) rfl))))
theorem X0_own_c (h : mm_M) (a1 : Int) (a2 : Int) (a3 : Int) : mm_call mX0_own [vR 10, vI a1, vI a2, vI a3] h = mm_ev mX0_own (10 + (3 * (42 - a3) + 2 : Int).toNat) 0 [some (vR 10), some (vI a1), some (vI a2), some (vI a3)] [] h := rfl
theorem X0_own_9 (h : mm_M) (r : Nat) (a1 : Int) (a2 : Int) (a3 : Int) (s0 : Int) : mm_ev mX0_own r 9 [some (vR 10), some (vI a1), some (vI a2), some (vI a3)] [vI s0, vR 10] h = if 10 + (3 * (42 - a3) + 1 : Int).toNat < r then (mm_call mX0_runFrom [vR 10, vI s0, vI a1, vI a2, vI a3] h).bind (fun w => mm_ev mX0_own r 15 [some (vR 10), some (vI a1), some (vI a2), some (vI a3)] (w.1 ++ []) w.2) else none := (ev_iload_n 10 dX0_own_9 rfl rfl).trans ((ev_iload_n 11 dX0_own_10 rfl rfl).trans ((ev_iload_n 12 dX0_own_11 rfl rfl).trans (ev_callv mX0_runFrom [vR 10, vI s0, vI a1, vI a2, vI a3] [] 15 dX0_own_12 ml_0_39 k5 rfl oc10 ak10 rfl rfl (Nat.le_of_ble_eq_true rfl) (Nat.le_of_ble_eq_true rfl) rfl)))
theorem X0_own_15 (h : mm_M) (r : Nat) (a1 : Int) (a2 : Int) (a3 : Int) (s0 : Int) : mm_ev mX0_own r 15 [some (vR 10), some (vI a1), some (vI a2), some (vI a3)] [vI s0] h = some ([vI s0], h) := ev_iret dX0_own_15 rfl
theorem dX0_runFrom_0 : decode mX0_runFrom.1 0 = .ok (.iload_n 1, 1) := by decide +kernel
theorem dX0_runFrom_1 : decode mX0_runFrom.1 1 = .ok (.istore 5, 2) := by decide +kernel
theorem dX0_runFrom_3 : decode mX0_runFrom.1 3 = .ok (.iconst 0, 1) := by decide +kernel
theorem dX0_runFrom_4 : decode mX0_runFrom.1 4 = .ok (.istore 6, 2) := by decide +kernel
theorem dX0_runFrom_6 : decode mX0_runFrom.1 6 = .ok (.iload 6, 2) := by decide +kernel
theorem dX0_runFrom_8 : decode mX0_runFrom.1 8 = .ok (.bipush 8, 2) := by decide +kernel
theorem dX0_runFrom_10 : decode mX0_runFrom.1 10 = .ok (.if_icmp .ge 35, 3) := by decide +kernel
theorem dX0_runFrom_13 : decode mX0_runFrom.1 13 = .ok (.iload 5, 2) := by decide +kernel
theorem dX0_runFrom_15 : decode mX0_runFrom.1 15 = .ok (.ifCond .lt 30, 3) := by decide +kernel
theorem dX0_runFrom_18 : decode mX0_runFrom.1 18 = .ok (.getstatic 43, 3) := by decide +kernel
theorem dX0_runFrom_21 : decode mX0_runFrom.1 21 = .ok (.iload 5, 2) := by decide +kernel
theorem dX0_runFrom_23 : decode mX0_runFrom.1 23 = .ok (.iconst 4, 1) := by decide +kernel
theorem dX0_runFrom_24 : decode mX0_runFrom.1 24 = .ok (.imul, 1) := by decide +kernel
theorem dX0_runFrom_25 : decode mX0_runFrom.1 25 = .ok (.iload_n 2, 1) := by decide +kernel
theorem dX0_runFrom_26 : decode mX0_runFrom.1 26 = .ok (.iadd, 1) := by decide +kernel
theorem dX0_runFrom_27 : decode mX0_runFrom.1 27 = .ok (.iaload, 1) := by decide +kernel
theorem dX0_runFrom_28 : decode mX0_runFrom.1 28 = .ok (.ifCond .ne 17, 3) := by decide +kernel
theorem dX0_runFrom_31 : decode mX0_runFrom.1 31 = .ok (.getstatic 22, 3) := by decide +kernel
theorem dX0_runFrom_34 : decode mX0_runFrom.1 34 = .ok (.iload 5, 2) := by decide +kernel
theorem dX0_runFrom_36 : decode mX0_runFrom.1 36 = .ok (.iaload, 1) := by decide +kernel
theorem dX0_runFrom_37 : decode mX0_runFrom.1 37 = .ok (.istore 5, 2) := by decide +kernel
theorem dX0_runFrom_39 : decode mX0_runFrom.1 39 = .ok (.iinc 6 1, 3) := by decide +kernel
theorem dX0_runFrom_42 : decode mX0_runFrom.1 42 = .ok (.goto (-36), 3) := by decide +kernel
theorem dX0_runFrom_45 : decode mX0_runFrom.1 45 = .ok (.iload 5, 2) := by decide +kernel
theorem dX0_runFrom_47 : decode mX0_runFrom.1 47 = .ok (.ifCond .lt 10, 3) := by decide +kernel
theorem dX0_runFrom_50 : decode mX0_runFrom.1 50 = .ok (.iload 4, 2) := by decide +kernel
theorem dX0_runFrom_52 : decode mX0_runFrom.1 52 = .ok (.bipush 40, 2) := by decide +kernel
theorem dX0_runFrom_54 : decode mX0_runFrom.1 54 = .ok (.if_icmp .lt 5, 3) := by decide +kernel
theorem dX0_runFrom_57 : decode mX0_runFrom.1 57 = .ok (.iconst 0, 1) := by decide +kernel
theorem dX0_runFrom_58 : decode mX0_runFrom.1 58 = .ok (.ireturn, 1) := by decide +kernel
theorem dX0_runFrom_59 : decode mX0_runFrom.1 59 = .ok (.getstatic 43, 3) := by decide +kernel
theorem dX0_runFrom_62 : decode mX0_runFrom.1 62 = .ok (.iload 5, 2) := by decide +kernel
theorem dX0_runFrom_64 : decode mX0_runFrom.1 64 = .ok (.iconst 4, 1) := by decide +kernel
theorem dX0_runFrom_65 : decode mX0_runFrom.1 65 = .ok (.imul, 1) := by decide +kernel
theorem dX0_runFrom_66 : decode mX0_runFrom.1 66 = .ok (.iload_n 2, 1) := by decide +kernel
theorem dX0_runFrom_67 : decode mX0_runFrom.1 67 = .ok (.iadd, 1) := by decide +kernel
theorem dX0_runFrom_68 : decode mX0_runFrom.1 68 = .ok (.iaload, 1) := by decide +kernel
theorem dX0_runFrom_69 : decode mX0_runFrom.1 69 = .ok (.istore 6, 2) := by decide +kernel
theorem dX0_runFrom_71 : decode mX0_runFrom.1 71 = .ok (.aload_n 0, 1) := by decide +kernel
theorem dX0_runFrom_72 : decode mX0_runFrom.1 72 = .ok (.getfield 25, 3) := by decide +kernel
theorem dX0_runFrom_75 : decode mX0_runFrom.1 75 = .ok (.bipush 24, 2) := by decide +kernel
theorem dX0_runFrom_77 : decode mX0_runFrom.1 77 = .ok (.if_icmp .ge 14, 3) := by decide +kernel
theorem dX0_runFrom_80 : decode mX0_runFrom.1 80 = .ok (.aload_n 0, 1) := by decide +kernel
theorem dX0_runFrom_81 : decode mX0_runFrom.1 81 = .ok (.getfield 11, 3) := by decide +kernel
theorem dX0_runFrom_84 : decode mX0_runFrom.1 84 = .ok (.aload_n 0, 1) := by decide +kernel
theorem dX0_runFrom_85 : decode mX0_runFrom.1 85 = .ok (.getfield 25, 3) := by decide +kernel
theorem dX0_runFrom_88 : decode mX0_runFrom.1 88 = .ok (.iload 6, 2) := by decide +kernel
theorem dX0_runFrom_90 : decode mX0_runFrom.1 90 = .ok (.iastore, 1) := by decide +kernel
theorem dX0_runFrom_91 : decode mX0_runFrom.1 91 = .ok (.aload_n 0, 1) := by decide +kernel
theorem dX0_runFrom_92 : decode mX0_runFrom.1 92 = .ok (.dup, 1) := by decide +kernel
theorem dX0_runFrom_93 : decode mX0_runFrom.1 93 = .ok (.getfield 25, 3) := by decide +kernel
theorem dX0_runFrom_96 : decode mX0_runFrom.1 96 = .ok (.iconst 1, 1) := by decide +kernel
theorem dX0_runFrom_97 : decode mX0_runFrom.1 97 = .ok (.iadd, 1) := by decide +kernel
theorem dX0_runFrom_98 : decode mX0_runFrom.1 98 = .ok (.putfield 25, 3) := by decide +kernel
theorem dX0_runFrom_101 : decode mX0_runFrom.1 101 = .ok (.iload 5, 2) := by decide +kernel
theorem dX0_runFrom_103 : decode mX0_runFrom.1 103 = .ok (.ifCond .ne 17, 3) := by decide +kernel
theorem dX0_runFrom_106 : decode mX0_runFrom.1 106 = .ok (.aload_n 0, 1) := by decide +kernel
theorem dX0_runFrom_107 : decode mX0_runFrom.1 107 = .ok (.iload 6, 2) := by decide +kernel
theorem dX0_runFrom_109 : decode mX0_runFrom.1 109 = .ok (.iload_n 3, 1) := by decide +kernel
theorem dX0_runFrom_110 : decode mX0_runFrom.1 110 = .ok (.iload 4, 2) := by decide +kernel
theorem dX0_runFrom_112 : decode mX0_runFrom.1 112 = .ok (.iconst 1, 1) := by decide +kernel
theorem dX0_runFrom_113 : decode mX0_runFrom.1 113 = .ok (.iadd, 1) := by decide +kernel
theorem dX0_runFrom_114 : decode mX0_runFrom.1 114 = .ok (.invokevirtual 46, 3) := by decide +kernel
theorem dX0_runFrom_117 : decode mX0_runFrom.1 117 = .ok (.goto 20, 3) := by decide +kernel
theorem dX0_runFrom_120 : decode mX0_runFrom.1 120 = .ok (.aload_n 0, 1) := by decide +kernel
theorem dX0_runFrom_121 : decode mX0_runFrom.1 121 = .ok (.iload 6, 2) := by decide +kernel
theorem dX0_runFrom_123 : decode mX0_runFrom.1 123 = .ok (.getstatic 22, 3) := by decide +kernel
theorem dX0_runFrom_126 : decode mX0_runFrom.1 126 = .ok (.iload 5, 2) := by decide +kernel
theorem dX0_runFrom_128 : decode mX0_runFrom.1 128 = .ok (.iaload, 1) := by decide +kernel
theorem dX0_runFrom_129 : decode mX0_runFrom.1 129 = .ok (.iload_n 3, 1) := by decide +kernel
theorem dX0_runFrom_130 : decode mX0_runFrom.1 130 = .ok (.iload 4, 2) := by decide +kernel
theorem dX0_runFrom_132 : decode mX0_runFrom.1 132 = .ok (.iconst 1, 1) := by decide +kernel
theorem dX0_runFrom_133 : decode mX0_runFrom.1 133 = .ok (.iadd, 1) := by decide +kernel
theorem dX0_runFrom_134 : decode mX0_runFrom.1 134 = .ok (.invokevirtual 49, 3) := by decide +kernel
theorem dX0_runFrom_137 : decode mX0_runFrom.1 137 = .ok (.ireturn, 1) := by decide +kernel
theorem X0_runFrom_0 (h : mm_M) (r : Nat) (a1 : Int) (a2 : Int) (a3 : Int) (a4 : Int) : mm_ev mX0_runFrom r 0 [some (vR 10), some (vI a1), some (vI a2), some (vI a3), some (vI a4), none, none] [] h = mm_ev mX0_runFrom r 6 [some (vR 10), some (vI a1), some (vI a2), some (vI a3), some (vI a4), some (vI a1), some (vI 0)] [] h := (ev_iload_n 1 dX0_runFrom_0 rfl rfl).trans ((ev_istore 3 [some (vR 10), some (vI a1), some (vI a2), some (vI a3), some (vI a4), some (vI a1), none] dX0_runFrom_1 rfl rfl).trans ((ev_iconst 4 (v := 0) dX0_runFrom_3 rfl rfl).trans (ev_istore 6 [some (vR 10), some (vI a1), some (vI a2), some (vI a3), some (vI a4), some (vI a1), some (vI 0)] dX0_runFrom_4 rfl rfl)))
theorem X0_runFrom_c (h : mm_M) (a1 : Int) (a2 : Int) (a3 : Int) (a4 : Int) : mm_call mX0_runFrom [vR 10, vI a1, vI a2, vI a3, vI a4] h = mm_ev mX0_runFrom (10 + (3 * (42 - a4) + 1 : Int).toNat) 0 [some (vR 10), some (vI a1), some (vI a2), some (vI a3), some (vI a4), none, none] [] h := rfl
theorem X0_runFrom_6 (h : mm_M) (r : Nat) (a1 : Int) (a2 : Int) (a3 : Int) (a4 : Int) (a5 : Int) (a6 : Int) : mm_ev mX0_runFrom r 6 [some (vR 10), some (vI a1), some (vI a2), some (vI a3), some (vI a4), some (vI a5), some (vI a6)] [] h = if 8 ≤ a6 then mm_ev mX0_runFrom r 45 [some (vR 10), some (vI a1), some (vI a2), some (vI a3), some (vI a4), some (vI a5), some (vI a6)] [] h else if a5 < 0 then mm_ev mX0_runFrom r 45 [some (vR 10), some (vI a1), some (vI a2), some (vI a3), some (vI a4), some (vI a5), some (vI a6)] [] h else if 0 ≤ (w32 ((w32 (a5 * 4)) + a2)) ∧ (w32 ((w32 (a5 * 4)) + a2)) < 32 then if ¬ (mm_ct 105 (w32 ((w32 (a5 * 4)) + a2))) = 0 then mm_ev mX0_runFrom r 45 [some (vR 10), some (vI a1), some (vI a2), some (vI a3), some (vI a4), some (vI a5), some (vI a6)] [] h else if 0 ≤ a5 ∧ a5 < 8 then mm_ev mX0_runFrom r 6 [some (vR 10), some (vI a1), some (vI a2), some (vI a3), some (vI a4), some (vI (mm_ct 104 a5)), some (vI (w32 (a6 + 1)))] [] h else none else none := (ev_iload 8 dX0_runFrom_6 rfl rfl).trans ((ev_bipush 10 (v := 8) dX0_runFrom_8 rfl rfl).trans ((ev_ic_ge 45 13 dX0_runFrom_10 rfl rfl).trans (mm_ite (rfl) ((ev_iload 15 dX0_runFrom_13 rfl rfl).trans ((ev_if_lt 45 18 dX0_runFrom_15 rfl rfl).trans (mm_ite (rfl) ((ev_gets 21 105 dX0_runFrom_18 st_0_43 rfl).trans ((ev_iload 23 dX0_runFrom_21 rfl rfl).trans ((ev_iconst 24 (v := 4) dX0_runFrom_23 rfl rfl).trans ((ev_imul 25 dX0_runFrom_24 rfl).trans ((ev_iload_n 26 dX0_runFrom_25 rfl rfl).trans ((ev_iadd 27 dX0_runFrom_26 rfl).trans ((ev_ialdC 28 32 dX0_runFrom_27 ak105 an105 rfl).trans (mm_ite ((ev_if_ne 45 31 dX0_runFrom_28 rfl rfl).trans (mm_ite (rfl) ((ev_gets 34 104 dX0_runFrom_31 st_0_22 rfl).trans ((ev_iload 36 dX0_runFrom_34 rfl rfl).trans ((ev_ialdC 37 8 dX0_runFrom_36 ak104 an104 rfl).trans (mm_ite ((ev_istore 39 [some (vR 10), some (vI a1), some (vI a2), some (vI a3), some (vI a4), some (vI (mm_ct 104 a5)), some (vI a6)] dX0_runFrom_37 rfl rfl).trans ((ev_iinc 42 [some (vR 10), some (vI a1), some (vI a2), some (vI a3), some (vI a4), some (vI (mm_ct 104 a5)), some (vI (w32 (a6 + 1)))] dX0_runFrom_39 rfl rfl rfl).trans (ev_goto 6 dX0_runFrom_42 rfl))) (rfl))))))) (rfl)))))))))))))))
theorem X0_runFrom_45 (h : mm_M) (r : Nat) (a1 : Int) (a2 : Int) (a3 : Int) (a4 : Int) (a5 : Int) (a6 : Int) : mm_ev mX0_runFrom r 45 [some (vR 10), some (vI a1), some (vI a2), some (vI a3), some (vI a4), some (vI a5), some (vI a6)] [] h = if a5 < 0 then some ([vI 0], h) else if a4 < 40 then if 0 ≤ (w32 ((w32 (a5 * 4)) + a2)) ∧ (w32 ((w32 (a5 * 4)) + a2)) < 32 then if 24 ≤ (h 10 1) then mm_ev mX0_runFrom r 91 [some (vR 10), some (vI a1), some (vI a2), some (vI a3), some (vI a4), some (vI a5), some (vI (mm_ct 105 (w32 ((w32 (a5 * 4)) + a2))))] [] h else if 0 ≤ (h 10 1) ∧ (h 10 1) < 24 then mm_ev mX0_runFrom r 91 [some (vR 10), some (vI a1), some (vI a2), some (vI a3), some (vI a4), some (vI a5), some (vI (mm_ct 105 (w32 ((w32 (a5 * 4)) + a2))))] [] (mUp h 45 (h 10 1) (mm_ct 105 (w32 ((w32 (a5 * 4)) + a2)))) else none else none else some ([vI 0], h) := (ev_iload 47 dX0_runFrom_45 rfl rfl).trans ((ev_if_lt 57 50 dX0_runFrom_47 rfl rfl).trans (mm_ite ((ev_iconst 58 (v := 0) dX0_runFrom_57 rfl rfl).trans (ev_iret dX0_runFrom_58 rfl)) ((ev_iload 52 dX0_runFrom_50 rfl rfl).trans ((ev_bipush 54 (v := 40) dX0_runFrom_52 rfl rfl).trans ((ev_ic_lt 59 57 dX0_runFrom_54 rfl rfl).trans (mm_ite ((ev_gets 62 105 dX0_runFrom_59 st_0_43 rfl).trans ((ev_iload 64 dX0_runFrom_62 rfl rfl).trans ((ev_iconst 65 (v := 4) dX0_runFrom_64 rfl rfl).trans ((ev_imul 66 dX0_runFrom_65 rfl).trans ((ev_iload_n 67 dX0_runFrom_66 rfl rfl).trans ((ev_iadd 68 dX0_runFrom_67 rfl).trans ((ev_ialdC 69 32 dX0_runFrom_68 ak105 an105 rfl).trans (mm_ite ((ev_istore 71 [some (vR 10), some (vI a1), some (vI a2), some (vI a3), some (vI a4), some (vI a5), some (vI (mm_ct 105 (w32 ((w32 (a5 * 4)) + a2))))] dX0_runFrom_69 rfl rfl).trans ((ev_aload_n 72 dX0_runFrom_71 rfl rfl).trans ((ev_getI 75 1 dX0_runFrom_72 fl_0_25 oc10 ak10 (by decide) rfl rfl).trans ((ev_bipush 77 (v := 24) dX0_runFrom_75 rfl rfl).trans ((ev_ic_ge 91 80 dX0_runFrom_77 rfl rfl).trans (mm_ite (rfl) ((ev_aload_n 81 dX0_runFrom_80 rfl rfl).trans ((ev_getF 84 45 dX0_runFrom_81 fl_0_11 oc10 ak10 rfl rf_10_2 rfl).trans ((ev_aload_n 85 dX0_runFrom_84 rfl rfl).trans ((ev_getI 88 1 dX0_runFrom_85 fl_0_25 oc10 ak10 (by decide) rfl rfl).trans ((ev_iload 90 dX0_runFrom_88 rfl rfl).trans (ev_iast 91 24 dX0_runFrom_90 ak45 an45 rfl)))))))))))) (rfl))))))))) ((ev_iconst 58 (v := 0) dX0_runFrom_57 rfl rfl).trans (ev_iret dX0_runFrom_58 rfl))))))))
theorem X0_runFrom_91 (h : mm_M) (r : Nat) (a1 : Int) (a2 : Int) (a3 : Int) (a4 : Int) (a5 : Int) (a6 : Int) : mm_ev mX0_runFrom r 91 [some (vR 10), some (vI a1), some (vI a2), some (vI a3), some (vI a4), some (vI a5), some (vI a6)] [] h = if ¬ a5 = 0 then if 0 ≤ a5 ∧ a5 < 8 then if 10 + (3 * (42 - (w32 (a4 + 1))) + 3 : Int).toNat < r then (mm_call mX0_runUnderWord [vR 10, vI a6, vI (mm_ct 104 a5), vI a3, vI (w32 (a4 + 1))] (mUp h 10 1 (w32 ((h 10 1) + 1)))).bind (fun w => mm_ev mX0_runFrom r 137 [some (vR 10), some (vI a1), some (vI a2), some (vI a3), some (vI a4), some (vI a5), some (vI a6)] (w.1 ++ []) w.2) else none else none else if 10 + (3 * (42 - (w32 (a4 + 1))) + 3 : Int).toNat < r then (mm_call mX0_runOfWord [vR 10, vI a6, vI a3, vI (w32 (a4 + 1))] (mUp h 10 1 (w32 ((h 10 1) + 1)))).bind (fun w => mm_ev mX0_runFrom r 117 [some (vR 10), some (vI a1), some (vI a2), some (vI a3), some (vI a4), some (vI a5), some (vI a6)] (w.1 ++ []) w.2) else none := (ev_aload_n 92 dX0_runFrom_91 rfl rfl).trans ((ev_dup 93 dX0_runFrom_92 rfl rfl).trans ((ev_getI 96 1 dX0_runFrom_93 fl_0_25 oc10 ak10 (by decide) rfl rfl).trans ((ev_iconst 97 (v := 1) dX0_runFrom_96 rfl rfl).trans ((ev_iadd 98 dX0_runFrom_97 rfl).trans ((ev_putI 101 1 dX0_runFrom_98 fl_0_25 oc10 ak10 rfl rfl rfl).trans ((ev_iload 103 dX0_runFrom_101 rfl rfl).trans ((ev_if_ne 120 106 dX0_runFrom_103 rfl rfl).trans (mm_ite ((ev_aload_n 121 dX0_runFrom_120 rfl rfl).trans ((ev_iload 123 dX0_runFrom_121 rfl rfl).trans ((ev_gets 126 104 dX0_runFrom_123 st_0_22 rfl).trans ((ev_iload 128 dX0_runFrom_126 rfl rfl).trans ((ev_ialdC 129 8 dX0_runFrom_128 ak104 an104 rfl).trans (mm_ite ((ev_iload_n 130 dX0_runFrom_129 rfl rfl).trans ((ev_iload 132 dX0_runFrom_130 rfl rfl).trans ((ev_iconst 133 (v := 1) dX0_runFrom_132 rfl rfl).trans ((ev_iadd 134 dX0_runFrom_133 rfl).trans (ev_callv mX0_runUnderWord [vR 10, vI a6, vI (mm_ct 104 a5), vI a3, vI (w32 (a4 + 1))] [] 137 dX0_runFrom_134 ml_0_49 k7 rfl oc10 ak10 rfl rfl (Nat.le_of_ble_eq_true rfl) (Nat.le_of_ble_eq_true rfl) rfl))))) (rfl))))))) ((ev_aload_n 107 dX0_runFrom_106 rfl rfl).trans ((ev_iload 109 dX0_runFrom_107 rfl rfl).trans ((ev_iload_n 110 dX0_runFrom_109 rfl rfl).trans ((ev_iload 112 dX0_runFrom_110 rfl rfl).trans ((ev_iconst 113 (v := 1) dX0_runFrom_112 rfl rfl).trans ((ev_iadd 114 dX0_runFrom_113 rfl).trans (ev_callv mX0_runOfWord [vR 10, vI a6, vI a3, vI (w32 (a4 + 1))] [] 117 dX0_runFrom_114 ml_0_46 k6 rfl oc10 ak10 rfl rfl (Nat.le_of_ble_eq_true rfl) (Nat.le_of_ble_eq_true rfl) rfl)))))))))))))))
theorem X0_runFrom_117 (h : mm_M) (r : Nat) (a1 : Int) (a2 : Int) (a3 : Int) (a4 : Int) (a5 : Int) (a6 : Int) (s0 : Int) : mm_ev mX0_runFrom r 117 [some (vR 10), some (vI a1), some (vI a2), some (vI a3), some (vI a4), some (vI a5), some (vI a6)] [vI s0] h = mm_ev mX0_runFrom r 137 [some (vR 10), some (vI a1), some (vI a2), some (vI a3), some (vI a4), some (vI a5), some (vI a6)] [vI s0] h := ev_goto 137 dX0_runFrom_117 rfl
theorem X0_runFrom_137 (h : mm_M) (r : Nat) (a1 : Int) (a2 : Int) (a3 : Int) (a4 : Int) (a5 : Int) (a6 : Int) (s0 : Int) : mm_ev mX0_runFrom r 137 [some (vR 10), some (vI a1), some (vI a2), some (vI a3), some (vI a4), some (vI a5), some (vI a6)] [vI s0] h = some ([vI s0], h) := ev_iret dX0_runFrom_137 rfl
theorem dX0_runOfWord_0 : decode mX0_runOfWord.1 0 = .ok (.iload_n 1, 1) := by decide +kernel
theorem dX0_runOfWord_1 : decode mX0_runOfWord.1 1 = .ok (.lookupswitch 59 #[(1, 35), (10, 42), (11, 52)], 35) := by decide +kernel
theorem dX0_runOfWord_36 : decode mX0_runOfWord.1 36 = .ok (.iload_n 2, 1) := by decide +kernel
theorem dX0_runOfWord_37 : decode mX0_runOfWord.1 37 = .ok (.aload_n 0, 1) := by decide +kernel
theorem dX0_runOfWord_38 : decode mX0_runOfWord.1 38 = .ok (.getfield 32, 3) := by decide +kernel
theorem dX0_runOfWord_41 : decode mX0_runOfWord.1 41 = .ok (.iadd, 1) := by decide +kernel
theorem dX0_runOfWord_42 : decode mX0_runOfWord.1 42 = .ok (.ireturn, 1) := by decide +kernel
theorem dX0_runOfWord_43 : decode mX0_runOfWord.1 43 = .ok (.aload_n 0, 1) := by decide +kernel
theorem dX0_runOfWord_44 : decode mX0_runOfWord.1 44 = .ok (.iconst 0, 1) := by decide +kernel
theorem dX0_runOfWord_45 : decode mX0_runOfWord.1 45 = .ok (.iload_n 2, 1) := by decide +kernel
theorem dX0_runOfWord_46 : decode mX0_runOfWord.1 46 = .ok (.iload_n 3, 1) := by decide +kernel
theorem dX0_runOfWord_47 : decode mX0_runOfWord.1 47 = .ok (.invokevirtual 35, 3) := by decide +kernel
theorem dX0_runOfWord_50 : decode mX0_runOfWord.1 50 = .ok (.iconst 2, 1) := by decide +kernel
theorem dX0_runOfWord_51 : decode mX0_runOfWord.1 51 = .ok (.imul, 1) := by decide +kernel
theorem dX0_runOfWord_52 : decode mX0_runOfWord.1 52 = .ok (.ireturn, 1) := by decide +kernel
theorem dX0_runOfWord_53 : decode mX0_runOfWord.1 53 = .ok (.iload_n 2, 1) := by decide +kernel
theorem dX0_runOfWord_54 : decode mX0_runOfWord.1 54 = .ok (.aload_n 0, 1) := by decide +kernel
theorem dX0_runOfWord_55 : decode mX0_runOfWord.1 55 = .ok (.getfield 32, 3) := by decide +kernel
theorem dX0_runOfWord_58 : decode mX0_runOfWord.1 58 = .ok (.ixor, 1) := by decide +kernel
theorem dX0_runOfWord_59 : decode mX0_runOfWord.1 59 = .ok (.ireturn, 1) := by decide +kernel
theorem dX0_runOfWord_60 : decode mX0_runOfWord.1 60 = .ok (.aload_n 0, 1) := by decide +kernel
theorem dX0_runOfWord_61 : decode mX0_runOfWord.1 61 = .ok (.iconst 1, 1) := by decide +kernel
theorem dX0_runOfWord_62 : decode mX0_runOfWord.1 62 = .ok (.iload_n 2, 1) := by decide +kernel
theorem dX0_runOfWord_63 : decode mX0_runOfWord.1 63 = .ok (.iload_n 3, 1) := by decide +kernel
theorem dX0_runOfWord_64 : decode mX0_runOfWord.1 64 = .ok (.invokevirtual 35, 3) := by decide +kernel
theorem dX0_runOfWord_67 : decode mX0_runOfWord.1 67 = .ok (.aload_n 0, 1) := by decide +kernel
theorem dX0_runOfWord_68 : decode mX0_runOfWord.1 68 = .ok (.iconst 2, 1) := by decide +kernel
theorem dX0_runOfWord_69 : decode mX0_runOfWord.1 69 = .ok (.iconst 1, 1) := by decide +kernel
theorem dX0_runOfWord_70 : decode mX0_runOfWord.1 70 = .ok (.iload_n 3, 1) := by decide +kernel
theorem dX0_runOfWord_71 : decode mX0_runOfWord.1 71 = .ok (.invokevirtual 35, 3) := by decide +kernel
theorem dX0_runOfWord_74 : decode mX0_runOfWord.1 74 = .ok (.isub, 1) := by decide +kernel
theorem dX0_runOfWord_75 : decode mX0_runOfWord.1 75 = .ok (.ireturn, 1) := by decide +kernel
theorem X0_runOfWord_0 (h : mm_M) (r : Nat) (a1 : Int) (a2 : Int) (a3 : Int) : mm_ev mX0_runOfWord r 0 [some (vR 10), some (vI a1), some (vI a2), some (vI a3)] [] h = if a1 = 1 then some ([vI (w32 (a2 + (h 10 4)))], h) else if a1 = 10 then if 10 + (3 * (42 - a3) + 2 : Int).toNat < r then (mm_call mX0_own [vR 10, vI 0, vI a2, vI a3] h).bind (fun w => mm_ev mX0_runOfWord r 50 [some (vR 10), some (vI a1), some (vI a2), some (vI a3)] (w.1 ++ []) w.2) else none else if a1 = 11 then some ([vI (iXor a2 (h 10 4))], h) else if 10 + (3 * (42 - a3) + 2 : Int).toNat < r then (mm_call mX0_own [vR 10, vI 1, vI a2, vI a3] h).bind (fun w => mm_ev mX0_runOfWord r 67 [some (vR 10), some (vI a1), some (vI a2), some (vI a3)] (w.1 ++ []) w.2) else none := (ev_iload_n 1 dX0_runOfWord_0 rfl rfl).trans (ev_lookC (k := 1) (fun z0 => (ev_lookK 36 (k := 1) dX0_runOfWord_1 rfl z0 rfl rfl).trans ((ev_iload_n 37 dX0_runOfWord_36 rfl rfl).trans ((ev_aload_n 38 dX0_runOfWord_37 rfl rfl).trans ((ev_getI 41 4 dX0_runOfWord_38 fl_0_32 oc10 ak10 (by decide) rfl rfl).trans ((ev_iadd 42 dX0_runOfWord_41 rfl).trans (ev_iret dX0_runOfWord_42 rfl)))))) (fun n0 => ev_lookC (k := 10) (fun z1 => (ev_lookK 43 (k := 10) dX0_runOfWord_1 rfl z1 rfl rfl).trans ((ev_aload_n 44 dX0_runOfWord_43 rfl rfl).trans ((ev_iconst 45 (v := 0) dX0_runOfWord_44 rfl rfl).trans ((ev_iload_n 46 dX0_runOfWord_45 rfl rfl).trans ((ev_iload_n 47 dX0_runOfWord_46 rfl rfl).trans (ev_callv mX0_own [vR 10, vI 0, vI a2, vI a3] [] 50 dX0_runOfWord_47 ml_0_35 k4 rfl oc10 ak10 rfl rfl (Nat.le_of_ble_eq_true rfl) (Nat.le_of_ble_eq_true rfl) rfl)))))) (fun n1 => ev_lookC (k := 11) (fun z2 => (ev_lookK 53 (k := 11) dX0_runOfWord_1 rfl z2 rfl rfl).trans ((ev_iload_n 54 dX0_runOfWord_53 rfl rfl).trans ((ev_aload_n 55 dX0_runOfWord_54 rfl rfl).trans ((ev_getI 58 4 dX0_runOfWord_55 fl_0_32 oc10 ak10 (by decide) rfl rfl).trans ((ev_ixor 59 dX0_runOfWord_58 rfl).trans (ev_iret dX0_runOfWord_59 rfl)))))) (fun n2 => (ev_look 60 dX0_runOfWord_1 rfl (by simp only [Op.lookupswitch.offset]; rw [if_neg (fun w => n0 w.symm)]; rw [if_neg (fun w => n1 w.symm)]; rw [if_neg (fun w => n2 w.symm)]; rfl)).trans ((ev_aload_n 61 dX0_runOfWord_60 rfl rfl).trans ((ev_iconst 62 (v := 1) dX0_runOfWord_61 rfl rfl).trans ((ev_iload_n 63 dX0_runOfWord_62 rfl rfl).trans ((ev_iload_n 64 dX0_runOfWord_63 rfl rfl).trans (ev_callv mX0_own [vR 10, vI 1, vI a2, vI a3] [] 67 dX0_runOfWord_64 ml_0_35 k4 rfl oc10 ak10 rfl rfl (Nat.le_of_ble_eq_true rfl) (Nat.le_of_ble_eq_true rfl) rfl)))))))))
theorem X0_runOfWord_c (h : mm_M) (a1 : Int) (a2 : Int) (a3 : Int) : mm_call mX0_runOfWord [vR 10, vI a1, vI a2, vI a3] h = mm_ev mX0_runOfWord (10 + (3 * (42 - a3) + 3 : Int).toNat) 0 [some (vR 10), some (vI a1), some (vI a2), some (vI a3)] [] h := rfl
theorem X0_runOfWord_50 (h : mm_M) (r : Nat) (a1 : Int) (a2 : Int) (a3 : Int) (s0 : Int) : mm_ev mX0_runOfWord r 50 [some (vR 10), some (vI a1), some (vI a2), some (vI a3)] [vI s0] h = some ([vI (w32 (s0 * 2))], h) := (ev_iconst 51 (v := 2) dX0_runOfWord_50 rfl rfl).trans ((ev_imul 52 dX0_runOfWord_51 rfl).trans (ev_iret dX0_runOfWord_52 rfl))
theorem X0_runOfWord_67 (h : mm_M) (r : Nat) (a1 : Int) (a2 : Int) (a3 : Int) (s0 : Int) : mm_ev mX0_runOfWord r 67 [some (vR 10), some (vI a1), some (vI a2), some (vI a3)] [vI s0] h = if 10 + (3 * (42 - a3) + 2 : Int).toNat < r then (mm_call mX0_own [vR 10, vI 2, vI 1, vI a3] h).bind (fun w => mm_ev mX0_runOfWord r 74 [some (vR 10), some (vI a1), some (vI a2), some (vI a3)] (w.1 ++ [vI s0]) w.2) else none := (ev_aload_n 68 dX0_runOfWord_67 rfl rfl).trans ((ev_iconst 69 (v := 2) dX0_runOfWord_68 rfl rfl).trans ((ev_iconst 70 (v := 1) dX0_runOfWord_69 rfl rfl).trans ((ev_iload_n 71 dX0_runOfWord_70 rfl rfl).trans (ev_callv mX0_own [vR 10, vI 2, vI 1, vI a3] [vI s0] 74 dX0_runOfWord_71 ml_0_35 k4 rfl oc10 ak10 rfl rfl (Nat.le_of_ble_eq_true rfl) (Nat.le_of_ble_eq_true rfl) rfl))))
theorem X0_runOfWord_74 (h : mm_M) (r : Nat) (a1 : Int) (a2 : Int) (a3 : Int) (s0 : Int) (s1 : Int) : mm_ev mX0_runOfWord r 74 [some (vR 10), some (vI a1), some (vI a2), some (vI a3)] [vI s0, vI s1] h = some ([vI (w32 (s1 - s0))], h) := (ev_isub 75 dX0_runOfWord_74 rfl).trans (ev_iret dX0_runOfWord_75 rfl)
theorem dX0_runUnderWord_0 : decode mX0_runUnderWord.1 0 = .ok (.iload_n 1, 1) := by decide +kernel
theorem dX0_runUnderWord_1 : decode mX0_runUnderWord.1 1 = .ok (.lookupswitch 204 #[(20, 83), (30, 95), (40, 106), (41, 118), (50, 130), (60, 142), (61, 161), (70, 173), (80, 185)], 83) := by decide +kernel
theorem dX0_runUnderWord_84 : decode mX0_runUnderWord.1 84 = .ok (.aload_n 0, 1) := by decide +kernel
theorem dX0_runUnderWord_85 : decode mX0_runUnderWord.1 85 = .ok (.iload_n 2, 1) := by decide +kernel
theorem dX0_runUnderWord_86 : decode mX0_runUnderWord.1 86 = .ok (.iconst 0, 1) := by decide +kernel
theorem dX0_runUnderWord_87 : decode mX0_runUnderWord.1 87 = .ok (.iload_n 3, 1) := by decide +kernel
theorem dX0_runUnderWord_88 : decode mX0_runUnderWord.1 88 = .ok (.iload 4, 2) := by decide +kernel
theorem dX0_runUnderWord_90 : decode mX0_runUnderWord.1 90 = .ok (.invokevirtual 39, 3) := by decide +kernel
theorem dX0_runUnderWord_93 : decode mX0_runUnderWord.1 93 = .ok (.iconst 3, 1) := by decide +kernel
theorem dX0_runUnderWord_94 : decode mX0_runUnderWord.1 94 = .ok (.iadd, 1) := by decide +kernel
theorem dX0_runUnderWord_95 : decode mX0_runUnderWord.1 95 = .ok (.ireturn, 1) := by decide +kernel
theorem dX0_runUnderWord_96 : decode mX0_runUnderWord.1 96 = .ok (.aload_n 0, 1) := by decide +kernel
theorem dX0_runUnderWord_97 : decode mX0_runUnderWord.1 97 = .ok (.iload_n 2, 1) := by decide +kernel
theorem dX0_runUnderWord_98 : decode mX0_runUnderWord.1 98 = .ok (.iconst 1, 1) := by decide +kernel
theorem dX0_runUnderWord_99 : decode mX0_runUnderWord.1 99 = .ok (.iload_n 3, 1) := by decide +kernel
theorem dX0_runUnderWord_100 : decode mX0_runUnderWord.1 100 = .ok (.iload 4, 2) := by decide +kernel
theorem dX0_runUnderWord_102 : decode mX0_runUnderWord.1 102 = .ok (.invokevirtual 39, 3) := by decide +kernel
theorem dX0_runUnderWord_105 : decode mX0_runUnderWord.1 105 = .ok (.ineg, 1) := by decide +kernel
theorem dX0_runUnderWord_106 : decode mX0_runUnderWord.1 106 = .ok (.ireturn, 1) := by decide +kernel
theorem dX0_runUnderWord_107 : decode mX0_runUnderWord.1 107 = .ok (.aload_n 0, 1) := by decide +kernel
theorem dX0_runUnderWord_108 : decode mX0_runUnderWord.1 108 = .ok (.iload_n 2, 1) := by decide +kernel
theorem dX0_runUnderWord_109 : decode mX0_runUnderWord.1 109 = .ok (.iconst 2, 1) := by decide +kernel
theorem dX0_runUnderWord_110 : decode mX0_runUnderWord.1 110 = .ok (.iload_n 3, 1) := by decide +kernel
theorem dX0_runUnderWord_111 : decode mX0_runUnderWord.1 111 = .ok (.iload 4, 2) := by decide +kernel
theorem dX0_runUnderWord_113 : decode mX0_runUnderWord.1 113 = .ok (.invokevirtual 39, 3) := by decide +kernel
theorem dX0_runUnderWord_116 : decode mX0_runUnderWord.1 116 = .ok (.iconst 3, 1) := by decide +kernel
theorem dX0_runUnderWord_117 : decode mX0_runUnderWord.1 117 = .ok (.imul, 1) := by decide +kernel
theorem dX0_runUnderWord_118 : decode mX0_runUnderWord.1 118 = .ok (.ireturn, 1) := by decide +kernel
theorem dX0_runUnderWord_119 : decode mX0_runUnderWord.1 119 = .ok (.aload_n 0, 1) := by decide +kernel
theorem dX0_runUnderWord_120 : decode mX0_runUnderWord.1 120 = .ok (.iload_n 2, 1) := by decide +kernel
theorem dX0_runUnderWord_121 : decode mX0_runUnderWord.1 121 = .ok (.iconst 1, 1) := by decide +kernel
theorem dX0_runUnderWord_122 : decode mX0_runUnderWord.1 122 = .ok (.iload_n 3, 1) := by decide +kernel
theorem dX0_runUnderWord_123 : decode mX0_runUnderWord.1 123 = .ok (.iconst 1, 1) := by decide +kernel
theorem dX0_runUnderWord_124 : decode mX0_runUnderWord.1 124 = .ok (.iadd, 1) := by decide +kernel
theorem dX0_runUnderWord_125 : decode mX0_runUnderWord.1 125 = .ok (.iload 4, 2) := by decide +kernel
theorem dX0_runUnderWord_127 : decode mX0_runUnderWord.1 127 = .ok (.invokevirtual 39, 3) := by decide +kernel
theorem dX0_runUnderWord_130 : decode mX0_runUnderWord.1 130 = .ok (.ireturn, 1) := by decide +kernel
theorem dX0_runUnderWord_131 : decode mX0_runUnderWord.1 131 = .ok (.aload_n 0, 1) := by decide +kernel
theorem dX0_runUnderWord_132 : decode mX0_runUnderWord.1 132 = .ok (.iload_n 2, 1) := by decide +kernel
theorem dX0_runUnderWord_133 : decode mX0_runUnderWord.1 133 = .ok (.iconst 3, 1) := by decide +kernel
theorem dX0_runUnderWord_134 : decode mX0_runUnderWord.1 134 = .ok (.iload_n 3, 1) := by decide +kernel
theorem dX0_runUnderWord_135 : decode mX0_runUnderWord.1 135 = .ok (.iload 4, 2) := by decide +kernel
theorem dX0_runUnderWord_137 : decode mX0_runUnderWord.1 137 = .ok (.invokevirtual 39, 3) := by decide +kernel
theorem dX0_runUnderWord_140 : decode mX0_runUnderWord.1 140 = .ok (.iconst 5, 1) := by decide +kernel
theorem dX0_runUnderWord_141 : decode mX0_runUnderWord.1 141 = .ok (.ixor, 1) := by decide +kernel
theorem dX0_runUnderWord_142 : decode mX0_runUnderWord.1 142 = .ok (.ireturn, 1) := by decide +kernel
theorem dX0_runUnderWord_143 : decode mX0_runUnderWord.1 143 = .ok (.aload_n 0, 1) := by decide +kernel
theorem dX0_runUnderWord_144 : decode mX0_runUnderWord.1 144 = .ok (.iload_n 2, 1) := by decide +kernel
theorem dX0_runUnderWord_145 : decode mX0_runUnderWord.1 145 = .ok (.iconst 2, 1) := by decide +kernel
theorem dX0_runUnderWord_146 : decode mX0_runUnderWord.1 146 = .ok (.iload_n 3, 1) := by decide +kernel
theorem dX0_runUnderWord_147 : decode mX0_runUnderWord.1 147 = .ok (.iload 4, 2) := by decide +kernel
theorem dX0_runUnderWord_149 : decode mX0_runUnderWord.1 149 = .ok (.invokevirtual 39, 3) := by decide +kernel
theorem dX0_runUnderWord_152 : decode mX0_runUnderWord.1 152 = .ok (.aload_n 0, 1) := by decide +kernel
theorem dX0_runUnderWord_153 : decode mX0_runUnderWord.1 153 = .ok (.iconst 0, 1) := by decide +kernel
theorem dX0_runUnderWord_154 : decode mX0_runUnderWord.1 154 = .ok (.iconst 2, 1) := by decide +kernel
theorem dX0_runUnderWord_155 : decode mX0_runUnderWord.1 155 = .ok (.iload 4, 2) := by decide +kernel
theorem dX0_runUnderWord_157 : decode mX0_runUnderWord.1 157 = .ok (.invokevirtual 35, 3) := by decide +kernel
theorem dX0_runUnderWord_160 : decode mX0_runUnderWord.1 160 = .ok (.isub, 1) := by decide +kernel
theorem dX0_runUnderWord_161 : decode mX0_runUnderWord.1 161 = .ok (.ireturn, 1) := by decide +kernel
theorem dX0_runUnderWord_162 : decode mX0_runUnderWord.1 162 = .ok (.aload_n 0, 1) := by decide +kernel
theorem dX0_runUnderWord_163 : decode mX0_runUnderWord.1 163 = .ok (.iload_n 2, 1) := by decide +kernel
theorem dX0_runUnderWord_164 : decode mX0_runUnderWord.1 164 = .ok (.iconst 3, 1) := by decide +kernel
theorem dX0_runUnderWord_165 : decode mX0_runUnderWord.1 165 = .ok (.iload_n 3, 1) := by decide +kernel
theorem dX0_runUnderWord_166 : decode mX0_runUnderWord.1 166 = .ok (.iload 4, 2) := by decide +kernel
theorem dX0_runUnderWord_168 : decode mX0_runUnderWord.1 168 = .ok (.invokevirtual 39, 3) := by decide +kernel
theorem dX0_runUnderWord_171 : decode mX0_runUnderWord.1 171 = .ok (.iconst 1, 1) := by decide +kernel
theorem dX0_runUnderWord_172 : decode mX0_runUnderWord.1 172 = .ok (.iadd, 1) := by decide +kernel
theorem dX0_runUnderWord_173 : decode mX0_runUnderWord.1 173 = .ok (.ireturn, 1) := by decide +kernel
theorem dX0_runUnderWord_174 : decode mX0_runUnderWord.1 174 = .ok (.aload_n 0, 1) := by decide +kernel
theorem dX0_runUnderWord_175 : decode mX0_runUnderWord.1 175 = .ok (.iload_n 2, 1) := by decide +kernel
theorem dX0_runUnderWord_176 : decode mX0_runUnderWord.1 176 = .ok (.iconst 0, 1) := by decide +kernel
theorem dX0_runUnderWord_177 : decode mX0_runUnderWord.1 177 = .ok (.iload_n 3, 1) := by decide +kernel
theorem dX0_runUnderWord_178 : decode mX0_runUnderWord.1 178 = .ok (.iload 4, 2) := by decide +kernel
theorem dX0_runUnderWord_180 : decode mX0_runUnderWord.1 180 = .ok (.invokevirtual 39, 3) := by decide +kernel
theorem dX0_runUnderWord_183 : decode mX0_runUnderWord.1 183 = .ok (.iconst 2, 1) := by decide +kernel
theorem dX0_runUnderWord_184 : decode mX0_runUnderWord.1 184 = .ok (.imul, 1) := by decide +kernel
theorem dX0_runUnderWord_185 : decode mX0_runUnderWord.1 185 = .ok (.ireturn, 1) := by decide +kernel
theorem dX0_runUnderWord_186 : decode mX0_runUnderWord.1 186 = .ok (.aload_n 0, 1) := by decide +kernel
theorem dX0_runUnderWord_187 : decode mX0_runUnderWord.1 187 = .ok (.iload_n 2, 1) := by decide +kernel
theorem dX0_runUnderWord_188 : decode mX0_runUnderWord.1 188 = .ok (.iconst 1, 1) := by decide +kernel
theorem dX0_runUnderWord_189 : decode mX0_runUnderWord.1 189 = .ok (.iload_n 3, 1) := by decide +kernel
theorem dX0_runUnderWord_190 : decode mX0_runUnderWord.1 190 = .ok (.iload 4, 2) := by decide +kernel
theorem dX0_runUnderWord_192 : decode mX0_runUnderWord.1 192 = .ok (.invokevirtual 39, 3) := by decide +kernel
theorem dX0_runUnderWord_195 : decode mX0_runUnderWord.1 195 = .ok (.aload_n 0, 1) := by decide +kernel
theorem dX0_runUnderWord_196 : decode mX0_runUnderWord.1 196 = .ok (.iconst 2, 1) := by decide +kernel
theorem dX0_runUnderWord_197 : decode mX0_runUnderWord.1 197 = .ok (.iconst 2, 1) := by decide +kernel
theorem dX0_runUnderWord_198 : decode mX0_runUnderWord.1 198 = .ok (.iload 4, 2) := by decide +kernel
theorem dX0_runUnderWord_200 : decode mX0_runUnderWord.1 200 = .ok (.invokevirtual 35, 3) := by decide +kernel
theorem dX0_runUnderWord_203 : decode mX0_runUnderWord.1 203 = .ok (.iadd, 1) := by decide +kernel
theorem dX0_runUnderWord_204 : decode mX0_runUnderWord.1 204 = .ok (.ireturn, 1) := by decide +kernel
theorem dX0_runUnderWord_205 : decode mX0_runUnderWord.1 205 = .ok (.aload_n 0, 1) := by decide +kernel
theorem dX0_runUnderWord_206 : decode mX0_runUnderWord.1 206 = .ok (.iload_n 2, 1) := by decide +kernel
theorem dX0_runUnderWord_207 : decode mX0_runUnderWord.1 207 = .ok (.iconst 0, 1) := by decide +kernel
theorem dX0_runUnderWord_208 : decode mX0_runUnderWord.1 208 = .ok (.iload_n 3, 1) := by decide +kernel
theorem dX0_runUnderWord_209 : decode mX0_runUnderWord.1 209 = .ok (.iload 4, 2) := by decide +kernel
theorem dX0_runUnderWord_211 : decode mX0_runUnderWord.1 211 = .ok (.invokevirtual 39, 3) := by decide +kernel
theorem dX0_runUnderWord_214 : decode mX0_runUnderWord.1 214 = .ok (.iconst 1, 1) := by decide +kernel
theorem dX0_runUnderWord_215 : decode mX0_runUnderWord.1 215 = .ok (.isub, 1) := by decide +kernel
theorem dX0_runUnderWord_216 : decode mX0_runUnderWord.1 216 = .ok (.ireturn, 1) := by decide +kernel
theorem X0_runUnderWord_0 (h : mm_M) (r : Nat) (a1 : Int) (a2 : Int) (a3 : Int) (a4 : Int) : mm_ev mX0_runUnderWord r 0 [some (vR 10), some (vI a1), some (vI a2), some (vI a3), some (vI a4)] [] h = if a1 = 20 then if 10 + (3 * (42 - a4) + 1 : Int).toNat < r then (mm_call mX0_runFrom [vR 10, vI a2, vI 0, vI a3, vI a4] h).bind (fun w => mm_ev mX0_runUnderWord r 93 [some (vR 10), some (vI a1), some (vI a2), some (vI a3), some (vI a4)] (w.1 ++ []) w.2) else none else if a1 = 30 then if 10 + (3 * (42 - a4) + 1 : Int).toNat < r then (mm_call mX0_runFrom [vR 10, vI a2, vI 1, vI a3, vI a4] h).bind (fun w => mm_ev mX0_runUnderWord r 105 [some (vR 10), some (vI a1), some (vI a2), some (vI a3), some (vI a4)] (w.1 ++ []) w.2) else none else if a1 = 40 then if 10 + (3 * (42 - a4) + 1 : Int).toNat < r then (mm_call mX0_runFrom [vR 10, vI a2, vI 2, vI a3, vI a4] h).bind (fun w => mm_ev mX0_runUnderWord r 116 [some (vR 10), some (vI a1), some (vI a2), some (vI a3), some (vI a4)] (w.1 ++ []) w.2) else none else if a1 = 41 then if 10 + (3 * (42 - a4) + 1 : Int).toNat < r then (mm_call mX0_runFrom [vR 10, vI a2, vI 1, vI (w32 (a3 + 1)), vI a4] h).bind (fun w => mm_ev mX0_runUnderWord r 130 [some (vR 10), some (vI a1), some (vI a2), some (vI a3), some (vI a4)] (w.1 ++ []) w.2) else none else if a1 = 50 then if 10 + (3 * (42 - a4) + 1 : Int).toNat < r then (mm_call mX0_runFrom [vR 10, vI a2, vI 3, vI a3, vI a4] h).bind (fun w => mm_ev mX0_runUnderWord r 140 [some (vR 10), some (vI a1), some (vI a2), some (vI a3), some (vI a4)] (w.1 ++ []) w.2) else none else if a1 = 60 then if 10 + (3 * (42 - a4) + 1 : Int).toNat < r then (mm_call mX0_runFrom [vR 10, vI a2, vI 2, vI a3, vI a4] h).bind (fun w => mm_ev mX0_runUnderWord r 152 [some (vR 10), some (vI a1), some (vI a2), some (vI a3), some (vI a4)] (w.1 ++ []) w.2) else none else if a1 = 61 then if 10 + (3 * (42 - a4) + 1 : Int).toNat < r then (mm_call mX0_runFrom [vR 10, vI a2, vI 3, vI a3, vI a4] h).bind (fun w => mm_ev mX0_runUnderWord r 171 [some (vR 10), some (vI a1), some (vI a2), some (vI a3), some (vI a4)] (w.1 ++ []) w.2) else none else if a1 = 70 then if 10 + (3 * (42 - a4) + 1 : Int).toNat < r then (mm_call mX0_runFrom [vR 10, vI a2, vI 0, vI a3, vI a4] h).bind (fun w => mm_ev mX0_runUnderWord r 183 [some (vR 10), some (vI a1), some (vI a2), some (vI a3), some (vI a4)] (w.1 ++ []) w.2) else none else if a1 = 80 then if 10 + (3 * (42 - a4) + 1 : Int).toNat < r then (mm_call mX0_runFrom [vR 10, vI a2, vI 1, vI a3, vI a4] h).bind (fun w => mm_ev mX0_runUnderWord r 195 [some (vR 10), some (vI a1), some (vI a2), some (vI a3), some (vI a4)] (w.1 ++ []) w.2) else none else if 10 + (3 * (42 - a4) + 1 : Int).toNat < r then (mm_call mX0_runFrom [vR 10, vI a2, vI 0, vI a3, vI a4] h).bind (fun w => mm_ev mX0_runUnderWord r 214 [some (vR 10), some (vI a1), some (vI a2), some (vI a3), some (vI a4)] (w.1 ++ []) w.2) else none := (ev_iload_n 1 dX0_runUnderWord_0 rfl rfl).trans (ev_lookC (k := 20) (fun z0 => (ev_lookK 84 (k := 20) dX0_runUnderWord_1 rfl z0 rfl rfl).trans ((ev_aload_n 85 dX0_runUnderWord_84 rfl rfl).trans ((ev_iload_n 86 dX0_runUnderWord_85 rfl rfl).trans ((ev_iconst 87 (v := 0) dX0_runUnderWord_86 rfl rfl).trans ((ev_iload_n 88 dX0_runUnderWord_87 rfl rfl).trans ((ev_iload 90 dX0_runUnderWord_88 rfl rfl).trans (ev_callv mX0_runFrom [vR 10, vI a2, vI 0, vI a3, vI a4] [] 93 dX0_runUnderWord_90 ml_0_39 k5 rfl oc10 ak10 rfl rfl (Nat.le_of_ble_eq_true rfl) (Nat.le_of_ble_eq_true rfl) rfl))))))) (fun n0 => ev_lookC (k := 30) (fun z1 => (ev_lookK 96 (k := 30) dX0_runUnderWord_1 rfl z1 rfl rfl).trans ((ev_aload_n 97 dX0_runUnderWord_96 rfl rfl).trans ((ev_iload_n 98 dX0_runUnderWord_97 rfl rfl).trans ((ev_iconst 99 (v := 1) dX0_runUnderWord_98 rfl rfl).trans ((ev_iload_n 100 dX0_runUnderWord_99 rfl rfl).trans ((ev_iload 102 dX0_runUnderWord_100 rfl rfl).trans (ev_callv mX0_runFrom [vR 10, vI a2, vI 1, vI a3, vI a4] [] 105 dX0_runUnderWord_102 ml_0_39 k5 rfl oc10 ak10 rfl rfl (Nat.le_of_ble_eq_true rfl) (Nat.le_of_ble_eq_true rfl) rfl))))))) (fun n1 => ev_lookC (k := 40) (fun z2 => (ev_lookK 107 (k := 40) dX0_runUnderWord_1 rfl z2 rfl rfl).trans ((ev_aload_n 108 dX0_runUnderWord_107 rfl rfl).trans ((ev_iload_n 109 dX0_runUnderWord_108 rfl rfl).trans ((ev_iconst 110 (v := 2) dX0_runUnderWord_109 rfl rfl).trans ((ev_iload_n 111 dX0_runUnderWord_110 rfl rfl).trans ((ev_iload 113 dX0_runUnderWord_111 rfl rfl).trans (ev_callv mX0_runFrom [vR 10, vI a2, vI 2, vI a3, vI a4] [] 116 dX0_runUnderWord_113 ml_0_39 k5 rfl oc10 ak10 rfl rfl (Nat.le_of_ble_eq_true rfl) (Nat.le_of_ble_eq_true rfl) rfl))))))) (fun n2 => ev_lookC (k := 41) (fun z3 => (ev_lookK 119 (k := 41) dX0_runUnderWord_1 rfl z3 rfl rfl).trans ((ev_aload_n 120 dX0_runUnderWord_119 rfl rfl).trans ((ev_iload_n 121 dX0_runUnderWord_120 rfl rfl).trans ((ev_iconst 122 (v := 1) dX0_runUnderWord_121 rfl rfl).trans ((ev_iload_n 123 dX0_runUnderWord_122 rfl rfl).trans ((ev_iconst 124 (v := 1) dX0_runUnderWord_123 rfl rfl).trans ((ev_iadd 125 dX0_runUnderWord_124 rfl).trans ((ev_iload 127 dX0_runUnderWord_125 rfl rfl).trans (ev_callv mX0_runFrom [vR 10, vI a2, vI 1, vI (w32 (a3 + 1)), vI a4] [] 130 dX0_runUnderWord_127 ml_0_39 k5 rfl oc10 ak10 rfl rfl (Nat.le_of_ble_eq_true rfl) (Nat.le_of_ble_eq_true rfl) rfl))))))))) (fun n3 => ev_lookC (k := 50) (fun z4 => (ev_lookK 131 (k := 50) dX0_runUnderWord_1 rfl z4 rfl rfl).trans ((ev_aload_n 132 dX0_runUnderWord_131 rfl rfl).trans ((ev_iload_n 133 dX0_runUnderWord_132 rfl rfl).trans ((ev_iconst 134 (v := 3) dX0_runUnderWord_133 rfl rfl).trans ((ev_iload_n 135 dX0_runUnderWord_134 rfl rfl).trans ((ev_iload 137 dX0_runUnderWord_135 rfl rfl).trans (ev_callv mX0_runFrom [vR 10, vI a2, vI 3, vI a3, vI a4] [] 140 dX0_runUnderWord_137 ml_0_39 k5 rfl oc10 ak10 rfl rfl (Nat.le_of_ble_eq_true rfl) (Nat.le_of_ble_eq_true rfl) rfl))))))) (fun n4 => ev_lookC (k := 60) (fun z5 => (ev_lookK 143 (k := 60) dX0_runUnderWord_1 rfl z5 rfl rfl).trans ((ev_aload_n 144 dX0_runUnderWord_143 rfl rfl).trans ((ev_iload_n 145 dX0_runUnderWord_144 rfl rfl).trans ((ev_iconst 146 (v := 2) dX0_runUnderWord_145 rfl rfl).trans ((ev_iload_n 147 dX0_runUnderWord_146 rfl rfl).trans ((ev_iload 149 dX0_runUnderWord_147 rfl rfl).trans (ev_callv mX0_runFrom [vR 10, vI a2, vI 2, vI a3, vI a4] [] 152 dX0_runUnderWord_149 ml_0_39 k5 rfl oc10 ak10 rfl rfl (Nat.le_of_ble_eq_true rfl) (Nat.le_of_ble_eq_true rfl) rfl))))))) (fun n5 => ev_lookC (k := 61) (fun z6 => (ev_lookK 162 (k := 61) dX0_runUnderWord_1 rfl z6 rfl rfl).trans ((ev_aload_n 163 dX0_runUnderWord_162 rfl rfl).trans ((ev_iload_n 164 dX0_runUnderWord_163 rfl rfl).trans ((ev_iconst 165 (v := 3) dX0_runUnderWord_164 rfl rfl).trans ((ev_iload_n 166 dX0_runUnderWord_165 rfl rfl).trans ((ev_iload 168 dX0_runUnderWord_166 rfl rfl).trans (ev_callv mX0_runFrom [vR 10, vI a2, vI 3, vI a3, vI a4] [] 171 dX0_runUnderWord_168 ml_0_39 k5 rfl oc10 ak10 rfl rfl (Nat.le_of_ble_eq_true rfl) (Nat.le_of_ble_eq_true rfl) rfl))))))) (fun n6 => ev_lookC (k := 70) (fun z7 => (ev_lookK 174 (k := 70) dX0_runUnderWord_1 rfl z7 rfl rfl).trans ((ev_aload_n 175 dX0_runUnderWord_174 rfl rfl).trans ((ev_iload_n 176 dX0_runUnderWord_175 rfl rfl).trans ((ev_iconst 177 (v := 0) dX0_runUnderWord_176 rfl rfl).trans ((ev_iload_n 178 dX0_runUnderWord_177 rfl rfl).trans ((ev_iload 180 dX0_runUnderWord_178 rfl rfl).trans (ev_callv mX0_runFrom [vR 10, vI a2, vI 0, vI a3, vI a4] [] 183 dX0_runUnderWord_180 ml_0_39 k5 rfl oc10 ak10 rfl rfl (Nat.le_of_ble_eq_true rfl) (Nat.le_of_ble_eq_true rfl) rfl))))))) (fun n7 => ev_lookC (k := 80) (fun z8 => (ev_lookK 186 (k := 80) dX0_runUnderWord_1 rfl z8 rfl rfl).trans ((ev_aload_n 187 dX0_runUnderWord_186 rfl rfl).trans ((ev_iload_n 188 dX0_runUnderWord_187 rfl rfl).trans ((ev_iconst 189 (v := 1) dX0_runUnderWord_188 rfl rfl).trans ((ev_iload_n 190 dX0_runUnderWord_189 rfl rfl).trans ((ev_iload 192 dX0_runUnderWord_190 rfl rfl).trans (ev_callv mX0_runFrom [vR 10, vI a2, vI 1, vI a3, vI a4] [] 195 dX0_runUnderWord_192 ml_0_39 k5 rfl oc10 ak10 rfl rfl (Nat.le_of_ble_eq_true rfl) (Nat.le_of_ble_eq_true rfl) rfl))))))) (fun n8 => (ev_look 205 dX0_runUnderWord_1 rfl (by simp only [Op.lookupswitch.offset]; rw [if_neg (fun w => n0 w.symm)]; rw [if_neg (fun w => n1 w.symm)]; rw [if_neg (fun w => n2 w.symm)]; rw [if_neg (fun w => n3 w.symm)]; rw [if_neg (fun w => n4 w.symm)]; rw [if_neg (fun w => n5 w.symm)]; rw [if_neg (fun w => n6 w.symm)]; rw [if_neg (fun w => n7 w.symm)]; rw [if_neg (fun w => n8 w.symm)]; rfl)).trans ((ev_aload_n 206 dX0_runUnderWord_205 rfl rfl).trans ((ev_iload_n 207 dX0_runUnderWord_206 rfl rfl).trans ((ev_iconst 208 (v := 0) dX0_runUnderWord_207 rfl rfl).trans ((ev_iload_n 209 dX0_runUnderWord_208 rfl rfl).trans ((ev_iload 211 dX0_runUnderWord_209 rfl rfl).trans (ev_callv mX0_runFrom [vR 10, vI a2, vI 0, vI a3, vI a4] [] 214 dX0_runUnderWord_211 ml_0_39 k5 rfl oc10 ak10 rfl rfl (Nat.le_of_ble_eq_true rfl) (Nat.le_of_ble_eq_true rfl) rfl))))))))))))))))
theorem X0_runUnderWord_c (h : mm_M) (a1 : Int) (a2 : Int) (a3 : Int) (a4 : Int) : mm_call mX0_runUnderWord [vR 10, vI a1, vI a2, vI a3, vI a4] h = mm_ev mX0_runUnderWord (10 + (3 * (42 - a4) + 3 : Int).toNat) 0 [some (vR 10), some (vI a1), some (vI a2), some (vI a3), some (vI a4)] [] h := rfl
theorem X0_runUnderWord_93 (h : mm_M) (r : Nat) (a1 : Int) (a2 : Int) (a3 : Int) (a4 : Int) (s0 : Int) : mm_ev mX0_runUnderWord r 93 [some (vR 10), some (vI a1), some (vI a2), some (vI a3), some (vI a4)] [vI s0] h = some ([vI (w32 (s0 + 3))], h) := (ev_iconst 94 (v := 3) dX0_runUnderWord_93 rfl rfl).trans ((ev_iadd 95 dX0_runUnderWord_94 rfl).trans (ev_iret dX0_runUnderWord_95 rfl))
theorem X0_runUnderWord_105 (h : mm_M) (r : Nat) (a1 : Int) (a2 : Int) (a3 : Int) (a4 : Int) (s0 : Int) : mm_ev mX0_runUnderWord r 105 [some (vR 10), some (vI a1), some (vI a2), some (vI a3), some (vI a4)] [vI s0] h = some ([vI (w32 (-s0))], h) := (ev_ineg 106 dX0_runUnderWord_105 rfl).trans (ev_iret dX0_runUnderWord_106 rfl)
theorem X0_runUnderWord_116 (h : mm_M) (r : Nat) (a1 : Int) (a2 : Int) (a3 : Int) (a4 : Int) (s0 : Int) : mm_ev mX0_runUnderWord r 116 [some (vR 10), some (vI a1), some (vI a2), some (vI a3), some (vI a4)] [vI s0] h = some ([vI (w32 (s0 * 3))], h) := (ev_iconst 117 (v := 3) dX0_runUnderWord_116 rfl rfl).trans ((ev_imul 118 dX0_runUnderWord_117 rfl).trans (ev_iret dX0_runUnderWord_118 rfl))
theorem X0_runUnderWord_130 (h : mm_M) (r : Nat) (a1 : Int) (a2 : Int) (a3 : Int) (a4 : Int) (s0 : Int) : mm_ev mX0_runUnderWord r 130 [some (vR 10), some (vI a1), some (vI a2), some (vI a3), some (vI a4)] [vI s0] h = some ([vI s0], h) := ev_iret dX0_runUnderWord_130 rfl
theorem X0_runUnderWord_140 (h : mm_M) (r : Nat) (a1 : Int) (a2 : Int) (a3 : Int) (a4 : Int) (s0 : Int) : mm_ev mX0_runUnderWord r 140 [some (vR 10), some (vI a1), some (vI a2), some (vI a3), some (vI a4)] [vI s0] h = some ([vI (iXor s0 5)], h) := (ev_iconst 141 (v := 5) dX0_runUnderWord_140 rfl rfl).trans ((ev_ixor 142 dX0_runUnderWord_141 rfl).trans (ev_iret dX0_runUnderWord_142 rfl))
theorem X0_runUnderWord_152 (h : mm_M) (r : Nat) (a1 : Int) (a2 : Int) (a3 : Int) (a4 : Int) (s0 : Int) : mm_ev mX0_runUnderWord r 152 [some (vR 10), some (vI a1), some (vI a2), some (vI a3), some (vI a4)] [vI s0] h = if 10 + (3 * (42 - a4) + 2 : Int).toNat < r then (mm_call mX0_own [vR 10, vI 0, vI 2, vI a4] h).bind (fun w => mm_ev mX0_runUnderWord r 160 [some (vR 10), some (vI a1), some (vI a2), some (vI a3), some (vI a4)] (w.1 ++ [vI s0]) w.2) else none := (ev_aload_n 153 dX0_runUnderWord_152 rfl rfl).trans ((ev_iconst 154 (v := 0) dX0_runUnderWord_153 rfl rfl).trans ((ev_iconst 155 (v := 2) dX0_runUnderWord_154 rfl rfl).trans ((ev_iload 157 dX0_runUnderWord_155 rfl rfl).trans (ev_callv mX0_own [vR 10, vI 0, vI 2, vI a4] [vI s0] 160 dX0_runUnderWord_157 ml_0_35 k4 rfl oc10 ak10 rfl rfl (Nat.le_of_ble_eq_true rfl) (Nat.le_of_ble_eq_true rfl) rfl))))
theorem X0_runUnderWord_160 (h : mm_M) (r : Nat) (a1 : Int) (a2 : Int) (a3 : Int) (a4 : Int) (s0 : Int) (s1 : Int) : mm_ev mX0_runUnderWord r 160 [some (vR 10), some (vI a1), some (vI a2), some (vI a3), some (vI a4)] [vI s0, vI s1] h = some ([vI (w32 (s1 - s0))], h) := (ev_isub 161 dX0_runUnderWord_160 rfl).trans (ev_iret dX0_runUnderWord_161 rfl)
theorem X0_runUnderWord_171 (h : mm_M) (r : Nat) (a1 : Int) (a2 : Int) (a3 : Int) (a4 : Int) (s0 : Int) : mm_ev mX0_runUnderWord r 171 [some (vR 10), some (vI a1), some (vI a2), some (vI a3), some (vI a4)] [vI s0] h = some ([vI (w32 (s0 + 1))], h) := (ev_iconst 172 (v := 1) dX0_runUnderWord_171 rfl rfl).trans ((ev_iadd 173 dX0_runUnderWord_172 rfl).trans (ev_iret dX0_runUnderWord_173 rfl))
theorem X0_runUnderWord_183 (h : mm_M) (r : Nat) (a1 : Int) (a2 : Int) (a3 : Int) (a4 : Int) (s0 : Int) : mm_ev mX0_runUnderWord r 183 [some (vR 10), some (vI a1), some (vI a2), some (vI a3), some (vI a4)] [vI s0] h = some ([vI (w32 (s0 * 2))], h) := (ev_iconst 184 (v := 2) dX0_runUnderWord_183 rfl rfl).trans ((ev_imul 185 dX0_runUnderWord_184 rfl).trans (ev_iret dX0_runUnderWord_185 rfl))
theorem X0_runUnderWord_195 (h : mm_M) (r : Nat) (a1 : Int) (a2 : Int) (a3 : Int) (a4 : Int) (s0 : Int) : mm_ev mX0_runUnderWord r 195 [some (vR 10), some (vI a1), some (vI a2), some (vI a3), some (vI a4)] [vI s0] h = if 10 + (3 * (42 - a4) + 2 : Int).toNat < r then (mm_call mX0_own [vR 10, vI 2, vI 2, vI a4] h).bind (fun w => mm_ev mX0_runUnderWord r 203 [some (vR 10), some (vI a1), some (vI a2), some (vI a3), some (vI a4)] (w.1 ++ [vI s0]) w.2) else none := (ev_aload_n 196 dX0_runUnderWord_195 rfl rfl).trans ((ev_iconst 197 (v := 2) dX0_runUnderWord_196 rfl rfl).trans ((ev_iconst 198 (v := 2) dX0_runUnderWord_197 rfl rfl).trans ((ev_iload 200 dX0_runUnderWord_198 rfl rfl).trans (ev_callv mX0_own [vR 10, vI 2, vI 2, vI a4] [vI s0] 203 dX0_runUnderWord_200 ml_0_35 k4 rfl oc10 ak10 rfl rfl (Nat.le_of_ble_eq_true rfl) (Nat.le_of_ble_eq_true rfl) rfl))))
theorem X0_runUnderWord_203 (h : mm_M) (r : Nat) (a1 : Int) (a2 : Int) (a3 : Int) (a4 : Int) (s0 : Int) (s1 : Int) : mm_ev mX0_runUnderWord r 203 [some (vR 10), some (vI a1), some (vI a2), some (vI a3), some (vI a4)] [vI s0, vI s1] h = some ([vI (w32 (s1 + s0))], h) := (ev_iadd 204 dX0_runUnderWord_203 rfl).trans (ev_iret dX0_runUnderWord_204 rfl)
theorem X0_runUnderWord_214 (h : mm_M) (r : Nat) (a1 : Int) (a2 : Int) (a3 : Int) (a4 : Int) (s0 : Int) : mm_ev mX0_runUnderWord r 214 [some (vR 10), some (vI a1), some (vI a2), some (vI a3), some (vI a4)] [vI s0] h = some ([vI (w32 (s0 - 1))], h) := (ev_iconst 215 (v := 1) dX0_runUnderWord_214 rfl rfl).trans ((ev_isub 216 dX0_runUnderWord_215 rfl).trans (ev_iret dX0_runUnderWord_216 rfl))
theorem dX0_add_0 : decode mX0_add.1 0 = .ok (.iload_n 1, 1) := by decide +kernel
theorem dX0_add_1 : decode mX0_add.1 1 = .ok (.ifCond .lt 9, 3) := by decide +kernel
theorem dX0_add_4 : decode mX0_add.1 4 = .ok (.iload_n 1, 1) := by decide +kernel
theorem dX0_add_5 : decode mX0_add.1 5 = .ok (.bipush 8, 2) := by decide +kernel
theorem dX0_add_7 : decode mX0_add.1 7 = .ok (.if_icmp .lt 5, 3) := by decide +kernel
theorem dX0_add_10 : decode mX0_add.1 10 = .ok (.iconst (-1), 1) := by decide +kernel
theorem dX0_add_11 : decode mX0_add.1 11 = .ok (.ireturn, 1) := by decide +kernel
theorem dX0_add_12 : decode mX0_add.1 12 = .ok (.aload_n 0, 1) := by decide +kernel
theorem dX0_add_13 : decode mX0_add.1 13 = .ok (.getfield 18, 3) := by decide +kernel
theorem dX0_add_16 : decode mX0_add.1 16 = .ok (.bipush 50, 2) := by decide +kernel
theorem dX0_add_18 : decode mX0_add.1 18 = .ok (.if_icmp .lt 6, 3) := by decide +kernel
theorem dX0_add_21 : decode mX0_add.1 21 = .ok (.bipush (-3), 2) := by decide +kernel
theorem dX0_add_23 : decode mX0_add.1 23 = .ok (.ireturn, 1) := by decide +kernel
theorem dX0_add_24 : decode mX0_add.1 24 = .ok (.aload_n 0, 1) := by decide +kernel
theorem dX0_add_25 : decode mX0_add.1 25 = .ok (.getfield 15, 3) := by decide +kernel
theorem dX0_add_28 : decode mX0_add.1 28 = .ok (.aload_n 0, 1) := by decide +kernel
theorem dX0_add_29 : decode mX0_add.1 29 = .ok (.getfield 18, 3) := by decide +kernel
theorem dX0_add_32 : decode mX0_add.1 32 = .ok (.iload_n 1, 1) := by decide +kernel
theorem dX0_add_33 : decode mX0_add.1 33 = .ok (.iastore, 1) := by decide +kernel
theorem dX0_add_34 : decode mX0_add.1 34 = .ok (.aload_n 0, 1) := by decide +kernel
theorem dX0_add_35 : decode mX0_add.1 35 = .ok (.dup, 1) := by decide +kernel
theorem dX0_add_36 : decode mX0_add.1 36 = .ok (.getfield 18, 3) := by decide +kernel
theorem dX0_add_39 : decode mX0_add.1 39 = .ok (.iconst 1, 1) := by decide +kernel
theorem dX0_add_40 : decode mX0_add.1 40 = .ok (.iadd, 1) := by decide +kernel
theorem dX0_add_41 : decode mX0_add.1 41 = .ok (.putfield 18, 3) := by decide +kernel
theorem dX0_add_44 : decode mX0_add.1 44 = .ok (.aload_n 0, 1) := by decide +kernel
theorem dX0_add_45 : decode mX0_add.1 45 = .ok (.getfield 18, 3) := by decide +kernel
theorem dX0_add_48 : decode mX0_add.1 48 = .ok (.iconst 1, 1) := by decide +kernel
theorem dX0_add_49 : decode mX0_add.1 49 = .ok (.isub, 1) := by decide +kernel
theorem dX0_add_50 : decode mX0_add.1 50 = .ok (.ireturn, 1) := by decide +kernel
theorem X0_add_0 (h : mm_M) (a1 : Int) : mm_ev mX0_add 1 0 [some (vR 10), some (vI a1)] [] h = if a1 < 0 then some ([vI (-1)], h) else if a1 < 8 then if (h 10 0) < 50 then if 0 ≤ (h 10 0) ∧ (h 10 0) < 50 then some ([vI (w32 (((mUp (mUp h 46 (h 10 0) a1) 10 0 (w32 (((mUp h 46 (h 10 0) a1) 10 0) + 1))) 10 0) - 1))], mUp (mUp h 46 (h 10 0) a1) 10 0 (w32 (((mUp h 46 (h 10 0) a1) 10 0) + 1))) else none else some ([vI (-3)], h) else some ([vI (-1)], h) := (ev_iload_n 1 dX0_add_0 rfl rfl).trans ((ev_if_lt 10 4 dX0_add_1 rfl rfl).trans (mm_ite ((ev_iconst 11 (v := (-1)) dX0_add_10 rfl rfl).trans (ev_iret dX0_add_11 rfl)) ((ev_iload_n 5 dX0_add_4 rfl rfl).trans ((ev_bipush 7 (v := 8) dX0_add_5 rfl rfl).trans ((ev_ic_lt 12 10 dX0_add_7 rfl rfl).trans (mm_ite ((ev_aload_n 13 dX0_add_12 rfl rfl).trans ((ev_getI 16 0 dX0_add_13 fl_0_18 oc10 ak10 (by decide) rfl rfl).trans ((ev_bipush 18 (v := 50) dX0_add_16 rfl rfl).trans ((ev_ic_lt 24 21 dX0_add_18 rfl rfl).trans (mm_ite ((ev_aload_n 25 dX0_add_24 rfl rfl).trans ((ev_getF 28 46 dX0_add_25 fl_0_15 oc10 ak10 rfl rf_10_3 rfl).trans ((ev_aload_n 29 dX0_add_28 rfl rfl).trans ((ev_getI 32 0 dX0_add_29 fl_0_18 oc10 ak10 (by decide) rfl rfl).trans ((ev_iload_n 33 dX0_add_32 rfl rfl).trans ((ev_iast 34 50 dX0_add_33 ak46 an46 rfl).trans (mm_ite ((ev_aload_n 35 dX0_add_34 rfl rfl).trans ((ev_dup 36 dX0_add_35 rfl rfl).trans ((ev_getI 39 0 dX0_add_36 fl_0_18 oc10 ak10 (by decide) rfl rfl).trans ((ev_iconst 40 (v := 1) dX0_add_39 rfl rfl).trans ((ev_iadd 41 dX0_add_40 rfl).trans ((ev_putI 44 0 dX0_add_41 fl_0_18 oc10 ak10 rfl rfl rfl).trans ((ev_aload_n 45 dX0_add_44 rfl rfl).trans ((ev_getI 48 0 dX0_add_45 fl_0_18 oc10 ak10 (by decide) rfl rfl).trans ((ev_iconst 49 (v := 1) dX0_add_48 rfl rfl).trans ((ev_isub 50 dX0_add_49 rfl).trans (ev_iret dX0_add_50 rfl))))))))))) (rfl)))))))) ((ev_bipush 23 (v := (-3)) dX0_add_21 rfl rfl).trans (ev_iret dX0_add_23 rfl))))))) ((ev_iconst 11 (v := (-1)) dX0_add_10 rfl rfl).trans (ev_iret dX0_add_11 rfl))))))))
theorem X0_add_c (h : mm_M) (a1 : Int) : mm_call mX0_add [vR 10, vI a1] h = if a1 < 0 then some ([vI (-1)], h) else if a1 < 8 then if (h 10 0) < 50 then if 0 ≤ (h 10 0) ∧ (h 10 0) < 50 then some ([vI (w32 (((mUp (mUp h 46 (h 10 0) a1) 10 0 (w32 (((mUp h 46 (h 10 0) a1) 10 0) + 1))) 10 0) - 1))], mUp (mUp h 46 (h 10 0) a1) 10 0 (w32 (((mUp h 46 (h 10 0) a1) 10 0) + 1))) else none else some ([vI (-3)], h) else some ([vI (-1)], h) := X0_add_0 h a1
