/-! rows of the methods, by program (wip/whole/gen13.py): X3, X6 -/
theorem dX3_mishearing_0 : decode mX3_mishearing.1 0 = .ok (.iload_n 3, 1) := by decide +kernel
theorem dX3_mishearing_1 : decode mX3_mishearing.1 1 = .ok (.ifCond .ne 5, 3) := by decide +kernel
theorem dX3_mishearing_4 : decode mX3_mishearing.1 4 = .ok (.iconst 0, 1) := by decide +kernel
theorem dX3_mishearing_5 : decode mX3_mishearing.1 5 = .ok (.ireturn, 1) := by decide +kernel
theorem dX3_mishearing_6 : decode mX3_mishearing.1 6 = .ok (.aload_n 0, 1) := by decide +kernel
theorem dX3_mishearing_7 : decode mX3_mishearing.1 7 = .ok (.getfield 41, 3) := by decide +kernel
theorem dX3_mishearing_10 : decode mX3_mishearing.1 10 = .ok (.ifCond .ne 22, 3) := by decide +kernel
theorem dX3_mishearing_13 : decode mX3_mishearing.1 13 = .ok (.aload_n 1, 1) := by decide +kernel
theorem dX3_mishearing_14 : decode mX3_mishearing.1 14 = .ok (.iconst 2, 1) := by decide +kernel
theorem dX3_mishearing_15 : decode mX3_mishearing.1 15 = .ok (.iload_n 3, 1) := by decide +kernel
theorem dX3_mishearing_16 : decode mX3_mishearing.1 16 = .ok (.invokevirtual 76, 3) := by decide +kernel
theorem dX3_mishearing_19 : decode mX3_mishearing.1 19 = .ok (.iload 4, 2) := by decide +kernel
theorem dX3_mishearing_21 : decode mX3_mishearing.1 21 = .ok (.iadd, 1) := by decide +kernel
theorem dX3_mishearing_22 : decode mX3_mishearing.1 22 = .ok (.aload_n 1, 1) := by decide +kernel
theorem dX3_mishearing_23 : decode mX3_mishearing.1 23 = .ok (.iconst 3, 1) := by decide +kernel
theorem dX3_mishearing_24 : decode mX3_mishearing.1 24 = .ok (.iload_n 2, 1) := by decide +kernel
theorem dX3_mishearing_25 : decode mX3_mishearing.1 25 = .ok (.invokevirtual 76, 3) := by decide +kernel
theorem dX3_mishearing_28 : decode mX3_mishearing.1 28 = .ok (.isub, 1) := by decide +kernel
theorem dX3_mishearing_29 : decode mX3_mishearing.1 29 = .ok (.goto 12, 3) := by decide +kernel
theorem dX3_mishearing_32 : decode mX3_mishearing.1 32 = .ok (.aload_n 0, 1) := by decide +kernel
theorem dX3_mishearing_33 : decode mX3_mishearing.1 33 = .ok (.aload_n 1, 1) := by decide +kernel
theorem dX3_mishearing_34 : decode mX3_mishearing.1 34 = .ok (.iload_n 2, 1) := by decide +kernel
theorem dX3_mishearing_35 : decode mX3_mishearing.1 35 = .ok (.iload_n 3, 1) := by decide +kernel
theorem dX3_mishearing_36 : decode mX3_mishearing.1 36 = .ok (.iload 4, 2) := by decide +kernel
theorem dX3_mishearing_38 : decode mX3_mishearing.1 38 = .ok (.invokevirtual 82, 3) := by decide +kernel
theorem dX3_mishearing_41 : decode mX3_mishearing.1 41 = .ok (.istore 5, 2) := by decide +kernel
theorem dX3_mishearing_43 : decode mX3_mishearing.1 43 = .ok (.iconst 0, 1) := by decide +kernel
theorem dX3_mishearing_44 : decode mX3_mishearing.1 44 = .ok (.bipush 12, 2) := by decide +kernel
theorem dX3_mishearing_46 : decode mX3_mishearing.1 46 = .ok (.iload 5, 2) := by decide +kernel
theorem dX3_mishearing_48 : decode mX3_mishearing.1 48 = .ok (.invokestatic 86, 3) := by decide +kernel
theorem dX3_mishearing_51 : decode mX3_mishearing.1 51 = .ok (.invokestatic 91, 3) := by decide +kernel
theorem dX3_mishearing_54 : decode mX3_mishearing.1 54 = .ok (.ireturn, 1) := by decide +kernel
theorem X3_mishearing_0 (h : mm_M) (a2 : Int) (a3 : Int) (a4 : Int) : mm_ev mX3_mishearing 4 0 [some (vR 2), some (vR 1), some (vI a2), some (vI a3), some (vI a4), none] [] h = if ¬ a3 = 0 then if ¬ (h 2 7) = 0 then (mm_call mX3_workOut [vR 2, vR 1, vI a2, vI a3, vI a4] h).bind (fun w => mm_ev mX3_mishearing 4 41 [some (vR 2), some (vR 1), some (vI a2), some (vI a3), some (vI a4), none] (w.1 ++ []) w.2) else (mm_call mX4_get [vR 1, vI 2, vI a3] h).bind (fun w => mm_ev mX3_mishearing 4 19 [some (vR 2), some (vR 1), some (vI a2), some (vI a3), some (vI a4), none] (w.1 ++ []) w.2) else some ([vI 0], h) := (ev_iload_n 1 dX3_mishearing_0 rfl rfl).trans ((ev_if_ne 6 4 dX3_mishearing_1 rfl rfl).trans (mm_ite ((ev_aload_n 7 dX3_mishearing_6 rfl rfl).trans ((ev_getI 10 7 dX3_mishearing_7 fl_3_41 oc2 ak2 (by decide) rfl rfl).trans ((ev_if_ne 32 13 dX3_mishearing_10 rfl rfl).trans (mm_ite ((ev_aload_n 33 dX3_mishearing_32 rfl rfl).trans ((ev_aload_n 34 dX3_mishearing_33 rfl rfl).trans ((ev_iload_n 35 dX3_mishearing_34 rfl rfl).trans ((ev_iload_n 36 dX3_mishearing_35 rfl rfl).trans ((ev_iload 38 dX3_mishearing_36 rfl rfl).trans ((ev_callv mX3_workOut [vR 2, vR 1, vI a2, vI a3, vI a4] [] 41 dX3_mishearing_38 ml_3_82 k33 rfl oc2 ak2 rfl rfl (Nat.le_of_ble_eq_true rfl) (Nat.le_of_ble_eq_true rfl) rfl).trans (if_pos (show 3 < 4 from by decide)))))))) ((ev_aload_n 14 dX3_mishearing_13 rfl rfl).trans ((ev_iconst 15 (v := 2) dX3_mishearing_14 rfl rfl).trans ((ev_iload_n 16 dX3_mishearing_15 rfl rfl).trans ((ev_callv mX4_get [vR 1, vI 2, vI a3] [] 19 dX3_mishearing_16 ml_3_76 k41 rfl oc1 ak1 rfl rfl (Nat.le_of_ble_eq_true rfl) (Nat.le_of_ble_eq_true rfl) rfl).trans (if_pos (show 1 < 4 from by decide)))))))))) ((ev_iconst 5 (v := 0) dX3_mishearing_4 rfl rfl).trans (ev_iret dX3_mishearing_5 rfl))))
theorem X3_mishearing_c (h : mm_M) (a2 : Int) (a3 : Int) (a4 : Int) : mm_call mX3_mishearing [vR 2, vR 1, vI a2, vI a3, vI a4] h = if ¬ a3 = 0 then if ¬ (h 2 7) = 0 then (mm_call mX3_workOut [vR 2, vR 1, vI a2, vI a3, vI a4] h).bind (fun w => mm_ev mX3_mishearing 4 41 [some (vR 2), some (vR 1), some (vI a2), some (vI a3), some (vI a4), none] (w.1 ++ []) w.2) else (mm_call mX4_get [vR 1, vI 2, vI a3] h).bind (fun w => mm_ev mX3_mishearing 4 19 [some (vR 2), some (vR 1), some (vI a2), some (vI a3), some (vI a4), none] (w.1 ++ []) w.2) else some ([vI 0], h) := X3_mishearing_0 h a2 a3 a4
theorem X3_mishearing_19 (h : mm_M) (a2 : Int) (a3 : Int) (a4 : Int) (s0 : Int) : mm_ev mX3_mishearing 4 19 [some (vR 2), some (vR 1), some (vI a2), some (vI a3), some (vI a4), none] [vI s0] h = (mm_call mX4_get [vR 1, vI 3, vI a2] h).bind (fun w => mm_ev mX3_mishearing 4 28 [some (vR 2), some (vR 1), some (vI a2), some (vI a3), some (vI a4), none] (w.1 ++ [vI (w32 (s0 + a4))]) w.2) := (ev_iload 21 dX3_mishearing_19 rfl rfl).trans ((ev_iadd 22 dX3_mishearing_21 rfl).trans ((ev_aload_n 23 dX3_mishearing_22 rfl rfl).trans ((ev_iconst 24 (v := 3) dX3_mishearing_23 rfl rfl).trans ((ev_iload_n 25 dX3_mishearing_24 rfl rfl).trans ((ev_callv mX4_get [vR 1, vI 3, vI a2] [vI (w32 (s0 + a4))] 28 dX3_mishearing_25 ml_3_76 k41 rfl oc1 ak1 rfl rfl (Nat.le_of_ble_eq_true rfl) (Nat.le_of_ble_eq_true rfl) rfl).trans (if_pos (show 1 < 4 from by decide)))))))
theorem X3_mishearing_28 (h : mm_M) (a2 : Int) (a3 : Int) (a4 : Int) (s0 : Int) (s1 : Int) : mm_ev mX3_mishearing 4 28 [some (vR 2), some (vR 1), some (vI a2), some (vI a3), some (vI a4), none] [vI s0, vI s1] h = mm_ev mX3_mishearing 4 41 [some (vR 2), some (vR 1), some (vI a2), some (vI a3), some (vI a4), none] [vI (w32 (s1 - s0))] h := (ev_isub 29 dX3_mishearing_28 rfl).trans (ev_goto 41 dX3_mishearing_29 rfl)
theorem X3_mishearing_41 (h : mm_M) (a2 : Int) (a3 : Int) (a4 : Int) (s0 : Int) : mm_ev mX3_mishearing 4 41 [some (vR 2), some (vR 1), some (vI a2), some (vI a3), some (vI a4), none] [vI s0] h = some ([vI (if 0 < (if s0 < 12 then s0 else 12) then (if s0 < 12 then s0 else 12) else 0)], h) := (ev_istore 43 [some (vR 2), some (vR 1), some (vI a2), some (vI a3), some (vI a4), some (vI s0)] dX3_mishearing_41 rfl rfl).trans ((ev_iconst 44 (v := 0) dX3_mishearing_43 rfl rfl).trans ((ev_bipush 46 (v := 12) dX3_mishearing_44 rfl rfl).trans ((ev_iload 48 dX3_mishearing_46 rfl rfl).trans ((ev_min 51 dX3_mishearing_48 ml_3_86 (Nat.le_of_ble_eq_true rfl) rfl).trans ((ev_max 54 dX3_mishearing_51 ml_3_91 (Nat.le_of_ble_eq_true rfl) rfl).trans (ev_iret dX3_mishearing_54 rfl))))))
theorem dX3_workOut_0 : decode mX3_workOut.1 0 = .ok (.aload_n 0, 1) := by decide +kernel
theorem dX3_workOut_1 : decode mX3_workOut.1 1 = .ok (.iconst 0, 1) := by decide +kernel
theorem dX3_workOut_2 : decode mX3_workOut.1 2 = .ok (.putfield 94, 3) := by decide +kernel
theorem dX3_workOut_5 : decode mX3_workOut.1 5 = .ok (.iconst 0, 1) := by decide +kernel
theorem dX3_workOut_6 : decode mX3_workOut.1 6 = .ok (.istore 5, 2) := by decide +kernel
theorem dX3_workOut_8 : decode mX3_workOut.1 8 = .ok (.iconst 0, 1) := by decide +kernel
theorem dX3_workOut_9 : decode mX3_workOut.1 9 = .ok (.istore 6, 2) := by decide +kernel
theorem dX3_workOut_11 : decode mX3_workOut.1 11 = .ok (.iload 6, 2) := by decide +kernel
theorem dX3_workOut_13 : decode mX3_workOut.1 13 = .ok (.aload_n 0, 1) := by decide +kernel
theorem dX3_workOut_14 : decode mX3_workOut.1 14 = .ok (.getfield 41, 3) := by decide +kernel
theorem dX3_workOut_17 : decode mX3_workOut.1 17 = .ok (.if_icmp .ge 123, 3) := by decide +kernel
theorem dX3_workOut_20 : decode mX3_workOut.1 20 = .ok (.aload_n 0, 1) := by decide +kernel
theorem dX3_workOut_21 : decode mX3_workOut.1 21 = .ok (.getfield 18, 3) := by decide +kernel
theorem dX3_workOut_24 : decode mX3_workOut.1 24 = .ok (.iload 6, 2) := by decide +kernel
theorem dX3_workOut_26 : decode mX3_workOut.1 26 = .ok (.iaload, 1) := by decide +kernel
theorem dX3_workOut_27 : decode mX3_workOut.1 27 = .ok (.istore 7, 2) := by decide +kernel
theorem dX3_workOut_29 : decode mX3_workOut.1 29 = .ok (.iload 5, 2) := by decide +kernel
theorem dX3_workOut_31 : decode mX3_workOut.1 31 = .ok (.ifCond .eq 20, 3) := by decide +kernel
theorem dX3_workOut_34 : decode mX3_workOut.1 34 = .ok (.iload 7, 2) := by decide +kernel
theorem dX3_workOut_36 : decode mX3_workOut.1 36 = .ok (.bipush (-59), 2) := by decide +kernel
theorem dX3_workOut_38 : decode mX3_workOut.1 38 = .ok (.if_icmp .eq 7, 3) := by decide +kernel
theorem dX3_workOut_41 : decode mX3_workOut.1 41 = .ok (.iconst 1, 1) := by decide +kernel
theorem dX3_workOut_42 : decode mX3_workOut.1 42 = .ok (.goto 4, 3) := by decide +kernel
theorem dX3_workOut_45 : decode mX3_workOut.1 45 = .ok (.iconst 0, 1) := by decide +kernel
theorem dX3_workOut_46 : decode mX3_workOut.1 46 = .ok (.istore 5, 2) := by decide +kernel
theorem dX3_workOut_48 : decode mX3_workOut.1 48 = .ok (.goto 86, 3) := by decide +kernel
theorem dX3_workOut_51 : decode mX3_workOut.1 51 = .ok (.iload 7, 2) := by decide +kernel
theorem dX3_workOut_53 : decode mX3_workOut.1 53 = .ok (.bipush (-59), 2) := by decide +kernel
theorem dX3_workOut_55 : decode mX3_workOut.1 55 = .ok (.if_icmp .ne 8, 3) := by decide +kernel
theorem dX3_workOut_58 : decode mX3_workOut.1 58 = .ok (.aload_n 0, 1) := by decide +kernel
theorem dX3_workOut_59 : decode mX3_workOut.1 59 = .ok (.invokevirtual 97, 3) := by decide +kernel
theorem dX3_workOut_62 : decode mX3_workOut.1 62 = .ok (.ireturn, 1) := by decide +kernel
theorem dX3_workOut_63 : decode mX3_workOut.1 63 = .ok (.iload 7, 2) := by decide +kernel
theorem dX3_workOut_65 : decode mX3_workOut.1 65 = .ok (.bipush (-63), 2) := by decide +kernel
theorem dX3_workOut_67 : decode mX3_workOut.1 67 = .ok (.if_icmp .ne 20, 3) := by decide +kernel
theorem dX3_workOut_70 : decode mX3_workOut.1 70 = .ok (.aload_n 0, 1) := by decide +kernel
theorem dX3_workOut_71 : decode mX3_workOut.1 71 = .ok (.invokevirtual 97, 3) := by decide +kernel
theorem dX3_workOut_74 : decode mX3_workOut.1 74 = .ok (.ifCond .ne 7, 3) := by decide +kernel
theorem dX3_workOut_77 : decode mX3_workOut.1 77 = .ok (.iconst 1, 1) := by decide +kernel
theorem dX3_workOut_78 : decode mX3_workOut.1 78 = .ok (.goto 4, 3) := by decide +kernel
theorem dX3_workOut_81 : decode mX3_workOut.1 81 = .ok (.iconst 0, 1) := by decide +kernel
theorem dX3_workOut_82 : decode mX3_workOut.1 82 = .ok (.istore 5, 2) := by decide +kernel
theorem dX3_workOut_84 : decode mX3_workOut.1 84 = .ok (.goto 50, 3) := by decide +kernel
theorem dX3_workOut_87 : decode mX3_workOut.1 87 = .ok (.iload 7, 2) := by decide +kernel
theorem dX3_workOut_89 : decode mX3_workOut.1 89 = .ok (.ifCond .lt 12, 3) := by decide +kernel
theorem dX3_workOut_92 : decode mX3_workOut.1 92 = .ok (.aload_n 0, 1) := by decide +kernel
theorem dX3_workOut_93 : decode mX3_workOut.1 93 = .ok (.iload 7, 2) := by decide +kernel
theorem dX3_workOut_95 : decode mX3_workOut.1 95 = .ok (.invokevirtual 100, 3) := by decide +kernel
theorem dX3_workOut_98 : decode mX3_workOut.1 98 = .ok (.goto 36, 3) := by decide +kernel
theorem dX3_workOut_101 : decode mX3_workOut.1 101 = .ok (.iload 7, 2) := by decide +kernel
theorem dX3_workOut_103 : decode mX3_workOut.1 103 = .ok (.ineg, 1) := by decide +kernel
theorem dX3_workOut_104 : decode mX3_workOut.1 104 = .ok (.invokestatic 73, 3) := by decide +kernel
theorem dX3_workOut_107 : decode mX3_workOut.1 107 = .ok (.ifCond .eq 21, 3) := by decide +kernel
theorem dX3_workOut_110 : decode mX3_workOut.1 110 = .ok (.aload_n 0, 1) := by decide +kernel
theorem dX3_workOut_111 : decode mX3_workOut.1 111 = .ok (.iload 7, 2) := by decide +kernel
theorem dX3_workOut_113 : decode mX3_workOut.1 113 = .ok (.ineg, 1) := by decide +kernel
theorem dX3_workOut_114 : decode mX3_workOut.1 114 = .ok (.aload_n 1, 1) := by decide +kernel
theorem dX3_workOut_115 : decode mX3_workOut.1 115 = .ok (.iload_n 2, 1) := by decide +kernel
theorem dX3_workOut_116 : decode mX3_workOut.1 116 = .ok (.iload_n 3, 1) := by decide +kernel
theorem dX3_workOut_117 : decode mX3_workOut.1 117 = .ok (.iload 4, 2) := by decide +kernel
theorem dX3_workOut_119 : decode mX3_workOut.1 119 = .ok (.invokestatic 103, 3) := by decide +kernel
theorem dX3_workOut_122 : decode mX3_workOut.1 122 = .ok (.invokevirtual 100, 3) := by decide +kernel
theorem dX3_workOut_125 : decode mX3_workOut.1 125 = .ok (.goto 9, 3) := by decide +kernel
theorem dX3_workOut_128 : decode mX3_workOut.1 128 = .ok (.aload_n 0, 1) := by decide +kernel
theorem dX3_workOut_129 : decode mX3_workOut.1 129 = .ok (.iload 7, 2) := by decide +kernel
theorem dX3_workOut_131 : decode mX3_workOut.1 131 = .ok (.invokevirtual 107, 3) := by decide +kernel
theorem dX3_workOut_134 : decode mX3_workOut.1 134 = .ok (.iinc 6 1, 3) := by decide +kernel
theorem dX3_workOut_137 : decode mX3_workOut.1 137 = .ok (.goto (-126), 3) := by decide +kernel
theorem dX3_workOut_140 : decode mX3_workOut.1 140 = .ok (.iconst 0, 1) := by decide +kernel
theorem dX3_workOut_141 : decode mX3_workOut.1 141 = .ok (.ireturn, 1) := by decide +kernel
theorem X3_workOut_0 (h : mm_M) (a2 : Int) (a3 : Int) (a4 : Int) : mm_ev mX3_workOut 3 0 [some (vR 2), some (vR 1), some (vI a2), some (vI a3), some (vI a4), none, none, none] [] h = mm_ev mX3_workOut 3 11 [some (vR 2), some (vR 1), some (vI a2), some (vI a3), some (vI a4), some (vI 0), some (vI 0), none] [] (mUp h 2 9 0) := (ev_aload_n 1 dX3_workOut_0 rfl rfl).trans ((ev_iconst 2 (v := 0) dX3_workOut_1 rfl rfl).trans ((ev_putI 5 9 dX3_workOut_2 fl_3_94 oc2 ak2 rfl rfl rfl).trans ((ev_iconst 6 (v := 0) dX3_workOut_5 rfl rfl).trans ((ev_istore 8 [some (vR 2), some (vR 1), some (vI a2), some (vI a3), some (vI a4), some (vI 0), none, none] dX3_workOut_6 rfl rfl).trans ((ev_iconst 9 (v := 0) dX3_workOut_8 rfl rfl).trans (ev_istore 11 [some (vR 2), some (vR 1), some (vI a2), some (vI a3), some (vI a4), some (vI 0), some (vI 0), none] dX3_workOut_9 rfl rfl))))))
theorem X3_workOut_c (h : mm_M) (a2 : Int) (a3 : Int) (a4 : Int) : mm_call mX3_workOut [vR 2, vR 1, vI a2, vI a3, vI a4] h = mm_ev mX3_workOut 3 11 [some (vR 2), some (vR 1), some (vI a2), some (vI a3), some (vI a4), some (vI 0), some (vI 0), none] [] (mUp h 2 9 0) := X3_workOut_0 h a2 a3 a4
theorem X3_workOut_11 (h : mm_M) (a2 : Int) (a3 : Int) (a4 : Int) (a5 : Int) (a6 : Int) (o7 : Option mm_V) (hk_d : mm_ak ((h 2 6).toNat) = 1) (hn_d : mm_an ((h 2 6).toNat) = 121) : mm_ev mX3_workOut 3 11 [some (vR 2), some (vR 1), some (vI a2), some (vI a3), some (vI a4), some (vI a5), some (vI a6), o7] [] h = if (h 2 7) ≤ a6 then some ([vI 0], h) else if 0 ≤ a6 ∧ a6 < 121 then if a5 = 0 then if ¬ (h ((h 2 6).toNat) a6) = (-59) then if ¬ (h ((h 2 6).toNat) a6) = (-63) then if (h ((h 2 6).toNat) a6) < 0 then (mm_call mX3_isName [vI (w32 (-(h ((h 2 6).toNat) a6)))] h).bind (fun w => mm_ev mX3_workOut 3 107 [some (vR 2), some (vR 1), some (vI a2), some (vI a3), some (vI a4), some (vI a5), some (vI a6), some (vI (h ((h 2 6).toNat) a6))] (w.1 ++ []) w.2) else (mm_call mX3_push [vR 2, vI (h ((h 2 6).toNat) a6)] h).bind (fun w => mm_ev mX3_workOut 3 98 [some (vR 2), some (vR 1), some (vI a2), some (vI a3), some (vI a4), some (vI a5), some (vI a6), some (vI (h ((h 2 6).toNat) a6))] (w.1 ++ []) w.2) else (mm_call mX3_pop [vR 2] h).bind (fun w => mm_ev mX3_workOut 3 74 [some (vR 2), some (vR 1), some (vI a2), some (vI a3), some (vI a4), some (vI a5), some (vI a6), some (vI (h ((h 2 6).toNat) a6))] (w.1 ++ []) w.2) else (mm_call mX3_pop [vR 2] h).bind (fun w => mm_ev mX3_workOut 3 62 [some (vR 2), some (vR 1), some (vI a2), some (vI a3), some (vI a4), some (vI a5), some (vI a6), some (vI (h ((h 2 6).toNat) a6))] (w.1 ++ []) w.2) else if (h ((h 2 6).toNat) a6) = (-59) then mm_ev mX3_workOut 3 134 [some (vR 2), some (vR 1), some (vI a2), some (vI a3), some (vI a4), some (vI 0), some (vI a6), some (vI (h ((h 2 6).toNat) a6))] [] h else mm_ev mX3_workOut 3 134 [some (vR 2), some (vR 1), some (vI a2), some (vI a3), some (vI a4), some (vI 1), some (vI a6), some (vI (h ((h 2 6).toNat) a6))] [] h else none := (ev_iload 13 dX3_workOut_11 rfl rfl).trans ((ev_aload_n 14 dX3_workOut_13 rfl rfl).trans ((ev_getI 17 7 dX3_workOut_14 fl_3_41 oc2 ak2 (by decide) rfl rfl).trans ((ev_ic_ge 140 20 dX3_workOut_17 rfl rfl).trans (mm_ite ((ev_iconst 141 (v := 0) dX3_workOut_140 rfl rfl).trans (ev_iret dX3_workOut_141 rfl)) ((ev_aload_n 21 dX3_workOut_20 rfl rfl).trans ((ev_getR 24 6 dX3_workOut_21 fl_3_18 oc2 ak2 rfl rfl rfl).trans ((ev_iload 26 dX3_workOut_24 rfl rfl).trans ((ev_iald 27 121 dX3_workOut_26 hk_d hn_d rfl).trans (mm_ite ((ev_istore 29 [some (vR 2), some (vR 1), some (vI a2), some (vI a3), some (vI a4), some (vI a5), some (vI a6), some (vI (h ((h 2 6).toNat) a6))] dX3_workOut_27 rfl rfl).trans ((ev_iload 31 dX3_workOut_29 rfl rfl).trans ((ev_if_eq 51 34 dX3_workOut_31 rfl rfl).trans (mm_ite ((ev_iload 53 dX3_workOut_51 rfl rfl).trans ((ev_bipush 55 (v := (-59)) dX3_workOut_53 rfl rfl).trans ((ev_ic_ne 63 58 dX3_workOut_55 rfl rfl).trans (mm_ite ((ev_iload 65 dX3_workOut_63 rfl rfl).trans ((ev_bipush 67 (v := (-63)) dX3_workOut_65 rfl rfl).trans ((ev_ic_ne 87 70 dX3_workOut_67 rfl rfl).trans (mm_ite ((ev_iload 89 dX3_workOut_87 rfl rfl).trans ((ev_if_lt 101 92 dX3_workOut_89 rfl rfl).trans (mm_ite ((ev_iload 103 dX3_workOut_101 rfl rfl).trans ((ev_ineg 104 dX3_workOut_103 rfl).trans ((ev_calls mX3_isName [vI (w32 (-(h ((h 2 6).toNat) a6)))] [] 107 dX3_workOut_104 ml_3_73 k30 rfl rfl rfl (Nat.le_of_ble_eq_true rfl) (Nat.le_of_ble_eq_true rfl) rfl).trans (if_pos (show 1 < 3 from by decide))))) ((ev_aload_n 93 dX3_workOut_92 rfl rfl).trans ((ev_iload 95 dX3_workOut_93 rfl rfl).trans ((ev_callv mX3_push [vR 2, vI (h ((h 2 6).toNat) a6)] [] 98 dX3_workOut_95 ml_3_100 k37 rfl oc2 ak2 rfl rfl (Nat.le_of_ble_eq_true rfl) (Nat.le_of_ble_eq_true rfl) rfl).trans (if_pos (show 1 < 3 from by decide)))))))) ((ev_aload_n 71 dX3_workOut_70 rfl rfl).trans ((ev_callv mX3_pop [vR 2] [] 74 dX3_workOut_71 ml_3_97 k38 rfl oc2 ak2 rfl rfl (Nat.le_of_ble_eq_true rfl) (Nat.le_of_ble_eq_true rfl) rfl).trans (if_pos (show 1 < 3 from by decide)))))))) ((ev_aload_n 59 dX3_workOut_58 rfl rfl).trans ((ev_callv mX3_pop [vR 2] [] 62 dX3_workOut_59 ml_3_97 k38 rfl oc2 ak2 rfl rfl (Nat.le_of_ble_eq_true rfl) (Nat.le_of_ble_eq_true rfl) rfl).trans (if_pos (show 1 < 3 from by decide)))))))) ((ev_iload 36 dX3_workOut_34 rfl rfl).trans ((ev_bipush 38 (v := (-59)) dX3_workOut_36 rfl rfl).trans ((ev_ic_eq 45 41 dX3_workOut_38 rfl rfl).trans (mm_ite ((ev_iconst 46 (v := 0) dX3_workOut_45 rfl rfl).trans ((ev_istore 48 [some (vR 2), some (vR 1), some (vI a2), some (vI a3), some (vI a4), some (vI 0), some (vI a6), some (vI (h ((h 2 6).toNat) a6))] dX3_workOut_46 rfl rfl).trans (ev_goto 134 dX3_workOut_48 rfl))) ((ev_iconst 42 (v := 1) dX3_workOut_41 rfl rfl).trans ((ev_goto 46 dX3_workOut_42 rfl).trans ((ev_istore 48 [some (vR 2), some (vR 1), some (vI a2), some (vI a3), some (vI a4), some (vI 1), some (vI a6), some (vI (h ((h 2 6).toNat) a6))] dX3_workOut_46 rfl rfl).trans (ev_goto 134 dX3_workOut_48 rfl)))))))))))) (rfl))))))))))
theorem X3_workOut_62 (h : mm_M) (a2 : Int) (a3 : Int) (a4 : Int) (a5 : Int) (a6 : Int) (a7 : Int) (s0 : Int) : mm_ev mX3_workOut 3 62 [some (vR 2), some (vR 1), some (vI a2), some (vI a3), some (vI a4), some (vI a5), some (vI a6), some (vI a7)] [vI s0] h = some ([vI s0], h) := ev_iret dX3_workOut_62 rfl
theorem X3_workOut_74 (h : mm_M) (a2 : Int) (a3 : Int) (a4 : Int) (a5 : Int) (a6 : Int) (a7 : Int) (s0 : Int) : mm_ev mX3_workOut 3 74 [some (vR 2), some (vR 1), some (vI a2), some (vI a3), some (vI a4), some (vI a5), some (vI a6), some (vI a7)] [vI s0] h = if ¬ s0 = 0 then mm_ev mX3_workOut 3 134 [some (vR 2), some (vR 1), some (vI a2), some (vI a3), some (vI a4), some (vI 0), some (vI a6), some (vI a7)] [] h else mm_ev mX3_workOut 3 134 [some (vR 2), some (vR 1), some (vI a2), some (vI a3), some (vI a4), some (vI 1), some (vI a6), some (vI a7)] [] h := (ev_if_ne 81 77 dX3_workOut_74 rfl rfl).trans (mm_ite ((ev_iconst 82 (v := 0) dX3_workOut_81 rfl rfl).trans ((ev_istore 84 [some (vR 2), some (vR 1), some (vI a2), some (vI a3), some (vI a4), some (vI 0), some (vI a6), some (vI a7)] dX3_workOut_82 rfl rfl).trans (ev_goto 134 dX3_workOut_84 rfl))) ((ev_iconst 78 (v := 1) dX3_workOut_77 rfl rfl).trans ((ev_goto 82 dX3_workOut_78 rfl).trans ((ev_istore 84 [some (vR 2), some (vR 1), some (vI a2), some (vI a3), some (vI a4), some (vI 1), some (vI a6), some (vI a7)] dX3_workOut_82 rfl rfl).trans (ev_goto 134 dX3_workOut_84 rfl)))))
theorem X3_workOut_98 (h : mm_M) (a2 : Int) (a3 : Int) (a4 : Int) (a5 : Int) (a6 : Int) (a7 : Int) : mm_ev mX3_workOut 3 98 [some (vR 2), some (vR 1), some (vI a2), some (vI a3), some (vI a4), some (vI a5), some (vI a6), some (vI a7)] [] h = mm_ev mX3_workOut 3 134 [some (vR 2), some (vR 1), some (vI a2), some (vI a3), some (vI a4), some (vI a5), some (vI a6), some (vI a7)] [] h := ev_goto 134 dX3_workOut_98 rfl
theorem X3_workOut_107 (h : mm_M) (a2 : Int) (a3 : Int) (a4 : Int) (a5 : Int) (a6 : Int) (a7 : Int) (s0 : Int) : mm_ev mX3_workOut 3 107 [some (vR 2), some (vR 1), some (vI a2), some (vI a3), some (vI a4), some (vI a5), some (vI a6), some (vI a7)] [vI s0] h = if s0 = 0 then (mm_call mX3_doStep [vR 2, vI a7] h).bind (fun w => mm_ev mX3_workOut 3 134 [some (vR 2), some (vR 1), some (vI a2), some (vI a3), some (vI a4), some (vI a5), some (vI a6), some (vI a7)] (w.1 ++ []) w.2) else (mm_call mX3_valueOf [vI (w32 (-a7)), vR 1, vI a2, vI a3, vI a4] h).bind (fun w => mm_ev mX3_workOut 3 122 [some (vR 2), some (vR 1), some (vI a2), some (vI a3), some (vI a4), some (vI a5), some (vI a6), some (vI a7)] (w.1 ++ [vR 2]) w.2) := (ev_if_eq 128 110 dX3_workOut_107 rfl rfl).trans (mm_ite ((ev_aload_n 129 dX3_workOut_128 rfl rfl).trans ((ev_iload 131 dX3_workOut_129 rfl rfl).trans ((ev_callv mX3_doStep [vR 2, vI a7] [] 134 dX3_workOut_131 ml_3_107 k35 rfl oc2 ak2 rfl rfl (Nat.le_of_ble_eq_true rfl) (Nat.le_of_ble_eq_true rfl) rfl).trans (if_pos (show 2 < 3 from by decide))))) ((ev_aload_n 111 dX3_workOut_110 rfl rfl).trans ((ev_iload 113 dX3_workOut_111 rfl rfl).trans ((ev_ineg 114 dX3_workOut_113 rfl).trans ((ev_aload_n 115 dX3_workOut_114 rfl rfl).trans ((ev_iload_n 116 dX3_workOut_115 rfl rfl).trans ((ev_iload_n 117 dX3_workOut_116 rfl rfl).trans ((ev_iload 119 dX3_workOut_117 rfl rfl).trans ((ev_calls mX3_valueOf [vI (w32 (-a7)), vR 1, vI a2, vI a3, vI a4] [vR 2] 122 dX3_workOut_119 ml_3_103 k34 rfl rfl rfl (Nat.le_of_ble_eq_true rfl) (Nat.le_of_ble_eq_true rfl) rfl).trans (if_pos (show 2 < 3 from by decide)))))))))))
theorem X3_workOut_122 (h : mm_M) (a2 : Int) (a3 : Int) (a4 : Int) (a5 : Int) (a6 : Int) (a7 : Int) (s0 : Int) : mm_ev mX3_workOut 3 122 [some (vR 2), some (vR 1), some (vI a2), some (vI a3), some (vI a4), some (vI a5), some (vI a6), some (vI a7)] [vI s0, vR 2] h = (mm_call mX3_push [vR 2, vI s0] h).bind (fun w => mm_ev mX3_workOut 3 125 [some (vR 2), some (vR 1), some (vI a2), some (vI a3), some (vI a4), some (vI a5), some (vI a6), some (vI a7)] (w.1 ++ []) w.2) := (ev_callv mX3_push [vR 2, vI s0] [] 125 dX3_workOut_122 ml_3_100 k37 rfl oc2 ak2 rfl rfl (Nat.le_of_ble_eq_true rfl) (Nat.le_of_ble_eq_true rfl) rfl).trans (if_pos (show 1 < 3 from by decide))
theorem X3_workOut_125 (h : mm_M) (a2 : Int) (a3 : Int) (a4 : Int) (a5 : Int) (a6 : Int) (a7 : Int) : mm_ev mX3_workOut 3 125 [some (vR 2), some (vR 1), some (vI a2), some (vI a3), some (vI a4), some (vI a5), some (vI a6), some (vI a7)] [] h = mm_ev mX3_workOut 3 134 [some (vR 2), some (vR 1), some (vI a2), some (vI a3), some (vI a4), some (vI a5), some (vI a6), some (vI a7)] [] h := ev_goto 134 dX3_workOut_125 rfl
theorem X3_workOut_134 (h : mm_M) (a2 : Int) (a3 : Int) (a4 : Int) (a5 : Int) (a6 : Int) (a7 : Int) : mm_ev mX3_workOut 3 134 [some (vR 2), some (vR 1), some (vI a2), some (vI a3), some (vI a4), some (vI a5), some (vI a6), some (vI a7)] [] h = mm_ev mX3_workOut 3 11 [some (vR 2), some (vR 1), some (vI a2), some (vI a3), some (vI a4), some (vI a5), some (vI (w32 (a6 + 1))), some (vI a7)] [] h := (ev_iinc 137 [some (vR 2), some (vR 1), some (vI a2), some (vI a3), some (vI a4), some (vI a5), some (vI (w32 (a6 + 1))), some (vI a7)] dX3_workOut_134 rfl rfl rfl).trans (ev_goto 11 dX3_workOut_137 rfl)
theorem dX3_pop_0 : decode mX3_pop.1 0 = .ok (.aload_n 0, 1) := by decide +kernel
theorem dX3_pop_1 : decode mX3_pop.1 1 = .ok (.getfield 94, 3) := by decide +kernel
theorem dX3_pop_4 : decode mX3_pop.1 4 = .ok (.ifCond .ne 5, 3) := by decide +kernel
theorem dX3_pop_7 : decode mX3_pop.1 7 = .ok (.iconst 0, 1) := by decide +kernel
theorem dX3_pop_8 : decode mX3_pop.1 8 = .ok (.ireturn, 1) := by decide +kernel
theorem dX3_pop_9 : decode mX3_pop.1 9 = .ok (.aload_n 0, 1) := by decide +kernel
theorem dX3_pop_10 : decode mX3_pop.1 10 = .ok (.dup, 1) := by decide +kernel
theorem dX3_pop_11 : decode mX3_pop.1 11 = .ok (.getfield 94, 3) := by decide +kernel
theorem dX3_pop_14 : decode mX3_pop.1 14 = .ok (.iconst 1, 1) := by decide +kernel
theorem dX3_pop_15 : decode mX3_pop.1 15 = .ok (.isub, 1) := by decide +kernel
theorem dX3_pop_16 : decode mX3_pop.1 16 = .ok (.putfield 94, 3) := by decide +kernel
theorem dX3_pop_19 : decode mX3_pop.1 19 = .ok (.aload_n 0, 1) := by decide +kernel
theorem dX3_pop_20 : decode mX3_pop.1 20 = .ok (.getfield 21, 3) := by decide +kernel
theorem dX3_pop_23 : decode mX3_pop.1 23 = .ok (.aload_n 0, 1) := by decide +kernel
theorem dX3_pop_24 : decode mX3_pop.1 24 = .ok (.getfield 94, 3) := by decide +kernel
theorem dX3_pop_27 : decode mX3_pop.1 27 = .ok (.iaload, 1) := by decide +kernel
theorem dX3_pop_28 : decode mX3_pop.1 28 = .ok (.ireturn, 1) := by decide +kernel
theorem X3_pop_0 (h : mm_M) : mm_ev mX3_pop 1 0 [some (vR 2)] [] h = if ¬ (h 2 9) = 0 then if 0 ≤ ((mUp h 2 9 (w32 ((h 2 9) - 1))) 2 9) ∧ ((mUp h 2 9 (w32 ((h 2 9) - 1))) 2 9) < 64 then some ([vI ((mUp h 2 9 (w32 ((h 2 9) - 1))) 18 ((mUp h 2 9 (w32 ((h 2 9) - 1))) 2 9))], mUp h 2 9 (w32 ((h 2 9) - 1))) else none else some ([vI 0], h) := (ev_aload_n 1 dX3_pop_0 rfl rfl).trans ((ev_getI 4 9 dX3_pop_1 fl_3_94 oc2 ak2 (by decide) rfl rfl).trans ((ev_if_ne 9 7 dX3_pop_4 rfl rfl).trans (mm_ite ((ev_aload_n 10 dX3_pop_9 rfl rfl).trans ((ev_dup 11 dX3_pop_10 rfl rfl).trans ((ev_getI 14 9 dX3_pop_11 fl_3_94 oc2 ak2 (by decide) rfl rfl).trans ((ev_iconst 15 (v := 1) dX3_pop_14 rfl rfl).trans ((ev_isub 16 dX3_pop_15 rfl).trans ((ev_putI 19 9 dX3_pop_16 fl_3_94 oc2 ak2 rfl rfl rfl).trans ((ev_aload_n 20 dX3_pop_19 rfl rfl).trans ((ev_getF 23 18 dX3_pop_20 fl_3_21 oc2 ak2 rfl rf_2_8 rfl).trans ((ev_aload_n 24 dX3_pop_23 rfl rfl).trans ((ev_getI 27 9 dX3_pop_24 fl_3_94 oc2 ak2 (by decide) rfl rfl).trans ((ev_iald 28 64 dX3_pop_27 ak18 an18 rfl).trans (mm_ite (ev_iret dX3_pop_28 rfl) (rfl))))))))))))) ((ev_iconst 8 (v := 0) dX3_pop_7 rfl rfl).trans (ev_iret dX3_pop_8 rfl)))))
theorem X3_pop_c (h : mm_M) : mm_call mX3_pop [vR 2] h = if ¬ (h 2 9) = 0 then if 0 ≤ ((mUp h 2 9 (w32 ((h 2 9) - 1))) 2 9) ∧ ((mUp h 2 9 (w32 ((h 2 9) - 1))) 2 9) < 64 then some ([vI ((mUp h 2 9 (w32 ((h 2 9) - 1))) 18 ((mUp h 2 9 (w32 ((h 2 9) - 1))) 2 9))], mUp h 2 9 (w32 ((h 2 9) - 1))) else none else some ([vI 0], h) := X3_pop_0 h 
theorem dX3_push_0 : decode mX3_push.1 0 = .ok (.aload_n 0, 1) := by decide +kernel
theorem dX3_push_1 : decode mX3_push.1 1 = .ok (.getfield 94, 3) := by decide +kernel
theorem dX3_push_4 : decode mX3_push.1 4 = .ok (.bipush 64, 2) := by decide +kernel
theorem dX3_push_6 : decode mX3_push.1 6 = .ok (.if_icmp .ge 23, 3) := by decide +kernel
theorem dX3_push_9 : decode mX3_push.1 9 = .ok (.aload_n 0, 1) := by decide +kernel
theorem dX3_push_10 : decode mX3_push.1 10 = .ok (.getfield 21, 3) := by decide +kernel
theorem dX3_push_13 : decode mX3_push.1 13 = .ok (.aload_n 0, 1) := by decide +kernel
theorem dX3_push_14 : decode mX3_push.1 14 = .ok (.getfield 94, 3) := by decide +kernel
theorem dX3_push_17 : decode mX3_push.1 17 = .ok (.iload_n 1, 1) := by decide +kernel
theorem dX3_push_18 : decode mX3_push.1 18 = .ok (.iastore, 1) := by decide +kernel
theorem dX3_push_19 : decode mX3_push.1 19 = .ok (.aload_n 0, 1) := by decide +kernel
theorem dX3_push_20 : decode mX3_push.1 20 = .ok (.dup, 1) := by decide +kernel
theorem dX3_push_21 : decode mX3_push.1 21 = .ok (.getfield 94, 3) := by decide +kernel
theorem dX3_push_24 : decode mX3_push.1 24 = .ok (.iconst 1, 1) := by decide +kernel
theorem dX3_push_25 : decode mX3_push.1 25 = .ok (.iadd, 1) := by decide +kernel
theorem dX3_push_26 : decode mX3_push.1 26 = .ok (.putfield 94, 3) := by decide +kernel
theorem dX3_push_29 : decode mX3_push.1 29 = .ok (.return_, 1) := by decide +kernel
theorem X3_push_0 (h : mm_M) (a1 : Int) : mm_ev mX3_push 1 0 [some (vR 2), some (vI a1)] [] h = if 64 ≤ (h 2 9) then some ([], h) else if 0 ≤ (h 2 9) ∧ (h 2 9) < 64 then some ([], mUp (mUp h 18 (h 2 9) a1) 2 9 (w32 (((mUp h 18 (h 2 9) a1) 2 9) + 1))) else none := (ev_aload_n 1 dX3_push_0 rfl rfl).trans ((ev_getI 4 9 dX3_push_1 fl_3_94 oc2 ak2 (by decide) rfl rfl).trans ((ev_bipush 6 (v := 64) dX3_push_4 rfl rfl).trans ((ev_ic_ge 29 9 dX3_push_6 rfl rfl).trans (mm_ite (ev_vret dX3_push_29 rfl) ((ev_aload_n 10 dX3_push_9 rfl rfl).trans ((ev_getF 13 18 dX3_push_10 fl_3_21 oc2 ak2 rfl rf_2_8 rfl).trans ((ev_aload_n 14 dX3_push_13 rfl rfl).trans ((ev_getI 17 9 dX3_push_14 fl_3_94 oc2 ak2 (by decide) rfl rfl).trans ((ev_iload_n 18 dX3_push_17 rfl rfl).trans ((ev_iast 19 64 dX3_push_18 ak18 an18 rfl).trans (mm_ite ((ev_aload_n 20 dX3_push_19 rfl rfl).trans ((ev_dup 21 dX3_push_20 rfl rfl).trans ((ev_getI 24 9 dX3_push_21 fl_3_94 oc2 ak2 (by decide) rfl rfl).trans ((ev_iconst 25 (v := 1) dX3_push_24 rfl rfl).trans ((ev_iadd 26 dX3_push_25 rfl).trans ((ev_putI 29 9 dX3_push_26 fl_3_94 oc2 ak2 rfl rfl rfl).trans (ev_vret dX3_push_29 rfl))))))) (rfl))))))))))))
theorem X3_push_c (h : mm_M) (a1 : Int) : mm_call mX3_push [vR 2, vI a1] h = if 64 ≤ (h 2 9) then some ([], h) else if 0 ≤ (h 2 9) ∧ (h 2 9) < 64 then some ([], mUp (mUp h 18 (h 2 9) a1) 2 9 (w32 (((mUp h 18 (h 2 9) a1) 2 9) + 1))) else none := X3_push_0 h a1
theorem dX3_isName_0 : decode mX3_isName.1 0 = .ok (.iload_n 0, 1) := by decide +kernel
theorem dX3_isName_1 : decode mX3_isName.1 1 = .ok (.bipush 121, 2) := by decide +kernel
theorem dX3_isName_3 : decode mX3_isName.1 3 = .ok (.if_icmp .eq 33, 3) := by decide +kernel
theorem dX3_isName_6 : decode mX3_isName.1 6 = .ok (.iload_n 0, 1) := by decide +kernel
theorem dX3_isName_7 : decode mX3_isName.1 7 = .ok (.bipush 110, 2) := by decide +kernel
theorem dX3_isName_9 : decode mX3_isName.1 9 = .ok (.if_icmp .eq 27, 3) := by decide +kernel
theorem dX3_isName_12 : decode mX3_isName.1 12 = .ok (.iload_n 0, 1) := by decide +kernel
theorem dX3_isName_13 : decode mX3_isName.1 13 = .ok (.bipush 99, 2) := by decide +kernel
theorem dX3_isName_15 : decode mX3_isName.1 15 = .ok (.if_icmp .eq 21, 3) := by decide +kernel
theorem dX3_isName_18 : decode mX3_isName.1 18 = .ok (.iload_n 0, 1) := by decide +kernel
theorem dX3_isName_19 : decode mX3_isName.1 19 = .ok (.bipush 112, 2) := by decide +kernel
theorem dX3_isName_21 : decode mX3_isName.1 21 = .ok (.if_icmp .eq 15, 3) := by decide +kernel
theorem dX3_isName_24 : decode mX3_isName.1 24 = .ok (.iload_n 0, 1) := by decide +kernel
theorem dX3_isName_25 : decode mX3_isName.1 25 = .ok (.bipush 119, 2) := by decide +kernel
theorem dX3_isName_27 : decode mX3_isName.1 27 = .ok (.if_icmp .eq 9, 3) := by decide +kernel
theorem dX3_isName_30 : decode mX3_isName.1 30 = .ok (.iload_n 0, 1) := by decide +kernel
theorem dX3_isName_31 : decode mX3_isName.1 31 = .ok (.bipush 108, 2) := by decide +kernel
theorem dX3_isName_33 : decode mX3_isName.1 33 = .ok (.if_icmp .ne 7, 3) := by decide +kernel
theorem dX3_isName_36 : decode mX3_isName.1 36 = .ok (.iconst 1, 1) := by decide +kernel
theorem dX3_isName_37 : decode mX3_isName.1 37 = .ok (.goto 4, 3) := by decide +kernel
theorem dX3_isName_40 : decode mX3_isName.1 40 = .ok (.iconst 0, 1) := by decide +kernel
theorem dX3_isName_41 : decode mX3_isName.1 41 = .ok (.ireturn, 1) := by decide +kernel
theorem X3_isName_0 (h : mm_M) (a0 : Int) : mm_ev mX3_isName 1 0 [some (vI a0)] [] h = if a0 = 121 then some ([vI 1], h) else if a0 = 110 then some ([vI 1], h) else if a0 = 99 then some ([vI 1], h) else if a0 = 112 then some ([vI 1], h) else if a0 = 119 then some ([vI 1], h) else if ¬ a0 = 108 then some ([vI 0], h) else some ([vI 1], h) := (ev_iload_n 1 dX3_isName_0 rfl rfl).trans ((ev_bipush 3 (v := 121) dX3_isName_1 rfl rfl).trans ((ev_ic_eq 36 6 dX3_isName_3 rfl rfl).trans (mm_ite ((ev_iconst 37 (v := 1) dX3_isName_36 rfl rfl).trans ((ev_goto 41 dX3_isName_37 rfl).trans (ev_zret1 dX3_isName_41 rfl))) ((ev_iload_n 7 dX3_isName_6 rfl rfl).trans ((ev_bipush 9 (v := 110) dX3_isName_7 rfl rfl).trans ((ev_ic_eq 36 12 dX3_isName_9 rfl rfl).trans (mm_ite ((ev_iconst 37 (v := 1) dX3_isName_36 rfl rfl).trans ((ev_goto 41 dX3_isName_37 rfl).trans (ev_zret1 dX3_isName_41 rfl))) ((ev_iload_n 13 dX3_isName_12 rfl rfl).trans ((ev_bipush 15 (v := 99) dX3_isName_13 rfl rfl).trans ((ev_ic_eq 36 18 dX3_isName_15 rfl rfl).trans (mm_ite ((ev_iconst 37 (v := 1) dX3_isName_36 rfl rfl).trans ((ev_goto 41 dX3_isName_37 rfl).trans (ev_zret1 dX3_isName_41 rfl))) ((ev_iload_n 19 dX3_isName_18 rfl rfl).trans ((ev_bipush 21 (v := 112) dX3_isName_19 rfl rfl).trans ((ev_ic_eq 36 24 dX3_isName_21 rfl rfl).trans (mm_ite ((ev_iconst 37 (v := 1) dX3_isName_36 rfl rfl).trans ((ev_goto 41 dX3_isName_37 rfl).trans (ev_zret1 dX3_isName_41 rfl))) ((ev_iload_n 25 dX3_isName_24 rfl rfl).trans ((ev_bipush 27 (v := 119) dX3_isName_25 rfl rfl).trans ((ev_ic_eq 36 30 dX3_isName_27 rfl rfl).trans (mm_ite ((ev_iconst 37 (v := 1) dX3_isName_36 rfl rfl).trans ((ev_goto 41 dX3_isName_37 rfl).trans (ev_zret1 dX3_isName_41 rfl))) ((ev_iload_n 31 dX3_isName_30 rfl rfl).trans ((ev_bipush 33 (v := 108) dX3_isName_31 rfl rfl).trans ((ev_ic_ne 40 36 dX3_isName_33 rfl rfl).trans (mm_ite ((ev_iconst 41 (v := 0) dX3_isName_40 rfl rfl).trans (ev_zret0 dX3_isName_41 rfl)) ((ev_iconst 37 (v := 1) dX3_isName_36 rfl rfl).trans ((ev_goto 41 dX3_isName_37 rfl).trans (ev_zret1 dX3_isName_41 rfl))))))))))))))))))))))))))
theorem X3_isName_c (h : mm_M) (a0 : Int) : mm_call mX3_isName [vI a0] h = if a0 = 121 then some ([vI 1], h) else if a0 = 110 then some ([vI 1], h) else if a0 = 99 then some ([vI 1], h) else if a0 = 112 then some ([vI 1], h) else if a0 = 119 then some ([vI 1], h) else if ¬ a0 = 108 then some ([vI 0], h) else some ([vI 1], h) := X3_isName_0 h a0
theorem dX3_valueOf_0 : decode mX3_valueOf.1 0 = .ok (.aload_n 1, 1) := by decide +kernel
theorem dX3_valueOf_1 : decode mX3_valueOf.1 1 = .ok (.iconst 3, 1) := by decide +kernel
theorem dX3_valueOf_2 : decode mX3_valueOf.1 2 = .ok (.iload_n 2, 1) := by decide +kernel
theorem dX3_valueOf_3 : decode mX3_valueOf.1 3 = .ok (.invokevirtual 76, 3) := by decide +kernel
theorem dX3_valueOf_6 : decode mX3_valueOf.1 6 = .ok (.istore 5, 2) := by decide +kernel
theorem dX3_valueOf_8 : decode mX3_valueOf.1 8 = .ok (.iload_n 0, 1) := by decide +kernel
theorem dX3_valueOf_9 : decode mX3_valueOf.1 9 = .ok (.lookupswitch 68 #[(99, 57), (110, 54), (112, 64), (119, 66), (121, 51)], 51) := by decide +kernel
theorem dX3_valueOf_60 : decode mX3_valueOf.1 60 = .ok (.iload 5, 2) := by decide +kernel
theorem dX3_valueOf_62 : decode mX3_valueOf.1 62 = .ok (.ireturn, 1) := by decide +kernel
theorem dX3_valueOf_63 : decode mX3_valueOf.1 63 = .ok (.iload 4, 2) := by decide +kernel
theorem dX3_valueOf_65 : decode mX3_valueOf.1 65 = .ok (.ireturn, 1) := by decide +kernel
theorem dX3_valueOf_66 : decode mX3_valueOf.1 66 = .ok (.aload_n 1, 1) := by decide +kernel
theorem dX3_valueOf_67 : decode mX3_valueOf.1 67 = .ok (.iconst 2, 1) := by decide +kernel
theorem dX3_valueOf_68 : decode mX3_valueOf.1 68 = .ok (.iload_n 3, 1) := by decide +kernel
theorem dX3_valueOf_69 : decode mX3_valueOf.1 69 = .ok (.invokevirtual 76, 3) := by decide +kernel
theorem dX3_valueOf_72 : decode mX3_valueOf.1 72 = .ok (.ireturn, 1) := by decide +kernel
theorem dX3_valueOf_73 : decode mX3_valueOf.1 73 = .ok (.iload_n 3, 1) := by decide +kernel
theorem dX3_valueOf_74 : decode mX3_valueOf.1 74 = .ok (.ireturn, 1) := by decide +kernel
theorem dX3_valueOf_75 : decode mX3_valueOf.1 75 = .ok (.iload_n 2, 1) := by decide +kernel
theorem dX3_valueOf_76 : decode mX3_valueOf.1 76 = .ok (.ireturn, 1) := by decide +kernel
theorem dX3_valueOf_77 : decode mX3_valueOf.1 77 = .ok (.iload 5, 2) := by decide +kernel
theorem dX3_valueOf_79 : decode mX3_valueOf.1 79 = .ok (.aload_n 1, 1) := by decide +kernel
theorem dX3_valueOf_80 : decode mX3_valueOf.1 80 = .ok (.iconst 3, 1) := by decide +kernel
theorem dX3_valueOf_81 : decode mX3_valueOf.1 81 = .ok (.aload_n 1, 1) := by decide +kernel
theorem dX3_valueOf_82 : decode mX3_valueOf.1 82 = .ok (.iconst 4, 1) := by decide +kernel
theorem dX3_valueOf_83 : decode mX3_valueOf.1 83 = .ok (.iload_n 2, 1) := by decide +kernel
theorem dX3_valueOf_84 : decode mX3_valueOf.1 84 = .ok (.invokevirtual 76, 3) := by decide +kernel
theorem dX3_valueOf_87 : decode mX3_valueOf.1 87 = .ok (.invokevirtual 76, 3) := by decide +kernel
theorem dX3_valueOf_90 : decode mX3_valueOf.1 90 = .ok (.isub, 1) := by decide +kernel
theorem dX3_valueOf_91 : decode mX3_valueOf.1 91 = .ok (.invokestatic 110, 3) := by decide +kernel
theorem dX3_valueOf_94 : decode mX3_valueOf.1 94 = .ok (.ireturn, 1) := by decide +kernel
theorem X3_valueOf_0 (h : mm_M) (a0 : Int) (a2 : Int) (a3 : Int) (a4 : Int) : mm_ev mX3_valueOf 2 0 [some (vI a0), some (vR 1), some (vI a2), some (vI a3), some (vI a4), none] [] h = (mm_call mX4_get [vR 1, vI 3, vI a2] h).bind (fun w => mm_ev mX3_valueOf 2 6 [some (vI a0), some (vR 1), some (vI a2), some (vI a3), some (vI a4), none] (w.1 ++ []) w.2) := (ev_aload_n 1 dX3_valueOf_0 rfl rfl).trans ((ev_iconst 2 (v := 3) dX3_valueOf_1 rfl rfl).trans ((ev_iload_n 3 dX3_valueOf_2 rfl rfl).trans ((ev_callv mX4_get [vR 1, vI 3, vI a2] [] 6 dX3_valueOf_3 ml_3_76 k41 rfl oc1 ak1 rfl rfl (Nat.le_of_ble_eq_true rfl) (Nat.le_of_ble_eq_true rfl) rfl).trans (if_pos (show 1 < 2 from by decide)))))
theorem X3_valueOf_c (h : mm_M) (a0 : Int) (a2 : Int) (a3 : Int) (a4 : Int) : mm_call mX3_valueOf [vI a0, vR 1, vI a2, vI a3, vI a4] h = (mm_call mX4_get [vR 1, vI 3, vI a2] h).bind (fun w => mm_ev mX3_valueOf 2 6 [some (vI a0), some (vR 1), some (vI a2), some (vI a3), some (vI a4), none] (w.1 ++ []) w.2) := X3_valueOf_0 h a0 a2 a3 a4
theorem X3_valueOf_6 (h : mm_M) (a0 : Int) (a2 : Int) (a3 : Int) (a4 : Int) (s0 : Int) : mm_ev mX3_valueOf 2 6 [some (vI a0), some (vR 1), some (vI a2), some (vI a3), some (vI a4), none] [vI s0] h = if a0 = 99 then (mm_call mX4_get [vR 1, vI 2, vI a3] h).bind (fun w => mm_ev mX3_valueOf 2 72 [some (vI a0), some (vR 1), some (vI a2), some (vI a3), some (vI a4), some (vI s0)] (w.1 ++ []) w.2) else if a0 = 110 then some ([vI a4], h) else if a0 = 112 then some ([vI a3], h) else if a0 = 119 then some ([vI a2], h) else if a0 = 121 then some ([vI s0], h) else (mm_call mX4_get [vR 1, vI 4, vI a2] h).bind (fun w => mm_ev mX3_valueOf 2 87 [some (vI a0), some (vR 1), some (vI a2), some (vI a3), some (vI a4), some (vI s0)] (w.1 ++ [vI 3, vR 1, vI s0]) w.2) := (ev_istore 8 [some (vI a0), some (vR 1), some (vI a2), some (vI a3), some (vI a4), some (vI s0)] dX3_valueOf_6 rfl rfl).trans ((ev_iload_n 9 dX3_valueOf_8 rfl rfl).trans (ev_lookC (k := 99) (fun z0 => (ev_lookK 66 (k := 99) dX3_valueOf_9 rfl z0 rfl rfl).trans ((ev_aload_n 67 dX3_valueOf_66 rfl rfl).trans ((ev_iconst 68 (v := 2) dX3_valueOf_67 rfl rfl).trans ((ev_iload_n 69 dX3_valueOf_68 rfl rfl).trans ((ev_callv mX4_get [vR 1, vI 2, vI a3] [] 72 dX3_valueOf_69 ml_3_76 k41 rfl oc1 ak1 rfl rfl (Nat.le_of_ble_eq_true rfl) (Nat.le_of_ble_eq_true rfl) rfl).trans (if_pos (show 1 < 2 from by decide))))))) (fun n0 => ev_lookC (k := 110) (fun z1 => (ev_lookK 63 (k := 110) dX3_valueOf_9 rfl z1 rfl rfl).trans ((ev_iload 65 dX3_valueOf_63 rfl rfl).trans (ev_iret dX3_valueOf_65 rfl))) (fun n1 => ev_lookC (k := 112) (fun z2 => (ev_lookK 73 (k := 112) dX3_valueOf_9 rfl z2 rfl rfl).trans ((ev_iload_n 74 dX3_valueOf_73 rfl rfl).trans (ev_iret dX3_valueOf_74 rfl))) (fun n2 => ev_lookC (k := 119) (fun z3 => (ev_lookK 75 (k := 119) dX3_valueOf_9 rfl z3 rfl rfl).trans ((ev_iload_n 76 dX3_valueOf_75 rfl rfl).trans (ev_iret dX3_valueOf_76 rfl))) (fun n3 => ev_lookC (k := 121) (fun z4 => (ev_lookK 60 (k := 121) dX3_valueOf_9 rfl z4 rfl rfl).trans ((ev_iload 62 dX3_valueOf_60 rfl rfl).trans (ev_iret dX3_valueOf_62 rfl))) (fun n4 => (ev_look 77 dX3_valueOf_9 rfl (by simp only [Op.lookupswitch.offset]; rw [if_neg (fun w => n0 w.symm)]; rw [if_neg (fun w => n1 w.symm)]; rw [if_neg (fun w => n2 w.symm)]; rw [if_neg (fun w => n3 w.symm)]; rw [if_neg (fun w => n4 w.symm)]; rfl)).trans ((ev_iload 79 dX3_valueOf_77 rfl rfl).trans ((ev_aload_n 80 dX3_valueOf_79 rfl rfl).trans ((ev_iconst 81 (v := 3) dX3_valueOf_80 rfl rfl).trans ((ev_aload_n 82 dX3_valueOf_81 rfl rfl).trans ((ev_iconst 83 (v := 4) dX3_valueOf_82 rfl rfl).trans ((ev_iload_n 84 dX3_valueOf_83 rfl rfl).trans ((ev_callv mX4_get [vR 1, vI 4, vI a2] [vI 3, vR 1, vI s0] 87 dX3_valueOf_84 ml_3_76 k41 rfl oc1 ak1 rfl rfl (Nat.le_of_ble_eq_true rfl) (Nat.le_of_ble_eq_true rfl) rfl).trans (if_pos (show 1 < 2 from by decide))))))))))))))))
theorem X3_valueOf_72 (h : mm_M) (a0 : Int) (a2 : Int) (a3 : Int) (a4 : Int) (a5 : Int) (s0 : Int) : mm_ev mX3_valueOf 2 72 [some (vI a0), some (vR 1), some (vI a2), some (vI a3), some (vI a4), some (vI a5)] [vI s0] h = some ([vI s0], h) := ev_iret dX3_valueOf_72 rfl
theorem X3_valueOf_87 (h : mm_M) (a0 : Int) (a2 : Int) (a3 : Int) (a4 : Int) (a5 : Int) (s0 : Int) (s1 : Int) (s3 : Int) : mm_ev mX3_valueOf 2 87 [some (vI a0), some (vR 1), some (vI a2), some (vI a3), some (vI a4), some (vI a5)] [vI s0, vI s1, vR 1, vI s3] h = (mm_call mX4_get [vR 1, vI s1, vI s0] h).bind (fun w => mm_ev mX3_valueOf 2 90 [some (vI a0), some (vR 1), some (vI a2), some (vI a3), some (vI a4), some (vI a5)] (w.1 ++ [vI s3]) w.2) := (ev_callv mX4_get [vR 1, vI s1, vI s0] [vI s3] 90 dX3_valueOf_87 ml_3_76 k41 rfl oc1 ak1 rfl rfl (Nat.le_of_ble_eq_true rfl) (Nat.le_of_ble_eq_true rfl) rfl).trans (if_pos (show 1 < 2 from by decide))
theorem X3_valueOf_90 (h : mm_M) (a0 : Int) (a2 : Int) (a3 : Int) (a4 : Int) (a5 : Int) (s0 : Int) (s1 : Int) : mm_ev mX3_valueOf 2 90 [some (vI a0), some (vR 1), some (vI a2), some (vI a3), some (vI a4), some (vI a5)] [vI s0, vI s1] h = some ([vI (if 0 ≤ (w32 (s1 - s0)) then (w32 (s1 - s0)) else w32 (0 - (w32 (s1 - s0))))], h) := (ev_isub 91 dX3_valueOf_90 rfl).trans ((ev_abs 94 dX3_valueOf_91 ml_3_110 (Nat.le_of_ble_eq_true rfl) rfl).trans (ev_iret dX3_valueOf_94 rfl))
theorem dX3_doStep_0 : decode mX3_doStep.1 0 = .ok (.aload_n 0, 1) := by decide +kernel
theorem dX3_doStep_1 : decode mX3_doStep.1 1 = .ok (.invokevirtual 97, 3) := by decide +kernel
theorem dX3_doStep_4 : decode mX3_doStep.1 4 = .ok (.istore_n 2, 1) := by decide +kernel
theorem dX3_doStep_5 : decode mX3_doStep.1 5 = .ok (.iload_n 1, 1) := by decide +kernel
theorem dX3_doStep_6 : decode mX3_doStep.1 6 = .ok (.iconst (-1), 1) := by decide +kernel
theorem dX3_doStep_7 : decode mX3_doStep.1 7 = .ok (.if_icmp .ne 12, 3) := by decide +kernel
theorem dX3_doStep_10 : decode mX3_doStep.1 10 = .ok (.aload_n 0, 1) := by decide +kernel
theorem dX3_doStep_11 : decode mX3_doStep.1 11 = .ok (.iload_n 2, 1) := by decide +kernel
theorem dX3_doStep_12 : decode mX3_doStep.1 12 = .ok (.ineg, 1) := by decide +kernel
theorem dX3_doStep_13 : decode mX3_doStep.1 13 = .ok (.invokevirtual 100, 3) := by decide +kernel
theorem dX3_doStep_16 : decode mX3_doStep.1 16 = .ok (.goto 39, 3) := by decide +kernel
theorem dX3_doStep_19 : decode mX3_doStep.1 19 = .ok (.iload_n 1, 1) := by decide +kernel
theorem dX3_doStep_20 : decode mX3_doStep.1 20 = .ok (.bipush (-33), 2) := by decide +kernel
theorem dX3_doStep_22 : decode mX3_doStep.1 22 = .ok (.if_icmp .ne 19, 3) := by decide +kernel
theorem dX3_doStep_25 : decode mX3_doStep.1 25 = .ok (.aload_n 0, 1) := by decide +kernel
theorem dX3_doStep_26 : decode mX3_doStep.1 26 = .ok (.iload_n 2, 1) := by decide +kernel
theorem dX3_doStep_27 : decode mX3_doStep.1 27 = .ok (.ifCond .ne 7, 3) := by decide +kernel
theorem dX3_doStep_30 : decode mX3_doStep.1 30 = .ok (.iconst 1, 1) := by decide +kernel
theorem dX3_doStep_31 : decode mX3_doStep.1 31 = .ok (.goto 4, 3) := by decide +kernel
theorem dX3_doStep_34 : decode mX3_doStep.1 34 = .ok (.iconst 0, 1) := by decide +kernel
theorem dX3_doStep_35 : decode mX3_doStep.1 35 = .ok (.invokevirtual 100, 3) := by decide +kernel
theorem dX3_doStep_38 : decode mX3_doStep.1 38 = .ok (.goto 17, 3) := by decide +kernel
theorem dX3_doStep_41 : decode mX3_doStep.1 41 = .ok (.aload_n 0, 1) := by decide +kernel
theorem dX3_doStep_42 : decode mX3_doStep.1 42 = .ok (.iload_n 1, 1) := by decide +kernel
theorem dX3_doStep_43 : decode mX3_doStep.1 43 = .ok (.ineg, 1) := by decide +kernel
theorem dX3_doStep_44 : decode mX3_doStep.1 44 = .ok (.aload_n 0, 1) := by decide +kernel
theorem dX3_doStep_45 : decode mX3_doStep.1 45 = .ok (.invokevirtual 97, 3) := by decide +kernel
theorem dX3_doStep_48 : decode mX3_doStep.1 48 = .ok (.iload_n 2, 1) := by decide +kernel
theorem dX3_doStep_49 : decode mX3_doStep.1 49 = .ok (.invokestatic 114, 3) := by decide +kernel
theorem dX3_doStep_52 : decode mX3_doStep.1 52 = .ok (.invokevirtual 100, 3) := by decide +kernel
theorem dX3_doStep_55 : decode mX3_doStep.1 55 = .ok (.return_, 1) := by decide +kernel
theorem X3_doStep_0 (h : mm_M) (a1 : Int) : mm_ev mX3_doStep 2 0 [some (vR 2), some (vI a1), none] [] h = (mm_call mX3_pop [vR 2] h).bind (fun w => mm_ev mX3_doStep 2 4 [some (vR 2), some (vI a1), none] (w.1 ++ []) w.2) := (ev_aload_n 1 dX3_doStep_0 rfl rfl).trans ((ev_callv mX3_pop [vR 2] [] 4 dX3_doStep_1 ml_3_97 k38 rfl oc2 ak2 rfl rfl (Nat.le_of_ble_eq_true rfl) (Nat.le_of_ble_eq_true rfl) rfl).trans (if_pos (show 1 < 2 from by decide)))
theorem X3_doStep_c (h : mm_M) (a1 : Int) : mm_call mX3_doStep [vR 2, vI a1] h = (mm_call mX3_pop [vR 2] h).bind (fun w => mm_ev mX3_doStep 2 4 [some (vR 2), some (vI a1), none] (w.1 ++ []) w.2) := X3_doStep_0 h a1
theorem X3_doStep_4 (h : mm_M) (a1 : Int) (s0 : Int) : mm_ev mX3_doStep 2 4 [some (vR 2), some (vI a1), none] [vI s0] h = if ¬ a1 = (-1) then if ¬ a1 = (-33) then (mm_call mX3_pop [vR 2] h).bind (fun w => mm_ev mX3_doStep 2 48 [some (vR 2), some (vI a1), some (vI s0)] (w.1 ++ [vI (w32 (-a1)), vR 2]) w.2) else if ¬ s0 = 0 then (mm_call mX3_push [vR 2, vI 0] h).bind (fun w => mm_ev mX3_doStep 2 38 [some (vR 2), some (vI a1), some (vI s0)] (w.1 ++ []) w.2) else (mm_call mX3_push [vR 2, vI 1] h).bind (fun w => mm_ev mX3_doStep 2 38 [some (vR 2), some (vI a1), some (vI s0)] (w.1 ++ []) w.2) else (mm_call mX3_push [vR 2, vI (w32 (-s0))] h).bind (fun w => mm_ev mX3_doStep 2 16 [some (vR 2), some (vI a1), some (vI s0)] (w.1 ++ []) w.2) := (ev_istore_n 5 [some (vR 2), some (vI a1), some (vI s0)] dX3_doStep_4 rfl rfl).trans ((ev_iload_n 6 dX3_doStep_5 rfl rfl).trans ((ev_iconst 7 (v := (-1)) dX3_doStep_6 rfl rfl).trans ((ev_ic_ne 19 10 dX3_doStep_7 rfl rfl).trans (mm_ite ((ev_iload_n 20 dX3_doStep_19 rfl rfl).trans ((ev_bipush 22 (v := (-33)) dX3_doStep_20 rfl rfl).trans ((ev_ic_ne 41 25 dX3_doStep_22 rfl rfl).trans (mm_ite ((ev_aload_n 42 dX3_doStep_41 rfl rfl).trans ((ev_iload_n 43 dX3_doStep_42 rfl rfl).trans ((ev_ineg 44 dX3_doStep_43 rfl).trans ((ev_aload_n 45 dX3_doStep_44 rfl rfl).trans ((ev_callv mX3_pop [vR 2] [vI (w32 (-a1)), vR 2] 48 dX3_doStep_45 ml_3_97 k38 rfl oc2 ak2 rfl rfl (Nat.le_of_ble_eq_true rfl) (Nat.le_of_ble_eq_true rfl) rfl).trans (if_pos (show 1 < 2 from by decide))))))) ((ev_aload_n 26 dX3_doStep_25 rfl rfl).trans ((ev_iload_n 27 dX3_doStep_26 rfl rfl).trans ((ev_if_ne 34 30 dX3_doStep_27 rfl rfl).trans (mm_ite ((ev_iconst 35 (v := 0) dX3_doStep_34 rfl rfl).trans ((ev_callv mX3_push [vR 2, vI 0] [] 38 dX3_doStep_35 ml_3_100 k37 rfl oc2 ak2 rfl rfl (Nat.le_of_ble_eq_true rfl) (Nat.le_of_ble_eq_true rfl) rfl).trans (if_pos (show 1 < 2 from by decide)))) ((ev_iconst 31 (v := 1) dX3_doStep_30 rfl rfl).trans ((ev_goto 35 dX3_doStep_31 rfl).trans ((ev_callv mX3_push [vR 2, vI 1] [] 38 dX3_doStep_35 ml_3_100 k37 rfl oc2 ak2 rfl rfl (Nat.le_of_ble_eq_true rfl) (Nat.le_of_ble_eq_true rfl) rfl).trans (if_pos (show 1 < 2 from by decide))))))))))))) ((ev_aload_n 11 dX3_doStep_10 rfl rfl).trans ((ev_iload_n 12 dX3_doStep_11 rfl rfl).trans ((ev_ineg 13 dX3_doStep_12 rfl).trans ((ev_callv mX3_push [vR 2, vI (w32 (-s0))] [] 16 dX3_doStep_13 ml_3_100 k37 rfl oc2 ak2 rfl rfl (Nat.le_of_ble_eq_true rfl) (Nat.le_of_ble_eq_true rfl) rfl).trans (if_pos (show 1 < 2 from by decide))))))))))
theorem X3_doStep_16 (h : mm_M) (a1 : Int) (a2 : Int) : mm_ev mX3_doStep 2 16 [some (vR 2), some (vI a1), some (vI a2)] [] h = mm_ev mX3_doStep 2 55 [some (vR 2), some (vI a1), some (vI a2)] [] h := ev_goto 55 dX3_doStep_16 rfl
theorem X3_doStep_38 (h : mm_M) (a1 : Int) (a2 : Int) : mm_ev mX3_doStep 2 38 [some (vR 2), some (vI a1), some (vI a2)] [] h = mm_ev mX3_doStep 2 55 [some (vR 2), some (vI a1), some (vI a2)] [] h := ev_goto 55 dX3_doStep_38 rfl
theorem X3_doStep_48 (h : mm_M) (a1 : Int) (a2 : Int) (s0 : Int) (s1 : Int) : mm_ev mX3_doStep 2 48 [some (vR 2), some (vI a1), some (vI a2)] [vI s0, vI s1, vR 2] h = (mm_call mX3_joined [vI s1, vI s0, vI a2] h).bind (fun w => mm_ev mX3_doStep 2 52 [some (vR 2), some (vI a1), some (vI a2)] (w.1 ++ [vR 2]) w.2) := (ev_iload_n 49 dX3_doStep_48 rfl rfl).trans ((ev_calls mX3_joined [vI s1, vI s0, vI a2] [vR 2] 52 dX3_doStep_49 ml_3_114 k36 rfl rfl rfl (Nat.le_of_ble_eq_true rfl) (Nat.le_of_ble_eq_true rfl) rfl).trans (if_pos (show 1 < 2 from by decide)))
theorem X3_doStep_52 (h : mm_M) (a1 : Int) (a2 : Int) (s0 : Int) : mm_ev mX3_doStep 2 52 [some (vR 2), some (vI a1), some (vI a2)] [vI s0, vR 2] h = (mm_call mX3_push [vR 2, vI s0] h).bind (fun w => mm_ev mX3_doStep 2 55 [some (vR 2), some (vI a1), some (vI a2)] (w.1 ++ []) w.2) := (ev_callv mX3_push [vR 2, vI s0] [] 55 dX3_doStep_52 ml_3_100 k37 rfl oc2 ak2 rfl rfl (Nat.le_of_ble_eq_true rfl) (Nat.le_of_ble_eq_true rfl) rfl).trans (if_pos (show 1 < 2 from by decide))
theorem X3_doStep_55 (h : mm_M) (a1 : Int) (a2 : Int) : mm_ev mX3_doStep 2 55 [some (vR 2), some (vI a1), some (vI a2)] [] h = some ([], h) := ev_vret dX3_doStep_55 rfl
theorem dX3_joined_0 : decode mX3_joined.1 0 = .ok (.iload_n 0, 1) := by decide +kernel
theorem dX3_joined_1 : decode mX3_joined.1 1 = .ok (.lookupswitch 168 #[(38, 97), (42, 152), (43, 144), (45, 148), (47, 156), (60, 111), (61, 122), (62, 133), (124, 83)], 83) := by decide +kernel
theorem dX3_joined_84 : decode mX3_joined.1 84 = .ok (.iload_n 1, 1) := by decide +kernel
theorem dX3_joined_85 : decode mX3_joined.1 85 = .ok (.ifCond .ne 7, 3) := by decide +kernel
theorem dX3_joined_88 : decode mX3_joined.1 88 = .ok (.iload_n 2, 1) := by decide +kernel
theorem dX3_joined_89 : decode mX3_joined.1 89 = .ok (.ifCond .eq 7, 3) := by decide +kernel
theorem dX3_joined_92 : decode mX3_joined.1 92 = .ok (.iconst 1, 1) := by decide +kernel
theorem dX3_joined_93 : decode mX3_joined.1 93 = .ok (.goto 4, 3) := by decide +kernel
theorem dX3_joined_96 : decode mX3_joined.1 96 = .ok (.iconst 0, 1) := by decide +kernel
theorem dX3_joined_97 : decode mX3_joined.1 97 = .ok (.ireturn, 1) := by decide +kernel
theorem dX3_joined_98 : decode mX3_joined.1 98 = .ok (.iload_n 1, 1) := by decide +kernel
theorem dX3_joined_99 : decode mX3_joined.1 99 = .ok (.ifCond .eq 11, 3) := by decide +kernel
theorem dX3_joined_102 : decode mX3_joined.1 102 = .ok (.iload_n 2, 1) := by decide +kernel
theorem dX3_joined_103 : decode mX3_joined.1 103 = .ok (.ifCond .eq 7, 3) := by decide +kernel
theorem dX3_joined_106 : decode mX3_joined.1 106 = .ok (.iconst 1, 1) := by decide +kernel
theorem dX3_joined_107 : decode mX3_joined.1 107 = .ok (.goto 4, 3) := by decide +kernel
theorem dX3_joined_110 : decode mX3_joined.1 110 = .ok (.iconst 0, 1) := by decide +kernel
theorem dX3_joined_111 : decode mX3_joined.1 111 = .ok (.ireturn, 1) := by decide +kernel
theorem dX3_joined_112 : decode mX3_joined.1 112 = .ok (.iload_n 1, 1) := by decide +kernel
theorem dX3_joined_113 : decode mX3_joined.1 113 = .ok (.iload_n 2, 1) := by decide +kernel
theorem dX3_joined_114 : decode mX3_joined.1 114 = .ok (.if_icmp .ge 7, 3) := by decide +kernel
theorem dX3_joined_117 : decode mX3_joined.1 117 = .ok (.iconst 1, 1) := by decide +kernel
theorem dX3_joined_118 : decode mX3_joined.1 118 = .ok (.goto 4, 3) := by decide +kernel
theorem dX3_joined_121 : decode mX3_joined.1 121 = .ok (.iconst 0, 1) := by decide +kernel
theorem dX3_joined_122 : decode mX3_joined.1 122 = .ok (.ireturn, 1) := by decide +kernel
theorem dX3_joined_123 : decode mX3_joined.1 123 = .ok (.iload_n 1, 1) := by decide +kernel
theorem dX3_joined_124 : decode mX3_joined.1 124 = .ok (.iload_n 2, 1) := by decide +kernel
theorem dX3_joined_125 : decode mX3_joined.1 125 = .ok (.if_icmp .ne 7, 3) := by decide +kernel
theorem dX3_joined_128 : decode mX3_joined.1 128 = .ok (.iconst 1, 1) := by decide +kernel
theorem dX3_joined_129 : decode mX3_joined.1 129 = .ok (.goto 4, 3) := by decide +kernel
theorem dX3_joined_132 : decode mX3_joined.1 132 = .ok (.iconst 0, 1) := by decide +kernel
theorem dX3_joined_133 : decode mX3_joined.1 133 = .ok (.ireturn, 1) := by decide +kernel
theorem dX3_joined_134 : decode mX3_joined.1 134 = .ok (.iload_n 1, 1) := by decide +kernel
theorem dX3_joined_135 : decode mX3_joined.1 135 = .ok (.iload_n 2, 1) := by decide +kernel
theorem dX3_joined_136 : decode mX3_joined.1 136 = .ok (.if_icmp .le 7, 3) := by decide +kernel
theorem dX3_joined_139 : decode mX3_joined.1 139 = .ok (.iconst 1, 1) := by decide +kernel
theorem dX3_joined_140 : decode mX3_joined.1 140 = .ok (.goto 4, 3) := by decide +kernel
theorem dX3_joined_143 : decode mX3_joined.1 143 = .ok (.iconst 0, 1) := by decide +kernel
theorem dX3_joined_144 : decode mX3_joined.1 144 = .ok (.ireturn, 1) := by decide +kernel
theorem dX3_joined_145 : decode mX3_joined.1 145 = .ok (.iload_n 1, 1) := by decide +kernel
theorem dX3_joined_146 : decode mX3_joined.1 146 = .ok (.iload_n 2, 1) := by decide +kernel
theorem dX3_joined_147 : decode mX3_joined.1 147 = .ok (.iadd, 1) := by decide +kernel
theorem dX3_joined_148 : decode mX3_joined.1 148 = .ok (.ireturn, 1) := by decide +kernel
theorem dX3_joined_149 : decode mX3_joined.1 149 = .ok (.iload_n 1, 1) := by decide +kernel
theorem dX3_joined_150 : decode mX3_joined.1 150 = .ok (.iload_n 2, 1) := by decide +kernel
theorem dX3_joined_151 : decode mX3_joined.1 151 = .ok (.isub, 1) := by decide +kernel
theorem dX3_joined_152 : decode mX3_joined.1 152 = .ok (.ireturn, 1) := by decide +kernel
theorem dX3_joined_153 : decode mX3_joined.1 153 = .ok (.iload_n 1, 1) := by decide +kernel
theorem dX3_joined_154 : decode mX3_joined.1 154 = .ok (.iload_n 2, 1) := by decide +kernel
theorem dX3_joined_155 : decode mX3_joined.1 155 = .ok (.imul, 1) := by decide +kernel
theorem dX3_joined_156 : decode mX3_joined.1 156 = .ok (.ireturn, 1) := by decide +kernel
theorem dX3_joined_157 : decode mX3_joined.1 157 = .ok (.iload_n 2, 1) := by decide +kernel
theorem dX3_joined_158 : decode mX3_joined.1 158 = .ok (.ifCond .ne 7, 3) := by decide +kernel
theorem dX3_joined_161 : decode mX3_joined.1 161 = .ok (.iconst 0, 1) := by decide +kernel
theorem dX3_joined_162 : decode mX3_joined.1 162 = .ok (.goto 6, 3) := by decide +kernel
theorem dX3_joined_165 : decode mX3_joined.1 165 = .ok (.iload_n 1, 1) := by decide +kernel
theorem dX3_joined_166 : decode mX3_joined.1 166 = .ok (.iload_n 2, 1) := by decide +kernel
theorem dX3_joined_167 : decode mX3_joined.1 167 = .ok (.idiv, 1) := by decide +kernel
theorem dX3_joined_168 : decode mX3_joined.1 168 = .ok (.ireturn, 1) := by decide +kernel
theorem dX3_joined_169 : decode mX3_joined.1 169 = .ok (.iload_n 2, 1) := by decide +kernel
theorem dX3_joined_170 : decode mX3_joined.1 170 = .ok (.ifCond .ne 7, 3) := by decide +kernel
theorem dX3_joined_173 : decode mX3_joined.1 173 = .ok (.iconst 0, 1) := by decide +kernel
theorem dX3_joined_174 : decode mX3_joined.1 174 = .ok (.goto 6, 3) := by decide +kernel
theorem dX3_joined_177 : decode mX3_joined.1 177 = .ok (.iload_n 1, 1) := by decide +kernel
theorem dX3_joined_178 : decode mX3_joined.1 178 = .ok (.iload_n 2, 1) := by decide +kernel
theorem dX3_joined_179 : decode mX3_joined.1 179 = .ok (.irem, 1) := by decide +kernel
theorem dX3_joined_180 : decode mX3_joined.1 180 = .ok (.ireturn, 1) := by decide +kernel
theorem X3_joined_0 (h : mm_M) (a0 : Int) (a1 : Int) (a2 : Int) : mm_ev mX3_joined 1 0 [some (vI a0), some (vI a1), some (vI a2)] [] h = if a0 = 38 then if a1 = 0 then some ([vI 0], h) else if a2 = 0 then some ([vI 0], h) else some ([vI 1], h) else if a0 = 42 then some ([vI (w32 (a1 * a2))], h) else if a0 = 43 then some ([vI (w32 (a1 + a2))], h) else if a0 = 45 then some ([vI (w32 (a1 - a2))], h) else if a0 = 47 then if ¬ a2 = 0 then if a2 = 0 then none else some ([vI (w32 (a1.tdiv a2))], h) else some ([vI 0], h) else if a0 = 60 then if a2 ≤ a1 then some ([vI 0], h) else some ([vI 1], h) else if a0 = 61 then if ¬ a1 = a2 then some ([vI 0], h) else some ([vI 1], h) else if a0 = 62 then if a1 ≤ a2 then some ([vI 0], h) else some ([vI 1], h) else if a0 = 124 then if ¬ a1 = 0 then some ([vI 1], h) else if a2 = 0 then some ([vI 0], h) else some ([vI 1], h) else if ¬ a2 = 0 then if a2 = 0 then none else some ([vI (a1.tmod a2)], h) else some ([vI 0], h) := (ev_iload_n 1 dX3_joined_0 rfl rfl).trans (ev_lookC (k := 38) (fun z0 => (ev_lookK 98 (k := 38) dX3_joined_1 rfl z0 rfl rfl).trans ((ev_iload_n 99 dX3_joined_98 rfl rfl).trans ((ev_if_eq 110 102 dX3_joined_99 rfl rfl).trans (mm_ite ((ev_iconst 111 (v := 0) dX3_joined_110 rfl rfl).trans (ev_iret dX3_joined_111 rfl)) ((ev_iload_n 103 dX3_joined_102 rfl rfl).trans ((ev_if_eq 110 106 dX3_joined_103 rfl rfl).trans (mm_ite ((ev_iconst 111 (v := 0) dX3_joined_110 rfl rfl).trans (ev_iret dX3_joined_111 rfl)) ((ev_iconst 107 (v := 1) dX3_joined_106 rfl rfl).trans ((ev_goto 111 dX3_joined_107 rfl).trans (ev_iret dX3_joined_111 rfl)))))))))) (fun n0 => ev_lookC (k := 42) (fun z1 => (ev_lookK 153 (k := 42) dX3_joined_1 rfl z1 rfl rfl).trans ((ev_iload_n 154 dX3_joined_153 rfl rfl).trans ((ev_iload_n 155 dX3_joined_154 rfl rfl).trans ((ev_imul 156 dX3_joined_155 rfl).trans (ev_iret dX3_joined_156 rfl))))) (fun n1 => ev_lookC (k := 43) (fun z2 => (ev_lookK 145 (k := 43) dX3_joined_1 rfl z2 rfl rfl).trans ((ev_iload_n 146 dX3_joined_145 rfl rfl).trans ((ev_iload_n 147 dX3_joined_146 rfl rfl).trans ((ev_iadd 148 dX3_joined_147 rfl).trans (ev_iret dX3_joined_148 rfl))))) (fun n2 => ev_lookC (k := 45) (fun z3 => (ev_lookK 149 (k := 45) dX3_joined_1 rfl z3 rfl rfl).trans ((ev_iload_n 150 dX3_joined_149 rfl rfl).trans ((ev_iload_n 151 dX3_joined_150 rfl rfl).trans ((ev_isub 152 dX3_joined_151 rfl).trans (ev_iret dX3_joined_152 rfl))))) (fun n3 => ev_lookC (k := 47) (fun z4 => (ev_lookK 157 (k := 47) dX3_joined_1 rfl z4 rfl rfl).trans ((ev_iload_n 158 dX3_joined_157 rfl rfl).trans ((ev_if_ne 165 161 dX3_joined_158 rfl rfl).trans (mm_ite ((ev_iload_n 166 dX3_joined_165 rfl rfl).trans ((ev_iload_n 167 dX3_joined_166 rfl rfl).trans ((ev_idiv 168 dX3_joined_167 rfl).trans (mm_ite (rfl) (ev_iret dX3_joined_168 rfl))))) ((ev_iconst 162 (v := 0) dX3_joined_161 rfl rfl).trans ((ev_goto 168 dX3_joined_162 rfl).trans (ev_iret dX3_joined_168 rfl))))))) (fun n4 => ev_lookC (k := 60) (fun z5 => (ev_lookK 112 (k := 60) dX3_joined_1 rfl z5 rfl rfl).trans ((ev_iload_n 113 dX3_joined_112 rfl rfl).trans ((ev_iload_n 114 dX3_joined_113 rfl rfl).trans ((ev_ic_ge 121 117 dX3_joined_114 rfl rfl).trans (mm_ite ((ev_iconst 122 (v := 0) dX3_joined_121 rfl rfl).trans (ev_iret dX3_joined_122 rfl)) ((ev_iconst 118 (v := 1) dX3_joined_117 rfl rfl).trans ((ev_goto 122 dX3_joined_118 rfl).trans (ev_iret dX3_joined_122 rfl)))))))) (fun n5 => ev_lookC (k := 61) (fun z6 => (ev_lookK 123 (k := 61) dX3_joined_1 rfl z6 rfl rfl).trans ((ev_iload_n 124 dX3_joined_123 rfl rfl).trans ((ev_iload_n 125 dX3_joined_124 rfl rfl).trans ((ev_ic_ne 132 128 dX3_joined_125 rfl rfl).trans (mm_ite ((ev_iconst 133 (v := 0) dX3_joined_132 rfl rfl).trans (ev_iret dX3_joined_133 rfl)) ((ev_iconst 129 (v := 1) dX3_joined_128 rfl rfl).trans ((ev_goto 133 dX3_joined_129 rfl).trans (ev_iret dX3_joined_133 rfl)))))))) (fun n6 => ev_lookC (k := 62) (fun z7 => (ev_lookK 134 (k := 62) dX3_joined_1 rfl z7 rfl rfl).trans ((ev_iload_n 135 dX3_joined_134 rfl rfl).trans ((ev_iload_n 136 dX3_joined_135 rfl rfl).trans ((ev_ic_le 143 139 dX3_joined_136 rfl rfl).trans (mm_ite ((ev_iconst 144 (v := 0) dX3_joined_143 rfl rfl).trans (ev_iret dX3_joined_144 rfl)) ((ev_iconst 140 (v := 1) dX3_joined_139 rfl rfl).trans ((ev_goto 144 dX3_joined_140 rfl).trans (ev_iret dX3_joined_144 rfl)))))))) (fun n7 => ev_lookC (k := 124) (fun z8 => (ev_lookK 84 (k := 124) dX3_joined_1 rfl z8 rfl rfl).trans ((ev_iload_n 85 dX3_joined_84 rfl rfl).trans ((ev_if_ne 92 88 dX3_joined_85 rfl rfl).trans (mm_ite ((ev_iconst 93 (v := 1) dX3_joined_92 rfl rfl).trans ((ev_goto 97 dX3_joined_93 rfl).trans (ev_iret dX3_joined_97 rfl))) ((ev_iload_n 89 dX3_joined_88 rfl rfl).trans ((ev_if_eq 96 92 dX3_joined_89 rfl rfl).trans (mm_ite ((ev_iconst 97 (v := 0) dX3_joined_96 rfl rfl).trans (ev_iret dX3_joined_97 rfl)) ((ev_iconst 93 (v := 1) dX3_joined_92 rfl rfl).trans ((ev_goto 97 dX3_joined_93 rfl).trans (ev_iret dX3_joined_97 rfl)))))))))) (fun n8 => (ev_look 169 dX3_joined_1 rfl (by simp only [Op.lookupswitch.offset]; rw [if_neg (fun w => n0 w.symm)]; rw [if_neg (fun w => n1 w.symm)]; rw [if_neg (fun w => n2 w.symm)]; rw [if_neg (fun w => n3 w.symm)]; rw [if_neg (fun w => n4 w.symm)]; rw [if_neg (fun w => n5 w.symm)]; rw [if_neg (fun w => n6 w.symm)]; rw [if_neg (fun w => n7 w.symm)]; rw [if_neg (fun w => n8 w.symm)]; rfl)).trans ((ev_iload_n 170 dX3_joined_169 rfl rfl).trans ((ev_if_ne 177 173 dX3_joined_170 rfl rfl).trans (mm_ite ((ev_iload_n 178 dX3_joined_177 rfl rfl).trans ((ev_iload_n 179 dX3_joined_178 rfl rfl).trans ((ev_irem 180 dX3_joined_179 rfl).trans (mm_ite (rfl) (ev_iret dX3_joined_180 rfl))))) ((ev_iconst 174 (v := 0) dX3_joined_173 rfl rfl).trans ((ev_goto 180 dX3_joined_174 rfl).trans (ev_iret dX3_joined_180 rfl))))))))))))))))
theorem X3_joined_c (h : mm_M) (a0 : Int) (a1 : Int) (a2 : Int) : mm_call mX3_joined [vI a0, vI a1, vI a2] h = if a0 = 38 then if a1 = 0 then some ([vI 0], h) else if a2 = 0 then some ([vI 0], h) else some ([vI 1], h) else if a0 = 42 then some ([vI (w32 (a1 * a2))], h) else if a0 = 43 then some ([vI (w32 (a1 + a2))], h) else if a0 = 45 then some ([vI (w32 (a1 - a2))], h) else if a0 = 47 then if ¬ a2 = 0 then if a2 = 0 then none else some ([vI (w32 (a1.tdiv a2))], h) else some ([vI 0], h) else if a0 = 60 then if a2 ≤ a1 then some ([vI 0], h) else some ([vI 1], h) else if a0 = 61 then if ¬ a1 = a2 then some ([vI 0], h) else some ([vI 1], h) else if a0 = 62 then if a1 ≤ a2 then some ([vI 0], h) else some ([vI 1], h) else if a0 = 124 then if ¬ a1 = 0 then some ([vI 1], h) else if a2 = 0 then some ([vI 0], h) else some ([vI 1], h) else if ¬ a2 = 0 then if a2 = 0 then none else some ([vI (a1.tmod a2)], h) else some ([vI 0], h) := X3_joined_0 h a0 a1 a2
theorem dX3_proclaim_0 : decode mX3_proclaim.1 0 = .ok (.aload_n 0, 1) := by decide +kernel
theorem dX3_proclaim_1 : decode mX3_proclaim.1 1 = .ok (.invokevirtual 28, 3) := by decide +kernel
theorem dX3_proclaim_4 : decode mX3_proclaim.1 4 = .ok (.aload_n 0, 1) := by decide +kernel
theorem dX3_proclaim_5 : decode mX3_proclaim.1 5 = .ok (.iconst 0, 1) := by decide +kernel
theorem dX3_proclaim_6 : decode mX3_proclaim.1 6 = .ok (.putfield 24, 3) := by decide +kernel
theorem dX3_proclaim_9 : decode mX3_proclaim.1 9 = .ok (.aload_n 0, 1) := by decide +kernel
theorem dX3_proclaim_10 : decode mX3_proclaim.1 10 = .ok (.getfield 31, 3) := by decide +kernel
theorem dX3_proclaim_13 : decode mX3_proclaim.1 13 = .ok (.ifCond .eq 11, 3) := by decide +kernel
theorem dX3_proclaim_16 : decode mX3_proclaim.1 16 = .ok (.bipush (-100), 2) := by decide +kernel
theorem dX3_proclaim_18 : decode mX3_proclaim.1 18 = .ok (.aload_n 0, 1) := by decide +kernel
theorem dX3_proclaim_19 : decode mX3_proclaim.1 19 = .ok (.getfield 35, 3) := by decide +kernel
theorem dX3_proclaim_22 : decode mX3_proclaim.1 22 = .ok (.isub, 1) := by decide +kernel
theorem dX3_proclaim_23 : decode mX3_proclaim.1 23 = .ok (.ireturn, 1) := by decide +kernel
theorem dX3_proclaim_24 : decode mX3_proclaim.1 24 = .ok (.aload_n 0, 1) := by decide +kernel
theorem dX3_proclaim_25 : decode mX3_proclaim.1 25 = .ok (.getfield 18, 3) := by decide +kernel
theorem dX3_proclaim_28 : decode mX3_proclaim.1 28 = .ok (.astore_n 1, 1) := by decide +kernel
theorem dX3_proclaim_29 : decode mX3_proclaim.1 29 = .ok (.aload_n 0, 1) := by decide +kernel
theorem dX3_proclaim_30 : decode mX3_proclaim.1 30 = .ok (.aload_n 0, 1) := by decide +kernel
theorem dX3_proclaim_31 : decode mX3_proclaim.1 31 = .ok (.getfield 15, 3) := by decide +kernel
theorem dX3_proclaim_34 : decode mX3_proclaim.1 34 = .ok (.putfield 18, 3) := by decide +kernel
theorem dX3_proclaim_37 : decode mX3_proclaim.1 37 = .ok (.aload_n 0, 1) := by decide +kernel
theorem dX3_proclaim_38 : decode mX3_proclaim.1 38 = .ok (.aload_n 1, 1) := by decide +kernel
theorem dX3_proclaim_39 : decode mX3_proclaim.1 39 = .ok (.putfield 15, 3) := by decide +kernel
theorem dX3_proclaim_42 : decode mX3_proclaim.1 42 = .ok (.aload_n 0, 1) := by decide +kernel
theorem dX3_proclaim_43 : decode mX3_proclaim.1 43 = .ok (.aload_n 0, 1) := by decide +kernel
theorem dX3_proclaim_44 : decode mX3_proclaim.1 44 = .ok (.getfield 38, 3) := by decide +kernel
theorem dX3_proclaim_47 : decode mX3_proclaim.1 47 = .ok (.putfield 41, 3) := by decide +kernel
theorem dX3_proclaim_50 : decode mX3_proclaim.1 50 = .ok (.iconst 1, 1) := by decide +kernel
theorem dX3_proclaim_51 : decode mX3_proclaim.1 51 = .ok (.ireturn, 1) := by decide +kernel
theorem X3_proclaim_0 (h : mm_M) : mm_ev mX3_proclaim 82 0 [some (vR 2), none] [] h = (mm_call mX3_readText [vR 2] h).bind (fun w => mm_ev mX3_proclaim 82 4 [some (vR 2), none] (w.1 ++ []) w.2) := (ev_aload_n 1 dX3_proclaim_0 rfl rfl).trans ((ev_callv mX3_readText [vR 2] [] 4 dX3_proclaim_1 ml_3_28 k22 rfl oc2 ak2 rfl rfl (Nat.le_of_ble_eq_true rfl) (Nat.le_of_ble_eq_true rfl) rfl).trans (if_pos (show 81 < 82 from by decide)))
theorem X3_proclaim_c (h : mm_M) : mm_call mX3_proclaim [vR 2] h = (mm_call mX3_readText [vR 2] h).bind (fun w => mm_ev mX3_proclaim 82 4 [some (vR 2), none] (w.1 ++ []) w.2) := X3_proclaim_0 h 
theorem X3_proclaim_4 (h : mm_M) : mm_ev mX3_proclaim 82 4 [some (vR 2), none] [] h = if ((mUp h 2 0 0) 2 3) = 0 then if (((mUp h 2 0 0) 2 4).toNat) < 1000 then if (((mUp h 2 0 0) 2 6).toNat) < 1000 then some ([vI 1], mUp (mUp (mUp (mUp h 2 0 0) 2 6 ((((mUp h 2 0 0) 2 4).toNat) : Nat)) 2 4 ((((mUp h 2 0 0) 2 6).toNat) : Nat)) 2 7 ((mUp (mUp (mUp h 2 0 0) 2 6 ((((mUp h 2 0 0) 2 4).toNat) : Nat)) 2 4 ((((mUp h 2 0 0) 2 6).toNat) : Nat)) 2 5)) else none else none else some ([vI (w32 ((-100) - ((mUp h 2 0 0) 2 2)))], mUp h 2 0 0) := (ev_aload_n 5 dX3_proclaim_4 rfl rfl).trans ((ev_iconst 6 (v := 0) dX3_proclaim_5 rfl rfl).trans ((ev_putI 9 0 dX3_proclaim_6 fl_3_24 oc2 ak2 rfl rfl rfl).trans ((ev_aload_n 10 dX3_proclaim_9 rfl rfl).trans ((ev_getI 13 3 dX3_proclaim_10 fl_3_31 oc2 ak2 (by decide) rfl rfl).trans ((ev_if_eq 24 16 dX3_proclaim_13 rfl rfl).trans (mm_ite ((ev_aload_n 25 dX3_proclaim_24 rfl rfl).trans ((ev_getR 28 6 dX3_proclaim_25 fl_3_18 oc2 ak2 rfl rfl rfl).trans ((ev_astore_n 29 [some (vR 2), some (vR (((mUp h 2 0 0) 2 6).toNat))] dX3_proclaim_28 rfl rfl).trans ((ev_aload_n 30 dX3_proclaim_29 rfl rfl).trans ((ev_aload_n 31 dX3_proclaim_30 rfl rfl).trans ((ev_getR 34 4 dX3_proclaim_31 fl_3_15 oc2 ak2 rfl rfl rfl).trans ((ev_putR 37 6 dX3_proclaim_34 fl_3_18 oc2 ak2 rfl rfl rfl).trans (mm_ite ((ev_aload_n 38 dX3_proclaim_37 rfl rfl).trans ((ev_aload_n 39 dX3_proclaim_38 rfl rfl).trans ((ev_putR 42 4 dX3_proclaim_39 fl_3_15 oc2 ak2 rfl rfl rfl).trans (mm_ite ((ev_aload_n 43 dX3_proclaim_42 rfl rfl).trans ((ev_aload_n 44 dX3_proclaim_43 rfl rfl).trans ((ev_getI 47 5 dX3_proclaim_44 fl_3_38 oc2 ak2 (by decide) rfl rfl).trans ((ev_putI 50 7 dX3_proclaim_47 fl_3_41 oc2 ak2 rfl rfl rfl).trans ((ev_iconst 51 (v := 1) dX3_proclaim_50 rfl rfl).trans (ev_iret dX3_proclaim_51 rfl)))))) (rfl))))) (rfl))))))))) ((ev_bipush 18 (v := (-100)) dX3_proclaim_16 rfl rfl).trans ((ev_aload_n 19 dX3_proclaim_18 rfl rfl).trans ((ev_getI 22 2 dX3_proclaim_19 fl_3_35 oc2 ak2 (by decide) rfl rfl).trans ((ev_isub 23 dX3_proclaim_22 rfl).trans (ev_iret dX3_proclaim_23 rfl)))))))))))
theorem dX3_readText_0 : decode mX3_readText.1 0 = .ok (.aload_n 0, 1) := by decide +kernel
theorem dX3_readText_1 : decode mX3_readText.1 1 = .ok (.iconst 0, 1) := by decide +kernel
theorem dX3_readText_2 : decode mX3_readText.1 2 = .ok (.putfield 35, 3) := by decide +kernel
theorem dX3_readText_5 : decode mX3_readText.1 5 = .ok (.aload_n 0, 1) := by decide +kernel
theorem dX3_readText_6 : decode mX3_readText.1 6 = .ok (.iconst 0, 1) := by decide +kernel
theorem dX3_readText_7 : decode mX3_readText.1 7 = .ok (.putfield 38, 3) := by decide +kernel
theorem dX3_readText_10 : decode mX3_readText.1 10 = .ok (.aload_n 0, 1) := by decide +kernel
theorem dX3_readText_11 : decode mX3_readText.1 11 = .ok (.iconst 0, 1) := by decide +kernel
theorem dX3_readText_12 : decode mX3_readText.1 12 = .ok (.putfield 31, 3) := by decide +kernel
theorem dX3_readText_15 : decode mX3_readText.1 15 = .ok (.iconst 0, 1) := by decide +kernel
theorem dX3_readText_16 : decode mX3_readText.1 16 = .ok (.istore_n 1, 1) := by decide +kernel
theorem dX3_readText_17 : decode mX3_readText.1 17 = .ok (.iload_n 1, 1) := by decide +kernel
theorem dX3_readText_18 : decode mX3_readText.1 18 = .ok (.bipush 120, 2) := by decide +kernel
theorem dX3_readText_20 : decode mX3_readText.1 20 = .ok (.if_icmp .gt 93, 3) := by decide +kernel
theorem dX3_readText_23 : decode mX3_readText.1 23 = .ok (.aload_n 0, 1) := by decide +kernel
theorem dX3_readText_24 : decode mX3_readText.1 24 = .ok (.getfield 31, 3) := by decide +kernel
theorem dX3_readText_27 : decode mX3_readText.1 27 = .ok (.ifCond .ne 86, 3) := by decide +kernel
theorem dX3_readText_30 : decode mX3_readText.1 30 = .ok (.aload_n 0, 1) := by decide +kernel
theorem dX3_readText_31 : decode mX3_readText.1 31 = .ok (.iconst 0, 1) := by decide +kernel
theorem dX3_readText_32 : decode mX3_readText.1 32 = .ok (.iconst 0, 1) := by decide +kernel
theorem dX3_readText_33 : decode mX3_readText.1 33 = .ok (.invokevirtual 44, 3) := by decide +kernel
theorem dX3_readText_36 : decode mX3_readText.1 36 = .ok (.aload_n 0, 1) := by decide +kernel
theorem dX3_readText_37 : decode mX3_readText.1 37 = .ok (.getfield 31, 3) := by decide +kernel
theorem dX3_readText_40 : decode mX3_readText.1 40 = .ok (.ifCond .ne 24, 3) := by decide +kernel
theorem dX3_readText_43 : decode mX3_readText.1 43 = .ok (.aload_n 0, 1) := by decide +kernel
theorem dX3_readText_44 : decode mX3_readText.1 44 = .ok (.bipush 63, 2) := by decide +kernel
theorem dX3_readText_46 : decode mX3_readText.1 46 = .ok (.invokevirtual 48, 3) := by decide +kernel
theorem dX3_readText_49 : decode mX3_readText.1 49 = .ok (.ifCond .eq 15, 3) := by decide +kernel
theorem dX3_readText_52 : decode mX3_readText.1 52 = .ok (.aload_n 0, 1) := by decide +kernel
theorem dX3_readText_53 : decode mX3_readText.1 53 = .ok (.bipush (-63), 2) := by decide +kernel
theorem dX3_readText_55 : decode mX3_readText.1 55 = .ok (.invokevirtual 52, 3) := by decide +kernel
theorem dX3_readText_58 : decode mX3_readText.1 58 = .ok (.aload_n 0, 1) := by decide +kernel
theorem dX3_readText_59 : decode mX3_readText.1 59 = .ok (.iconst 0, 1) := by decide +kernel
theorem dX3_readText_60 : decode mX3_readText.1 60 = .ok (.iconst 0, 1) := by decide +kernel
theorem dX3_readText_61 : decode mX3_readText.1 61 = .ok (.invokevirtual 44, 3) := by decide +kernel
theorem dX3_readText_64 : decode mX3_readText.1 64 = .ok (.aload_n 0, 1) := by decide +kernel
theorem dX3_readText_65 : decode mX3_readText.1 65 = .ok (.bipush (-59), 2) := by decide +kernel
theorem dX3_readText_67 : decode mX3_readText.1 67 = .ok (.invokevirtual 52, 3) := by decide +kernel
theorem dX3_readText_70 : decode mX3_readText.1 70 = .ok (.aload_n 0, 1) := by decide +kernel
theorem dX3_readText_71 : decode mX3_readText.1 71 = .ok (.getfield 31, 3) := by decide +kernel
theorem dX3_readText_74 : decode mX3_readText.1 74 = .ok (.ifCond .ne 14, 3) := by decide +kernel
theorem dX3_readText_77 : decode mX3_readText.1 77 = .ok (.aload_n 0, 1) := by decide +kernel
theorem dX3_readText_78 : decode mX3_readText.1 78 = .ok (.getfield 35, 3) := by decide +kernel
theorem dX3_readText_81 : decode mX3_readText.1 81 = .ok (.aload_n 0, 1) := by decide +kernel
theorem dX3_readText_82 : decode mX3_readText.1 82 = .ok (.getfield 24, 3) := by decide +kernel
theorem dX3_readText_85 : decode mX3_readText.1 85 = .ok (.if_icmp .lt 4, 3) := by decide +kernel
theorem dX3_readText_88 : decode mX3_readText.1 88 = .ok (.return_, 1) := by decide +kernel
theorem dX3_readText_89 : decode mX3_readText.1 89 = .ok (.aload_n 0, 1) := by decide +kernel
theorem dX3_readText_90 : decode mX3_readText.1 90 = .ok (.aload_n 0, 1) := by decide +kernel
theorem dX3_readText_91 : decode mX3_readText.1 91 = .ok (.bipush 59, 2) := by decide +kernel
theorem dX3_readText_93 : decode mX3_readText.1 93 = .ok (.invokevirtual 48, 3) := by decide +kernel
theorem dX3_readText_96 : decode mX3_readText.1 96 = .ok (.ifCond .ne 7, 3) := by decide +kernel
theorem dX3_readText_99 : decode mX3_readText.1 99 = .ok (.iconst 1, 1) := by decide +kernel
theorem dX3_readText_100 : decode mX3_readText.1 100 = .ok (.goto 4, 3) := by decide +kernel
theorem dX3_readText_103 : decode mX3_readText.1 103 = .ok (.iconst 0, 1) := by decide +kernel
theorem dX3_readText_104 : decode mX3_readText.1 104 = .ok (.putfield 31, 3) := by decide +kernel
theorem dX3_readText_107 : decode mX3_readText.1 107 = .ok (.iinc 1 1, 3) := by decide +kernel
theorem dX3_readText_110 : decode mX3_readText.1 110 = .ok (.goto (-93), 3) := by decide +kernel
theorem dX3_readText_113 : decode mX3_readText.1 113 = .ok (.return_, 1) := by decide +kernel
theorem X3_readText_0 (h : mm_M) : mm_ev mX3_readText 81 0 [some (vR 2), none] [] h = mm_ev mX3_readText 81 17 [some (vR 2), some (vI 0)] [] (mUp (mUp (mUp h 2 2 0) 2 5 0) 2 3 0) := (ev_aload_n 1 dX3_readText_0 rfl rfl).trans ((ev_iconst 2 (v := 0) dX3_readText_1 rfl rfl).trans ((ev_putI 5 2 dX3_readText_2 fl_3_35 oc2 ak2 rfl rfl rfl).trans ((ev_aload_n 6 dX3_readText_5 rfl rfl).trans ((ev_iconst 7 (v := 0) dX3_readText_6 rfl rfl).trans ((ev_putI 10 5 dX3_readText_7 fl_3_38 oc2 ak2 rfl rfl rfl).trans ((ev_aload_n 11 dX3_readText_10 rfl rfl).trans ((ev_iconst 12 (v := 0) dX3_readText_11 rfl rfl).trans (((ev_putZ 15 3 dX3_readText_12 fl_3_31 oc2 ak2 rfl rfl rfl).trans (if_pos (by decide))).trans ((ev_iconst 16 (v := 0) dX3_readText_15 rfl rfl).trans (ev_istore_n 17 [some (vR 2), some (vI 0)] dX3_readText_16 rfl rfl))))))))))
theorem X3_readText_c (h : mm_M) : mm_call mX3_readText [vR 2] h = mm_ev mX3_readText 81 17 [some (vR 2), some (vI 0)] [] (mUp (mUp (mUp h 2 2 0) 2 5 0) 2 3 0) := X3_readText_0 h 
theorem X3_readText_17 (h : mm_M) (a1 : Int) : mm_ev mX3_readText 81 17 [some (vR 2), some (vI a1)] [] h = if 120 < a1 then some ([], h) else if ¬ (h 2 3) = 0 then some ([], h) else if 10 + (8 * (7 - 0) + (6 - 0) : Int).toNat < 81 then (mm_call mX3_readExpression [vR 2, vI 0, vI 0] h).bind (fun w => mm_ev mX3_readText 81 36 [some (vR 2), some (vI a1)] (w.1 ++ []) w.2) else none := (ev_iload_n 18 dX3_readText_17 rfl rfl).trans ((ev_bipush 20 (v := 120) dX3_readText_18 rfl rfl).trans ((ev_ic_gt 113 23 dX3_readText_20 rfl rfl).trans (mm_ite (ev_vret dX3_readText_113 rfl) ((ev_aload_n 24 dX3_readText_23 rfl rfl).trans ((ev_getI 27 3 dX3_readText_24 fl_3_31 oc2 ak2 (by decide) rfl rfl).trans ((ev_if_ne 113 30 dX3_readText_27 rfl rfl).trans (mm_ite (ev_vret dX3_readText_113 rfl) ((ev_aload_n 31 dX3_readText_30 rfl rfl).trans ((ev_iconst 32 (v := 0) dX3_readText_31 rfl rfl).trans ((ev_iconst 33 (v := 0) dX3_readText_32 rfl rfl).trans (ev_callv mX3_readExpression [vR 2, vI 0, vI 0] [] 36 dX3_readText_33 ml_3_44 k23 rfl oc2 ak2 rfl rfl (Nat.le_of_ble_eq_true rfl) (Nat.le_of_ble_eq_true rfl) rfl)))))))))))
theorem X3_readText_36 (h : mm_M) (a1 : Int) : mm_ev mX3_readText 81 36 [some (vR 2), some (vI a1)] [] h = if ¬ (h 2 3) = 0 then mm_ev mX3_readText 81 64 [some (vR 2), some (vI a1)] [] h else (mm_call mX3_skips [vR 2, vI 63] h).bind (fun w => mm_ev mX3_readText 81 49 [some (vR 2), some (vI a1)] (w.1 ++ []) w.2) := (ev_aload_n 37 dX3_readText_36 rfl rfl).trans ((ev_getI 40 3 dX3_readText_37 fl_3_31 oc2 ak2 (by decide) rfl rfl).trans ((ev_if_ne 64 43 dX3_readText_40 rfl rfl).trans (mm_ite (rfl) ((ev_aload_n 44 dX3_readText_43 rfl rfl).trans ((ev_bipush 46 (v := 63) dX3_readText_44 rfl rfl).trans ((ev_callv mX3_skips [vR 2, vI 63] [] 49 dX3_readText_46 ml_3_48 k27 rfl oc2 ak2 rfl rfl (Nat.le_of_ble_eq_true rfl) (Nat.le_of_ble_eq_true rfl) rfl).trans (if_pos (show 2 < 81 from by decide))))))))
theorem X3_readText_49 (h : mm_M) (a1 : Int) (s0 : Int) : mm_ev mX3_readText 81 49 [some (vR 2), some (vI a1)] [vI s0] h = if s0 = 0 then mm_ev mX3_readText 81 64 [some (vR 2), some (vI a1)] [] h else (mm_call mX3_add [vR 2, vI (-63)] h).bind (fun w => mm_ev mX3_readText 81 58 [some (vR 2), some (vI a1)] (w.1 ++ []) w.2) := (ev_if_eq 64 52 dX3_readText_49 rfl rfl).trans (mm_ite (rfl) ((ev_aload_n 53 dX3_readText_52 rfl rfl).trans ((ev_bipush 55 (v := (-63)) dX3_readText_53 rfl rfl).trans ((ev_callv mX3_add [vR 2, vI (-63)] [] 58 dX3_readText_55 ml_3_52 k28 rfl oc2 ak2 rfl rfl (Nat.le_of_ble_eq_true rfl) (Nat.le_of_ble_eq_true rfl) rfl).trans (if_pos (show 1 < 81 from by decide))))))
theorem X3_readText_58 (h : mm_M) (a1 : Int) : mm_ev mX3_readText 81 58 [some (vR 2), some (vI a1)] [] h = if 10 + (8 * (7 - 0) + (6 - 0) : Int).toNat < 81 then (mm_call mX3_readExpression [vR 2, vI 0, vI 0] h).bind (fun w => mm_ev mX3_readText 81 64 [some (vR 2), some (vI a1)] (w.1 ++ []) w.2) else none := (ev_aload_n 59 dX3_readText_58 rfl rfl).trans ((ev_iconst 60 (v := 0) dX3_readText_59 rfl rfl).trans ((ev_iconst 61 (v := 0) dX3_readText_60 rfl rfl).trans (ev_callv mX3_readExpression [vR 2, vI 0, vI 0] [] 64 dX3_readText_61 ml_3_44 k23 rfl oc2 ak2 rfl rfl (Nat.le_of_ble_eq_true rfl) (Nat.le_of_ble_eq_true rfl) rfl)))
theorem X3_readText_64 (h : mm_M) (a1 : Int) : mm_ev mX3_readText 81 64 [some (vR 2), some (vI a1)] [] h = (mm_call mX3_add [vR 2, vI (-59)] h).bind (fun w => mm_ev mX3_readText 81 70 [some (vR 2), some (vI a1)] (w.1 ++ []) w.2) := (ev_aload_n 65 dX3_readText_64 rfl rfl).trans ((ev_bipush 67 (v := (-59)) dX3_readText_65 rfl rfl).trans ((ev_callv mX3_add [vR 2, vI (-59)] [] 70 dX3_readText_67 ml_3_52 k28 rfl oc2 ak2 rfl rfl (Nat.le_of_ble_eq_true rfl) (Nat.le_of_ble_eq_true rfl) rfl).trans (if_pos (show 1 < 81 from by decide))))
theorem X3_readText_70 (h : mm_M) (a1 : Int) : mm_ev mX3_readText 81 70 [some (vR 2), some (vI a1)] [] h = if ¬ (h 2 3) = 0 then some ([], h) else if (h 2 2) < (h 2 0) then (mm_call mX3_skips [vR 2, vI 59] h).bind (fun w => mm_ev mX3_readText 81 96 [some (vR 2), some (vI a1)] (w.1 ++ [vR 2]) w.2) else some ([], h) := (ev_aload_n 71 dX3_readText_70 rfl rfl).trans ((ev_getI 74 3 dX3_readText_71 fl_3_31 oc2 ak2 (by decide) rfl rfl).trans ((ev_if_ne 88 77 dX3_readText_74 rfl rfl).trans (mm_ite (ev_vret dX3_readText_88 rfl) ((ev_aload_n 78 dX3_readText_77 rfl rfl).trans ((ev_getI 81 2 dX3_readText_78 fl_3_35 oc2 ak2 (by decide) rfl rfl).trans ((ev_aload_n 82 dX3_readText_81 rfl rfl).trans ((ev_getI 85 0 dX3_readText_82 fl_3_24 oc2 ak2 (by decide) rfl rfl).trans ((ev_ic_lt 89 88 dX3_readText_85 rfl rfl).trans (mm_ite ((ev_aload_n 90 dX3_readText_89 rfl rfl).trans ((ev_aload_n 91 dX3_readText_90 rfl rfl).trans ((ev_bipush 93 (v := 59) dX3_readText_91 rfl rfl).trans ((ev_callv mX3_skips [vR 2, vI 59] [vR 2] 96 dX3_readText_93 ml_3_48 k27 rfl oc2 ak2 rfl rfl (Nat.le_of_ble_eq_true rfl) (Nat.le_of_ble_eq_true rfl) rfl).trans (if_pos (show 2 < 81 from by decide)))))) (ev_vret dX3_readText_88 rfl))))))))))
theorem X3_readText_96 (h : mm_M) (a1 : Int) (s0 : Int) : mm_ev mX3_readText 81 96 [some (vR 2), some (vI a1)] [vI s0, vR 2] h = if ¬ s0 = 0 then mm_ev mX3_readText 81 17 [some (vR 2), some (vI (w32 (a1 + 1)))] [] (mUp h 2 3 0) else mm_ev mX3_readText 81 17 [some (vR 2), some (vI (w32 (a1 + 1)))] [] (mUp h 2 3 1) := (ev_if_ne 103 99 dX3_readText_96 rfl rfl).trans (mm_ite ((ev_iconst 104 (v := 0) dX3_readText_103 rfl rfl).trans (((ev_putZ 107 3 dX3_readText_104 fl_3_31 oc2 ak2 rfl rfl rfl).trans (if_pos (by decide))).trans ((ev_iinc 110 [some (vR 2), some (vI (w32 (a1 + 1)))] dX3_readText_107 rfl rfl rfl).trans (ev_goto 17 dX3_readText_110 rfl)))) ((ev_iconst 100 (v := 1) dX3_readText_99 rfl rfl).trans ((ev_goto 104 dX3_readText_100 rfl).trans (((ev_putZ 107 3 dX3_readText_104 fl_3_31 oc2 ak2 rfl rfl rfl).trans (if_pos (by decide))).trans ((ev_iinc 110 [some (vR 2), some (vI (w32 (a1 + 1)))] dX3_readText_107 rfl rfl rfl).trans (ev_goto 17 dX3_readText_110 rfl))))))
theorem dX3_readExpression_0 : decode mX3_readExpression.1 0 = .ok (.iload_n 1, 1) := by decide +kernel
theorem dX3_readExpression_1 : decode mX3_readExpression.1 1 = .ok (.iconst 5, 1) := by decide +kernel
theorem dX3_readExpression_2 : decode mX3_readExpression.1 2 = .ok (.if_icmp .lt 9, 3) := by decide +kernel
theorem dX3_readExpression_5 : decode mX3_readExpression.1 5 = .ok (.aload_n 0, 1) := by decide +kernel
theorem dX3_readExpression_6 : decode mX3_readExpression.1 6 = .ok (.iload_n 2, 1) := by decide +kernel
theorem dX3_readExpression_7 : decode mX3_readExpression.1 7 = .ok (.invokevirtual 56, 3) := by decide +kernel
theorem dX3_readExpression_10 : decode mX3_readExpression.1 10 = .ok (.return_, 1) := by decide +kernel
theorem dX3_readExpression_11 : decode mX3_readExpression.1 11 = .ok (.aload_n 0, 1) := by decide +kernel
theorem dX3_readExpression_12 : decode mX3_readExpression.1 12 = .ok (.iload_n 1, 1) := by decide +kernel
theorem dX3_readExpression_13 : decode mX3_readExpression.1 13 = .ok (.iconst 1, 1) := by decide +kernel
theorem dX3_readExpression_14 : decode mX3_readExpression.1 14 = .ok (.iadd, 1) := by decide +kernel
theorem dX3_readExpression_15 : decode mX3_readExpression.1 15 = .ok (.iload_n 2, 1) := by decide +kernel
theorem dX3_readExpression_16 : decode mX3_readExpression.1 16 = .ok (.invokevirtual 44, 3) := by decide +kernel
theorem dX3_readExpression_19 : decode mX3_readExpression.1 19 = .ok (.iconst 0, 1) := by decide +kernel
theorem dX3_readExpression_20 : decode mX3_readExpression.1 20 = .ok (.istore_n 3, 1) := by decide +kernel
theorem dX3_readExpression_21 : decode mX3_readExpression.1 21 = .ok (.iload_n 3, 1) := by decide +kernel
theorem dX3_readExpression_22 : decode mX3_readExpression.1 22 = .ok (.bipush 120, 2) := by decide +kernel
theorem dX3_readExpression_24 : decode mX3_readExpression.1 24 = .ok (.if_icmp .ge 63, 3) := by decide +kernel
theorem dX3_readExpression_27 : decode mX3_readExpression.1 27 = .ok (.aload_n 0, 1) := by decide +kernel
theorem dX3_readExpression_28 : decode mX3_readExpression.1 28 = .ok (.getfield 31, 3) := by decide +kernel
theorem dX3_readExpression_31 : decode mX3_readExpression.1 31 = .ok (.ifCond .ne 56, 3) := by decide +kernel
theorem dX3_readExpression_34 : decode mX3_readExpression.1 34 = .ok (.aload_n 0, 1) := by decide +kernel
theorem dX3_readExpression_35 : decode mX3_readExpression.1 35 = .ok (.invokevirtual 59, 3) := by decide +kernel
theorem dX3_readExpression_38 : decode mX3_readExpression.1 38 = .ok (.istore 4, 2) := by decide +kernel
theorem dX3_readExpression_40 : decode mX3_readExpression.1 40 = .ok (.iload 4, 2) := by decide +kernel
theorem dX3_readExpression_42 : decode mX3_readExpression.1 42 = .ok (.iload_n 1, 1) := by decide +kernel
theorem dX3_readExpression_43 : decode mX3_readExpression.1 43 = .ok (.invokestatic 63, 3) := by decide +kernel
theorem dX3_readExpression_46 : decode mX3_readExpression.1 46 = .ok (.ifCond .ne 4, 3) := by decide +kernel
theorem dX3_readExpression_49 : decode mX3_readExpression.1 49 = .ok (.return_, 1) := by decide +kernel
theorem dX3_readExpression_50 : decode mX3_readExpression.1 50 = .ok (.aload_n 0, 1) := by decide +kernel
theorem dX3_readExpression_51 : decode mX3_readExpression.1 51 = .ok (.dup, 1) := by decide +kernel
theorem dX3_readExpression_52 : decode mX3_readExpression.1 52 = .ok (.getfield 35, 3) := by decide +kernel
theorem dX3_readExpression_55 : decode mX3_readExpression.1 55 = .ok (.iconst 1, 1) := by decide +kernel
theorem dX3_readExpression_56 : decode mX3_readExpression.1 56 = .ok (.iadd, 1) := by decide +kernel
theorem dX3_readExpression_57 : decode mX3_readExpression.1 57 = .ok (.putfield 35, 3) := by decide +kernel
theorem dX3_readExpression_60 : decode mX3_readExpression.1 60 = .ok (.aload_n 0, 1) := by decide +kernel
theorem dX3_readExpression_61 : decode mX3_readExpression.1 61 = .ok (.iload_n 1, 1) := by decide +kernel
theorem dX3_readExpression_62 : decode mX3_readExpression.1 62 = .ok (.iconst 1, 1) := by decide +kernel
theorem dX3_readExpression_63 : decode mX3_readExpression.1 63 = .ok (.iadd, 1) := by decide +kernel
theorem dX3_readExpression_64 : decode mX3_readExpression.1 64 = .ok (.iload_n 2, 1) := by decide +kernel
theorem dX3_readExpression_65 : decode mX3_readExpression.1 65 = .ok (.invokevirtual 44, 3) := by decide +kernel
theorem dX3_readExpression_68 : decode mX3_readExpression.1 68 = .ok (.aload_n 0, 1) := by decide +kernel
theorem dX3_readExpression_69 : decode mX3_readExpression.1 69 = .ok (.iload 4, 2) := by decide +kernel
theorem dX3_readExpression_71 : decode mX3_readExpression.1 71 = .ok (.ineg, 1) := by decide +kernel
theorem dX3_readExpression_72 : decode mX3_readExpression.1 72 = .ok (.invokevirtual 52, 3) := by decide +kernel
theorem dX3_readExpression_75 : decode mX3_readExpression.1 75 = .ok (.iload_n 1, 1) := by decide +kernel
theorem dX3_readExpression_76 : decode mX3_readExpression.1 76 = .ok (.iconst 2, 1) := by decide +kernel
theorem dX3_readExpression_77 : decode mX3_readExpression.1 77 = .ok (.if_icmp .ne 4, 3) := by decide +kernel
theorem dX3_readExpression_80 : decode mX3_readExpression.1 80 = .ok (.return_, 1) := by decide +kernel
theorem dX3_readExpression_81 : decode mX3_readExpression.1 81 = .ok (.iinc 3 1, 3) := by decide +kernel
theorem dX3_readExpression_84 : decode mX3_readExpression.1 84 = .ok (.goto (-63), 3) := by decide +kernel
theorem dX3_readExpression_87 : decode mX3_readExpression.1 87 = .ok (.return_, 1) := by decide +kernel
theorem X3_readExpression_0 (h : mm_M) (r : Nat) (a1 : Int) (a2 : Int) : mm_ev mX3_readExpression r 0 [some (vR 2), some (vI a1), some (vI a2), none, none] [] h = if a1 < 5 then if 10 + (8 * (7 - a2) + (6 - (w32 (a1 + 1))) : Int).toNat < r then (mm_call mX3_readExpression [vR 2, vI (w32 (a1 + 1)), vI a2] h).bind (fun w => mm_ev mX3_readExpression r 19 [some (vR 2), some (vI a1), some (vI a2), none, none] (w.1 ++ []) w.2) else none else if 10 + (8 * (7 - a2) : Int).toNat < r then (mm_call mX3_readOperand [vR 2, vI a2] h).bind (fun w => mm_ev mX3_readExpression r 10 [some (vR 2), some (vI a1), some (vI a2), none, none] (w.1 ++ []) w.2) else none := (ev_iload_n 1 dX3_readExpression_0 rfl rfl).trans ((ev_iconst 2 (v := 5) dX3_readExpression_1 rfl rfl).trans ((ev_ic_lt 11 5 dX3_readExpression_2 rfl rfl).trans (mm_ite ((ev_aload_n 12 dX3_readExpression_11 rfl rfl).trans ((ev_iload_n 13 dX3_readExpression_12 rfl rfl).trans ((ev_iconst 14 (v := 1) dX3_readExpression_13 rfl rfl).trans ((ev_iadd 15 dX3_readExpression_14 rfl).trans ((ev_iload_n 16 dX3_readExpression_15 rfl rfl).trans (ev_callv mX3_readExpression [vR 2, vI (w32 (a1 + 1)), vI a2] [] 19 dX3_readExpression_16 ml_3_44 k23 rfl oc2 ak2 rfl rfl (Nat.le_of_ble_eq_true rfl) (Nat.le_of_ble_eq_true rfl) rfl)))))) ((ev_aload_n 6 dX3_readExpression_5 rfl rfl).trans ((ev_iload_n 7 dX3_readExpression_6 rfl rfl).trans (ev_callv mX3_readOperand [vR 2, vI a2] [] 10 dX3_readExpression_7 ml_3_56 k24 rfl oc2 ak2 rfl rfl (Nat.le_of_ble_eq_true rfl) (Nat.le_of_ble_eq_true rfl) rfl))))))
theorem X3_readExpression_c (h : mm_M) (a1 : Int) (a2 : Int) : mm_call mX3_readExpression [vR 2, vI a1, vI a2] h = mm_ev mX3_readExpression (10 + (8 * (7 - a2) + (6 - a1) : Int).toNat) 0 [some (vR 2), some (vI a1), some (vI a2), none, none] [] h := rfl
theorem X3_readExpression_10 (h : mm_M) (r : Nat) (a1 : Int) (a2 : Int) : mm_ev mX3_readExpression r 10 [some (vR 2), some (vI a1), some (vI a2), none, none] [] h = some ([], h) := ev_vret dX3_readExpression_10 rfl
theorem X3_readExpression_19 (h : mm_M) (r : Nat) (a1 : Int) (a2 : Int) : mm_ev mX3_readExpression r 19 [some (vR 2), some (vI a1), some (vI a2), none, none] [] h = mm_ev mX3_readExpression r 21 [some (vR 2), some (vI a1), some (vI a2), some (vI 0), none] [] h := (ev_iconst 20 (v := 0) dX3_readExpression_19 rfl rfl).trans (ev_istore_n 21 [some (vR 2), some (vI a1), some (vI a2), some (vI 0), none] dX3_readExpression_20 rfl rfl)
theorem X3_readExpression_21 (h : mm_M) (r : Nat) (a1 : Int) (a2 : Int) (a3 : Int) (o4 : Option mm_V) : mm_ev mX3_readExpression r 21 [some (vR 2), some (vI a1), some (vI a2), some (vI a3), o4] [] h = if 120 ≤ a3 then some ([], h) else if ¬ (h 2 3) = 0 then some ([], h) else if 1 < r then (mm_call mX3_next [vR 2] h).bind (fun w => mm_ev mX3_readExpression r 38 [some (vR 2), some (vI a1), some (vI a2), some (vI a3), o4] (w.1 ++ []) w.2) else none := (ev_iload_n 22 dX3_readExpression_21 rfl rfl).trans ((ev_bipush 24 (v := 120) dX3_readExpression_22 rfl rfl).trans ((ev_ic_ge 87 27 dX3_readExpression_24 rfl rfl).trans (mm_ite (ev_vret dX3_readExpression_87 rfl) ((ev_aload_n 28 dX3_readExpression_27 rfl rfl).trans ((ev_getI 31 3 dX3_readExpression_28 fl_3_31 oc2 ak2 (by decide) rfl rfl).trans ((ev_if_ne 87 34 dX3_readExpression_31 rfl rfl).trans (mm_ite (ev_vret dX3_readExpression_87 rfl) ((ev_aload_n 35 dX3_readExpression_34 rfl rfl).trans (ev_callv mX3_next [vR 2] [] 38 dX3_readExpression_35 ml_3_59 k26 rfl oc2 ak2 rfl rfl (Nat.le_of_ble_eq_true rfl) (Nat.le_of_ble_eq_true rfl) rfl)))))))))
theorem X3_readExpression_38 (h : mm_M) (r : Nat) (a1 : Int) (a2 : Int) (a3 : Int) (o4 : Option mm_V) (s0 : Int) : mm_ev mX3_readExpression r 38 [some (vR 2), some (vI a1), some (vI a2), some (vI a3), o4] [vI s0] h = if 1 < r then (mm_call mX3_isSign [vI s0, vI a1] h).bind (fun w => mm_ev mX3_readExpression r 46 [some (vR 2), some (vI a1), some (vI a2), some (vI a3), some (vI s0)] (w.1 ++ []) w.2) else none := (ev_istore 40 [some (vR 2), some (vI a1), some (vI a2), some (vI a3), some (vI s0)] dX3_readExpression_38 rfl rfl).trans ((ev_iload 42 dX3_readExpression_40 rfl rfl).trans ((ev_iload_n 43 dX3_readExpression_42 rfl rfl).trans (ev_calls mX3_isSign [vI s0, vI a1] [] 46 dX3_readExpression_43 ml_3_63 k31 rfl rfl rfl (Nat.le_of_ble_eq_true rfl) (Nat.le_of_ble_eq_true rfl) rfl)))
theorem X3_readExpression_46 (h : mm_M) (r : Nat) (a1 : Int) (a2 : Int) (a3 : Int) (a4 : Int) (s0 : Int) : mm_ev mX3_readExpression r 46 [some (vR 2), some (vI a1), some (vI a2), some (vI a3), some (vI a4)] [vI s0] h = if ¬ s0 = 0 then if 10 + (8 * (7 - a2) + (6 - (w32 (a1 + 1))) : Int).toNat < r then (mm_call mX3_readExpression [vR 2, vI (w32 (a1 + 1)), vI a2] (mUp h 2 2 (w32 ((h 2 2) + 1)))).bind (fun w => mm_ev mX3_readExpression r 68 [some (vR 2), some (vI a1), some (vI a2), some (vI a3), some (vI a4)] (w.1 ++ []) w.2) else none else some ([], h) := (ev_if_ne 50 49 dX3_readExpression_46 rfl rfl).trans (mm_ite ((ev_aload_n 51 dX3_readExpression_50 rfl rfl).trans ((ev_dup 52 dX3_readExpression_51 rfl rfl).trans ((ev_getI 55 2 dX3_readExpression_52 fl_3_35 oc2 ak2 (by decide) rfl rfl).trans ((ev_iconst 56 (v := 1) dX3_readExpression_55 rfl rfl).trans ((ev_iadd 57 dX3_readExpression_56 rfl).trans ((ev_putI 60 2 dX3_readExpression_57 fl_3_35 oc2 ak2 rfl rfl rfl).trans ((ev_aload_n 61 dX3_readExpression_60 rfl rfl).trans ((ev_iload_n 62 dX3_readExpression_61 rfl rfl).trans ((ev_iconst 63 (v := 1) dX3_readExpression_62 rfl rfl).trans ((ev_iadd 64 dX3_readExpression_63 rfl).trans ((ev_iload_n 65 dX3_readExpression_64 rfl rfl).trans (ev_callv mX3_readExpression [vR 2, vI (w32 (a1 + 1)), vI a2] [] 68 dX3_readExpression_65 ml_3_44 k23 rfl oc2 ak2 rfl rfl (Nat.le_of_ble_eq_true rfl) (Nat.le_of_ble_eq_true rfl) rfl)))))))))))) (ev_vret dX3_readExpression_49 rfl))
theorem X3_readExpression_68 (h : mm_M) (r : Nat) (a1 : Int) (a2 : Int) (a3 : Int) (a4 : Int) : mm_ev mX3_readExpression r 68 [some (vR 2), some (vI a1), some (vI a2), some (vI a3), some (vI a4)] [] h = if 1 < r then (mm_call mX3_add [vR 2, vI (w32 (-a4))] h).bind (fun w => mm_ev mX3_readExpression r 75 [some (vR 2), some (vI a1), some (vI a2), some (vI a3), some (vI a4)] (w.1 ++ []) w.2) else none := (ev_aload_n 69 dX3_readExpression_68 rfl rfl).trans ((ev_iload 71 dX3_readExpression_69 rfl rfl).trans ((ev_ineg 72 dX3_readExpression_71 rfl).trans (ev_callv mX3_add [vR 2, vI (w32 (-a4))] [] 75 dX3_readExpression_72 ml_3_52 k28 rfl oc2 ak2 rfl rfl (Nat.le_of_ble_eq_true rfl) (Nat.le_of_ble_eq_true rfl) rfl)))
theorem X3_readExpression_75 (h : mm_M) (r : Nat) (a1 : Int) (a2 : Int) (a3 : Int) (a4 : Int) : mm_ev mX3_readExpression r 75 [some (vR 2), some (vI a1), some (vI a2), some (vI a3), some (vI a4)] [] h = if ¬ a1 = 2 then mm_ev mX3_readExpression r 21 [some (vR 2), some (vI a1), some (vI a2), some (vI (w32 (a3 + 1))), some (vI a4)] [] h else some ([], h) := (ev_iload_n 76 dX3_readExpression_75 rfl rfl).trans ((ev_iconst 77 (v := 2) dX3_readExpression_76 rfl rfl).trans ((ev_ic_ne 81 80 dX3_readExpression_77 rfl rfl).trans (mm_ite ((ev_iinc 84 [some (vR 2), some (vI a1), some (vI a2), some (vI (w32 (a3 + 1))), some (vI a4)] dX3_readExpression_81 rfl rfl rfl).trans (ev_goto 21 dX3_readExpression_84 rfl)) (ev_vret dX3_readExpression_80 rfl))))
theorem dX3_readOperand_0 : decode mX3_readOperand.1 0 = .ok (.aload_n 0, 1) := by decide +kernel
theorem dX3_readOperand_1 : decode mX3_readOperand.1 1 = .ok (.invokevirtual 59, 3) := by decide +kernel
theorem dX3_readOperand_4 : decode mX3_readOperand.1 4 = .ok (.istore_n 2, 1) := by decide +kernel
theorem dX3_readOperand_5 : decode mX3_readOperand.1 5 = .ok (.iload_n 2, 1) := by decide +kernel
theorem dX3_readOperand_6 : decode mX3_readOperand.1 6 = .ok (.invokestatic 67, 3) := by decide +kernel
theorem dX3_readOperand_9 : decode mX3_readOperand.1 9 = .ok (.ifCond .eq 10, 3) := by decide +kernel
theorem dX3_readOperand_12 : decode mX3_readOperand.1 12 = .ok (.aload_n 0, 1) := by decide +kernel
theorem dX3_readOperand_13 : decode mX3_readOperand.1 13 = .ok (.invokevirtual 70, 3) := by decide +kernel
theorem dX3_readOperand_16 : decode mX3_readOperand.1 16 = .ok (.goto 142, 3) := by decide +kernel
theorem dX3_readOperand_19 : decode mX3_readOperand.1 19 = .ok (.iload_n 2, 1) := by decide +kernel
theorem dX3_readOperand_20 : decode mX3_readOperand.1 20 = .ok (.invokestatic 73, 3) := by decide +kernel
theorem dX3_readOperand_23 : decode mX3_readOperand.1 23 = .ok (.ifCond .eq 22, 3) := by decide +kernel
theorem dX3_readOperand_26 : decode mX3_readOperand.1 26 = .ok (.aload_n 0, 1) := by decide +kernel
theorem dX3_readOperand_27 : decode mX3_readOperand.1 27 = .ok (.dup, 1) := by decide +kernel
theorem dX3_readOperand_28 : decode mX3_readOperand.1 28 = .ok (.getfield 35, 3) := by decide +kernel
theorem dX3_readOperand_31 : decode mX3_readOperand.1 31 = .ok (.iconst 1, 1) := by decide +kernel
theorem dX3_readOperand_32 : decode mX3_readOperand.1 32 = .ok (.iadd, 1) := by decide +kernel
theorem dX3_readOperand_33 : decode mX3_readOperand.1 33 = .ok (.putfield 35, 3) := by decide +kernel
theorem dX3_readOperand_36 : decode mX3_readOperand.1 36 = .ok (.aload_n 0, 1) := by decide +kernel
theorem dX3_readOperand_37 : decode mX3_readOperand.1 37 = .ok (.iload_n 2, 1) := by decide +kernel
theorem dX3_readOperand_38 : decode mX3_readOperand.1 38 = .ok (.ineg, 1) := by decide +kernel
theorem dX3_readOperand_39 : decode mX3_readOperand.1 39 = .ok (.invokevirtual 52, 3) := by decide +kernel
theorem dX3_readOperand_42 : decode mX3_readOperand.1 42 = .ok (.goto 116, 3) := by decide +kernel
theorem dX3_readOperand_45 : decode mX3_readOperand.1 45 = .ok (.iload_n 1, 1) := by decide +kernel
theorem dX3_readOperand_46 : decode mX3_readOperand.1 46 = .ok (.bipush 6, 2) := by decide +kernel
theorem dX3_readOperand_48 : decode mX3_readOperand.1 48 = .ok (.if_icmp .lt 11, 3) := by decide +kernel
theorem dX3_readOperand_51 : decode mX3_readOperand.1 51 = .ok (.aload_n 0, 1) := by decide +kernel
theorem dX3_readOperand_52 : decode mX3_readOperand.1 52 = .ok (.iconst 1, 1) := by decide +kernel
theorem dX3_readOperand_53 : decode mX3_readOperand.1 53 = .ok (.putfield 31, 3) := by decide +kernel
theorem dX3_readOperand_56 : decode mX3_readOperand.1 56 = .ok (.goto 102, 3) := by decide +kernel
theorem dX3_readOperand_59 : decode mX3_readOperand.1 59 = .ok (.aload_n 0, 1) := by decide +kernel
theorem dX3_readOperand_60 : decode mX3_readOperand.1 60 = .ok (.bipush 40, 2) := by decide +kernel
theorem dX3_readOperand_62 : decode mX3_readOperand.1 62 = .ok (.invokevirtual 48, 3) := by decide +kernel
theorem dX3_readOperand_65 : decode mX3_readOperand.1 65 = .ok (.ifCond .eq 39, 3) := by decide +kernel
theorem dX3_readOperand_68 : decode mX3_readOperand.1 68 = .ok (.aload_n 0, 1) := by decide +kernel
theorem dX3_readOperand_69 : decode mX3_readOperand.1 69 = .ok (.iconst 0, 1) := by decide +kernel
theorem dX3_readOperand_70 : decode mX3_readOperand.1 70 = .ok (.iload_n 1, 1) := by decide +kernel
theorem dX3_readOperand_71 : decode mX3_readOperand.1 71 = .ok (.iconst 1, 1) := by decide +kernel
theorem dX3_readOperand_72 : decode mX3_readOperand.1 72 = .ok (.iadd, 1) := by decide +kernel
theorem dX3_readOperand_73 : decode mX3_readOperand.1 73 = .ok (.invokevirtual 44, 3) := by decide +kernel
theorem dX3_readOperand_76 : decode mX3_readOperand.1 76 = .ok (.aload_n 0, 1) := by decide +kernel
theorem dX3_readOperand_77 : decode mX3_readOperand.1 77 = .ok (.aload_n 0, 1) := by decide +kernel
theorem dX3_readOperand_78 : decode mX3_readOperand.1 78 = .ok (.getfield 31, 3) := by decide +kernel
theorem dX3_readOperand_81 : decode mX3_readOperand.1 81 = .ok (.ifCond .ne 12, 3) := by decide +kernel
theorem dX3_readOperand_84 : decode mX3_readOperand.1 84 = .ok (.aload_n 0, 1) := by decide +kernel
theorem dX3_readOperand_85 : decode mX3_readOperand.1 85 = .ok (.bipush 41, 2) := by decide +kernel
theorem dX3_readOperand_87 : decode mX3_readOperand.1 87 = .ok (.invokevirtual 48, 3) := by decide +kernel
theorem dX3_readOperand_90 : decode mX3_readOperand.1 90 = .ok (.ifCond .ne 7, 3) := by decide +kernel
theorem dX3_readOperand_93 : decode mX3_readOperand.1 93 = .ok (.iconst 1, 1) := by decide +kernel
theorem dX3_readOperand_94 : decode mX3_readOperand.1 94 = .ok (.goto 4, 3) := by decide +kernel
theorem dX3_readOperand_97 : decode mX3_readOperand.1 97 = .ok (.iconst 0, 1) := by decide +kernel
theorem dX3_readOperand_98 : decode mX3_readOperand.1 98 = .ok (.putfield 31, 3) := by decide +kernel
theorem dX3_readOperand_101 : decode mX3_readOperand.1 101 = .ok (.goto 57, 3) := by decide +kernel
theorem dX3_readOperand_104 : decode mX3_readOperand.1 104 = .ok (.aload_n 0, 1) := by decide +kernel
theorem dX3_readOperand_105 : decode mX3_readOperand.1 105 = .ok (.bipush 33, 2) := by decide +kernel
theorem dX3_readOperand_107 : decode mX3_readOperand.1 107 = .ok (.invokevirtual 48, 3) := by decide +kernel
theorem dX3_readOperand_110 : decode mX3_readOperand.1 110 = .ok (.ifCond .eq 19, 3) := by decide +kernel
theorem dX3_readOperand_113 : decode mX3_readOperand.1 113 = .ok (.aload_n 0, 1) := by decide +kernel
theorem dX3_readOperand_114 : decode mX3_readOperand.1 114 = .ok (.iload_n 1, 1) := by decide +kernel
theorem dX3_readOperand_115 : decode mX3_readOperand.1 115 = .ok (.iconst 1, 1) := by decide +kernel
theorem dX3_readOperand_116 : decode mX3_readOperand.1 116 = .ok (.iadd, 1) := by decide +kernel
theorem dX3_readOperand_117 : decode mX3_readOperand.1 117 = .ok (.invokevirtual 56, 3) := by decide +kernel
theorem dX3_readOperand_120 : decode mX3_readOperand.1 120 = .ok (.aload_n 0, 1) := by decide +kernel
theorem dX3_readOperand_121 : decode mX3_readOperand.1 121 = .ok (.bipush (-33), 2) := by decide +kernel
theorem dX3_readOperand_123 : decode mX3_readOperand.1 123 = .ok (.invokevirtual 52, 3) := by decide +kernel
theorem dX3_readOperand_126 : decode mX3_readOperand.1 126 = .ok (.goto 32, 3) := by decide +kernel
theorem dX3_readOperand_129 : decode mX3_readOperand.1 129 = .ok (.aload_n 0, 1) := by decide +kernel
theorem dX3_readOperand_130 : decode mX3_readOperand.1 130 = .ok (.bipush 45, 2) := by decide +kernel
theorem dX3_readOperand_132 : decode mX3_readOperand.1 132 = .ok (.invokevirtual 48, 3) := by decide +kernel
theorem dX3_readOperand_135 : decode mX3_readOperand.1 135 = .ok (.ifCond .eq 18, 3) := by decide +kernel
theorem dX3_readOperand_138 : decode mX3_readOperand.1 138 = .ok (.aload_n 0, 1) := by decide +kernel
theorem dX3_readOperand_139 : decode mX3_readOperand.1 139 = .ok (.iload_n 1, 1) := by decide +kernel
theorem dX3_readOperand_140 : decode mX3_readOperand.1 140 = .ok (.iconst 1, 1) := by decide +kernel
theorem dX3_readOperand_141 : decode mX3_readOperand.1 141 = .ok (.iadd, 1) := by decide +kernel
theorem dX3_readOperand_142 : decode mX3_readOperand.1 142 = .ok (.invokevirtual 56, 3) := by decide +kernel
theorem dX3_readOperand_145 : decode mX3_readOperand.1 145 = .ok (.aload_n 0, 1) := by decide +kernel
theorem dX3_readOperand_146 : decode mX3_readOperand.1 146 = .ok (.iconst (-1), 1) := by decide +kernel
theorem dX3_readOperand_147 : decode mX3_readOperand.1 147 = .ok (.invokevirtual 52, 3) := by decide +kernel
theorem dX3_readOperand_150 : decode mX3_readOperand.1 150 = .ok (.goto 8, 3) := by decide +kernel
theorem dX3_readOperand_153 : decode mX3_readOperand.1 153 = .ok (.aload_n 0, 1) := by decide +kernel
theorem dX3_readOperand_154 : decode mX3_readOperand.1 154 = .ok (.iconst 1, 1) := by decide +kernel
theorem dX3_readOperand_155 : decode mX3_readOperand.1 155 = .ok (.putfield 31, 3) := by decide +kernel
theorem dX3_readOperand_158 : decode mX3_readOperand.1 158 = .ok (.return_, 1) := by decide +kernel
theorem X3_readOperand_0 (h : mm_M) (r : Nat) (a1 : Int) : mm_ev mX3_readOperand r 0 [some (vR 2), some (vI a1), none] [] h = if 1 < r then (mm_call mX3_next [vR 2] h).bind (fun w => mm_ev mX3_readOperand r 4 [some (vR 2), some (vI a1), none] (w.1 ++ []) w.2) else none := (ev_aload_n 1 dX3_readOperand_0 rfl rfl).trans (ev_callv mX3_next [vR 2] [] 4 dX3_readOperand_1 ml_3_59 k26 rfl oc2 ak2 rfl rfl (Nat.le_of_ble_eq_true rfl) (Nat.le_of_ble_eq_true rfl) rfl)
theorem X3_readOperand_c (h : mm_M) (a1 : Int) : mm_call mX3_readOperand [vR 2, vI a1] h = mm_ev mX3_readOperand (10 + (8 * (7 - a1) : Int).toNat) 0 [some (vR 2), some (vI a1), none] [] h := rfl
theorem X3_readOperand_4 (h : mm_M) (r : Nat) (a1 : Int) (s0 : Int) : mm_ev mX3_readOperand r 4 [some (vR 2), some (vI a1), none] [vI s0] h = if 1 < r then (mm_call mX3_isDigit [vI s0] h).bind (fun w => mm_ev mX3_readOperand r 9 [some (vR 2), some (vI a1), some (vI s0)] (w.1 ++ []) w.2) else none := (ev_istore_n 5 [some (vR 2), some (vI a1), some (vI s0)] dX3_readOperand_4 rfl rfl).trans ((ev_iload_n 6 dX3_readOperand_5 rfl rfl).trans (ev_calls mX3_isDigit [vI s0] [] 9 dX3_readOperand_6 ml_3_67 k29 rfl rfl rfl (Nat.le_of_ble_eq_true rfl) (Nat.le_of_ble_eq_true rfl) rfl))
theorem X3_readOperand_9 (h : mm_M) (r : Nat) (a1 : Int) (a2 : Int) (s0 : Int) : mm_ev mX3_readOperand r 9 [some (vR 2), some (vI a1), some (vI a2)] [vI s0] h = if s0 = 0 then if 1 < r then (mm_call mX3_isName [vI a2] h).bind (fun w => mm_ev mX3_readOperand r 23 [some (vR 2), some (vI a1), some (vI a2)] (w.1 ++ []) w.2) else none else if 2 < r then (mm_call mX3_readNumber [vR 2] h).bind (fun w => mm_ev mX3_readOperand r 16 [some (vR 2), some (vI a1), some (vI a2)] (w.1 ++ []) w.2) else none := (ev_if_eq 19 12 dX3_readOperand_9 rfl rfl).trans (mm_ite ((ev_iload_n 20 dX3_readOperand_19 rfl rfl).trans (ev_calls mX3_isName [vI a2] [] 23 dX3_readOperand_20 ml_3_73 k30 rfl rfl rfl (Nat.le_of_ble_eq_true rfl) (Nat.le_of_ble_eq_true rfl) rfl)) ((ev_aload_n 13 dX3_readOperand_12 rfl rfl).trans (ev_callv mX3_readNumber [vR 2] [] 16 dX3_readOperand_13 ml_3_70 k25 rfl oc2 ak2 rfl rfl (Nat.le_of_ble_eq_true rfl) (Nat.le_of_ble_eq_true rfl) rfl)))
theorem X3_readOperand_16 (h : mm_M) (r : Nat) (a1 : Int) (a2 : Int) : mm_ev mX3_readOperand r 16 [some (vR 2), some (vI a1), some (vI a2)] [] h = some ([], h) := (ev_goto 158 dX3_readOperand_16 rfl).trans (ev_vret dX3_readOperand_158 rfl)
theorem X3_readOperand_23 (h : mm_M) (r : Nat) (a1 : Int) (a2 : Int) (s0 : Int) : mm_ev mX3_readOperand r 23 [some (vR 2), some (vI a1), some (vI a2)] [vI s0] h = if s0 = 0 then if a1 < 6 then if 2 < r then (mm_call mX3_skips [vR 2, vI 40] h).bind (fun w => mm_ev mX3_readOperand r 65 [some (vR 2), some (vI a1), some (vI a2)] (w.1 ++ []) w.2) else none else some ([], mUp h 2 3 1) else if 1 < r then (mm_call mX3_add [vR 2, vI (w32 (-a2))] (mUp h 2 2 (w32 ((h 2 2) + 1)))).bind (fun w => mm_ev mX3_readOperand r 42 [some (vR 2), some (vI a1), some (vI a2)] (w.1 ++ []) w.2) else none := (ev_if_eq 45 26 dX3_readOperand_23 rfl rfl).trans (mm_ite ((ev_iload_n 46 dX3_readOperand_45 rfl rfl).trans ((ev_bipush 48 (v := 6) dX3_readOperand_46 rfl rfl).trans ((ev_ic_lt 59 51 dX3_readOperand_48 rfl rfl).trans (mm_ite ((ev_aload_n 60 dX3_readOperand_59 rfl rfl).trans ((ev_bipush 62 (v := 40) dX3_readOperand_60 rfl rfl).trans (ev_callv mX3_skips [vR 2, vI 40] [] 65 dX3_readOperand_62 ml_3_48 k27 rfl oc2 ak2 rfl rfl (Nat.le_of_ble_eq_true rfl) (Nat.le_of_ble_eq_true rfl) rfl))) ((ev_aload_n 52 dX3_readOperand_51 rfl rfl).trans ((ev_iconst 53 (v := 1) dX3_readOperand_52 rfl rfl).trans (((ev_putZ 56 3 dX3_readOperand_53 fl_3_31 oc2 ak2 rfl rfl rfl).trans (if_pos (by decide))).trans ((ev_goto 158 dX3_readOperand_56 rfl).trans (ev_vret dX3_readOperand_158 rfl))))))))) ((ev_aload_n 27 dX3_readOperand_26 rfl rfl).trans ((ev_dup 28 dX3_readOperand_27 rfl rfl).trans ((ev_getI 31 2 dX3_readOperand_28 fl_3_35 oc2 ak2 (by decide) rfl rfl).trans ((ev_iconst 32 (v := 1) dX3_readOperand_31 rfl rfl).trans ((ev_iadd 33 dX3_readOperand_32 rfl).trans ((ev_putI 36 2 dX3_readOperand_33 fl_3_35 oc2 ak2 rfl rfl rfl).trans ((ev_aload_n 37 dX3_readOperand_36 rfl rfl).trans ((ev_iload_n 38 dX3_readOperand_37 rfl rfl).trans ((ev_ineg 39 dX3_readOperand_38 rfl).trans (ev_callv mX3_add [vR 2, vI (w32 (-a2))] [] 42 dX3_readOperand_39 ml_3_52 k28 rfl oc2 ak2 rfl rfl (Nat.le_of_ble_eq_true rfl) (Nat.le_of_ble_eq_true rfl) rfl)))))))))))
theorem X3_readOperand_42 (h : mm_M) (r : Nat) (a1 : Int) (a2 : Int) : mm_ev mX3_readOperand r 42 [some (vR 2), some (vI a1), some (vI a2)] [] h = some ([], h) := (ev_goto 158 dX3_readOperand_42 rfl).trans (ev_vret dX3_readOperand_158 rfl)
theorem X3_readOperand_65 (h : mm_M) (r : Nat) (a1 : Int) (a2 : Int) (s0 : Int) : mm_ev mX3_readOperand r 65 [some (vR 2), some (vI a1), some (vI a2)] [vI s0] h = if s0 = 0 then if 2 < r then (mm_call mX3_skips [vR 2, vI 33] h).bind (fun w => mm_ev mX3_readOperand r 110 [some (vR 2), some (vI a1), some (vI a2)] (w.1 ++ []) w.2) else none else if 10 + (8 * (7 - (w32 (a1 + 1))) + (6 - 0) : Int).toNat < r then (mm_call mX3_readExpression [vR 2, vI 0, vI (w32 (a1 + 1))] h).bind (fun w => mm_ev mX3_readOperand r 76 [some (vR 2), some (vI a1), some (vI a2)] (w.1 ++ []) w.2) else none := (ev_if_eq 104 68 dX3_readOperand_65 rfl rfl).trans (mm_ite ((ev_aload_n 105 dX3_readOperand_104 rfl rfl).trans ((ev_bipush 107 (v := 33) dX3_readOperand_105 rfl rfl).trans (ev_callv mX3_skips [vR 2, vI 33] [] 110 dX3_readOperand_107 ml_3_48 k27 rfl oc2 ak2 rfl rfl (Nat.le_of_ble_eq_true rfl) (Nat.le_of_ble_eq_true rfl) rfl))) ((ev_aload_n 69 dX3_readOperand_68 rfl rfl).trans ((ev_iconst 70 (v := 0) dX3_readOperand_69 rfl rfl).trans ((ev_iload_n 71 dX3_readOperand_70 rfl rfl).trans ((ev_iconst 72 (v := 1) dX3_readOperand_71 rfl rfl).trans ((ev_iadd 73 dX3_readOperand_72 rfl).trans (ev_callv mX3_readExpression [vR 2, vI 0, vI (w32 (a1 + 1))] [] 76 dX3_readOperand_73 ml_3_44 k23 rfl oc2 ak2 rfl rfl (Nat.le_of_ble_eq_true rfl) (Nat.le_of_ble_eq_true rfl) rfl)))))))
theorem X3_readOperand_76 (h : mm_M) (r : Nat) (a1 : Int) (a2 : Int) : mm_ev mX3_readOperand r 76 [some (vR 2), some (vI a1), some (vI a2)] [] h = if ¬ (h 2 3) = 0 then some ([], mUp h 2 3 1) else if 2 < r then (mm_call mX3_skips [vR 2, vI 41] h).bind (fun w => mm_ev mX3_readOperand r 90 [some (vR 2), some (vI a1), some (vI a2)] (w.1 ++ [vR 2]) w.2) else none := (ev_aload_n 77 dX3_readOperand_76 rfl rfl).trans ((ev_aload_n 78 dX3_readOperand_77 rfl rfl).trans ((ev_getI 81 3 dX3_readOperand_78 fl_3_31 oc2 ak2 (by decide) rfl rfl).trans ((ev_if_ne 93 84 dX3_readOperand_81 rfl rfl).trans (mm_ite ((ev_iconst 94 (v := 1) dX3_readOperand_93 rfl rfl).trans ((ev_goto 98 dX3_readOperand_94 rfl).trans (((ev_putZ 101 3 dX3_readOperand_98 fl_3_31 oc2 ak2 rfl rfl rfl).trans (if_pos (by decide))).trans ((ev_goto 158 dX3_readOperand_101 rfl).trans (ev_vret dX3_readOperand_158 rfl))))) ((ev_aload_n 85 dX3_readOperand_84 rfl rfl).trans ((ev_bipush 87 (v := 41) dX3_readOperand_85 rfl rfl).trans (ev_callv mX3_skips [vR 2, vI 41] [vR 2] 90 dX3_readOperand_87 ml_3_48 k27 rfl oc2 ak2 rfl rfl (Nat.le_of_ble_eq_true rfl) (Nat.le_of_ble_eq_true rfl) rfl)))))))
theorem X3_readOperand_90 (h : mm_M) (r : Nat) (a1 : Int) (a2 : Int) (s0 : Int) : mm_ev mX3_readOperand r 90 [some (vR 2), some (vI a1), some (vI a2)] [vI s0, vR 2] h = if ¬ s0 = 0 then some ([], mUp h 2 3 0) else some ([], mUp h 2 3 1) := (ev_if_ne 97 93 dX3_readOperand_90 rfl rfl).trans (mm_ite ((ev_iconst 98 (v := 0) dX3_readOperand_97 rfl rfl).trans (((ev_putZ 101 3 dX3_readOperand_98 fl_3_31 oc2 ak2 rfl rfl rfl).trans (if_pos (by decide))).trans ((ev_goto 158 dX3_readOperand_101 rfl).trans (ev_vret dX3_readOperand_158 rfl)))) ((ev_iconst 94 (v := 1) dX3_readOperand_93 rfl rfl).trans ((ev_goto 98 dX3_readOperand_94 rfl).trans (((ev_putZ 101 3 dX3_readOperand_98 fl_3_31 oc2 ak2 rfl rfl rfl).trans (if_pos (by decide))).trans ((ev_goto 158 dX3_readOperand_101 rfl).trans (ev_vret dX3_readOperand_158 rfl))))))
theorem X3_readOperand_110 (h : mm_M) (r : Nat) (a1 : Int) (a2 : Int) (s0 : Int) : mm_ev mX3_readOperand r 110 [some (vR 2), some (vI a1), some (vI a2)] [vI s0] h = if s0 = 0 then if 2 < r then (mm_call mX3_skips [vR 2, vI 45] h).bind (fun w => mm_ev mX3_readOperand r 135 [some (vR 2), some (vI a1), some (vI a2)] (w.1 ++ []) w.2) else none else if 10 + (8 * (7 - (w32 (a1 + 1))) : Int).toNat < r then (mm_call mX3_readOperand [vR 2, vI (w32 (a1 + 1))] h).bind (fun w => mm_ev mX3_readOperand r 120 [some (vR 2), some (vI a1), some (vI a2)] (w.1 ++ []) w.2) else none := (ev_if_eq 129 113 dX3_readOperand_110 rfl rfl).trans (mm_ite ((ev_aload_n 130 dX3_readOperand_129 rfl rfl).trans ((ev_bipush 132 (v := 45) dX3_readOperand_130 rfl rfl).trans (ev_callv mX3_skips [vR 2, vI 45] [] 135 dX3_readOperand_132 ml_3_48 k27 rfl oc2 ak2 rfl rfl (Nat.le_of_ble_eq_true rfl) (Nat.le_of_ble_eq_true rfl) rfl))) ((ev_aload_n 114 dX3_readOperand_113 rfl rfl).trans ((ev_iload_n 115 dX3_readOperand_114 rfl rfl).trans ((ev_iconst 116 (v := 1) dX3_readOperand_115 rfl rfl).trans ((ev_iadd 117 dX3_readOperand_116 rfl).trans (ev_callv mX3_readOperand [vR 2, vI (w32 (a1 + 1))] [] 120 dX3_readOperand_117 ml_3_56 k24 rfl oc2 ak2 rfl rfl (Nat.le_of_ble_eq_true rfl) (Nat.le_of_ble_eq_true rfl) rfl))))))
theorem X3_readOperand_120 (h : mm_M) (r : Nat) (a1 : Int) (a2 : Int) : mm_ev mX3_readOperand r 120 [some (vR 2), some (vI a1), some (vI a2)] [] h = if 1 < r then (mm_call mX3_add [vR 2, vI (-33)] h).bind (fun w => mm_ev mX3_readOperand r 126 [some (vR 2), some (vI a1), some (vI a2)] (w.1 ++ []) w.2) else none := (ev_aload_n 121 dX3_readOperand_120 rfl rfl).trans ((ev_bipush 123 (v := (-33)) dX3_readOperand_121 rfl rfl).trans (ev_callv mX3_add [vR 2, vI (-33)] [] 126 dX3_readOperand_123 ml_3_52 k28 rfl oc2 ak2 rfl rfl (Nat.le_of_ble_eq_true rfl) (Nat.le_of_ble_eq_true rfl) rfl))
theorem X3_readOperand_126 (h : mm_M) (r : Nat) (a1 : Int) (a2 : Int) : mm_ev mX3_readOperand r 126 [some (vR 2), some (vI a1), some (vI a2)] [] h = some ([], h) := (ev_goto 158 dX3_readOperand_126 rfl).trans (ev_vret dX3_readOperand_158 rfl)
theorem X3_readOperand_135 (h : mm_M) (r : Nat) (a1 : Int) (a2 : Int) (s0 : Int) : mm_ev mX3_readOperand r 135 [some (vR 2), some (vI a1), some (vI a2)] [vI s0] h = if s0 = 0 then some ([], mUp h 2 3 1) else if 10 + (8 * (7 - (w32 (a1 + 1))) : Int).toNat < r then (mm_call mX3_readOperand [vR 2, vI (w32 (a1 + 1))] h).bind (fun w => mm_ev mX3_readOperand r 145 [some (vR 2), some (vI a1), some (vI a2)] (w.1 ++ []) w.2) else none := (ev_if_eq 153 138 dX3_readOperand_135 rfl rfl).trans (mm_ite ((ev_aload_n 154 dX3_readOperand_153 rfl rfl).trans ((ev_iconst 155 (v := 1) dX3_readOperand_154 rfl rfl).trans (((ev_putZ 158 3 dX3_readOperand_155 fl_3_31 oc2 ak2 rfl rfl rfl).trans (if_pos (by decide))).trans (ev_vret dX3_readOperand_158 rfl)))) ((ev_aload_n 139 dX3_readOperand_138 rfl rfl).trans ((ev_iload_n 140 dX3_readOperand_139 rfl rfl).trans ((ev_iconst 141 (v := 1) dX3_readOperand_140 rfl rfl).trans ((ev_iadd 142 dX3_readOperand_141 rfl).trans (ev_callv mX3_readOperand [vR 2, vI (w32 (a1 + 1))] [] 145 dX3_readOperand_142 ml_3_56 k24 rfl oc2 ak2 rfl rfl (Nat.le_of_ble_eq_true rfl) (Nat.le_of_ble_eq_true rfl) rfl))))))
theorem X3_readOperand_145 (h : mm_M) (r : Nat) (a1 : Int) (a2 : Int) : mm_ev mX3_readOperand r 145 [some (vR 2), some (vI a1), some (vI a2)] [] h = if 1 < r then (mm_call mX3_add [vR 2, vI (-1)] h).bind (fun w => mm_ev mX3_readOperand r 150 [some (vR 2), some (vI a1), some (vI a2)] (w.1 ++ []) w.2) else none := (ev_aload_n 146 dX3_readOperand_145 rfl rfl).trans ((ev_iconst 147 (v := (-1)) dX3_readOperand_146 rfl rfl).trans (ev_callv mX3_add [vR 2, vI (-1)] [] 150 dX3_readOperand_147 ml_3_52 k28 rfl oc2 ak2 rfl rfl (Nat.le_of_ble_eq_true rfl) (Nat.le_of_ble_eq_true rfl) rfl))
theorem X3_readOperand_150 (h : mm_M) (r : Nat) (a1 : Int) (a2 : Int) : mm_ev mX3_readOperand r 150 [some (vR 2), some (vI a1), some (vI a2)] [] h = some ([], h) := (ev_goto 158 dX3_readOperand_150 rfl).trans (ev_vret dX3_readOperand_158 rfl)
theorem dX3_next_0 : decode mX3_next.1 0 = .ok (.aload_n 0, 1) := by decide +kernel
theorem dX3_next_1 : decode mX3_next.1 1 = .ok (.getfield 35, 3) := by decide +kernel
theorem dX3_next_4 : decode mX3_next.1 4 = .ok (.aload_n 0, 1) := by decide +kernel
theorem dX3_next_5 : decode mX3_next.1 5 = .ok (.getfield 24, 3) := by decide +kernel
theorem dX3_next_8 : decode mX3_next.1 8 = .ok (.if_icmp .ge 15, 3) := by decide +kernel
theorem dX3_next_11 : decode mX3_next.1 11 = .ok (.aload_n 0, 1) := by decide +kernel
theorem dX3_next_12 : decode mX3_next.1 12 = .ok (.getfield 11, 3) := by decide +kernel
theorem dX3_next_15 : decode mX3_next.1 15 = .ok (.aload_n 0, 1) := by decide +kernel
theorem dX3_next_16 : decode mX3_next.1 16 = .ok (.getfield 35, 3) := by decide +kernel
theorem dX3_next_19 : decode mX3_next.1 19 = .ok (.iaload, 1) := by decide +kernel
theorem dX3_next_20 : decode mX3_next.1 20 = .ok (.goto 4, 3) := by decide +kernel
theorem dX3_next_23 : decode mX3_next.1 23 = .ok (.iconst (-1), 1) := by decide +kernel
theorem dX3_next_24 : decode mX3_next.1 24 = .ok (.ireturn, 1) := by decide +kernel
theorem X3_next_0 (h : mm_M) : mm_ev mX3_next 1 0 [some (vR 2)] [] h = if (h 2 0) ≤ (h 2 2) then some ([vI (-1)], h) else if 0 ≤ (h 2 2) ∧ (h 2 2) < 120 then some ([vI (h 15 (h 2 2))], h) else none := (ev_aload_n 1 dX3_next_0 rfl rfl).trans ((ev_getI 4 2 dX3_next_1 fl_3_35 oc2 ak2 (by decide) rfl rfl).trans ((ev_aload_n 5 dX3_next_4 rfl rfl).trans ((ev_getI 8 0 dX3_next_5 fl_3_24 oc2 ak2 (by decide) rfl rfl).trans ((ev_ic_ge 23 11 dX3_next_8 rfl rfl).trans (mm_ite ((ev_iconst 24 (v := (-1)) dX3_next_23 rfl rfl).trans (ev_iret dX3_next_24 rfl)) ((ev_aload_n 12 dX3_next_11 rfl rfl).trans ((ev_getF 15 15 dX3_next_12 fl_3_11 oc2 ak2 rfl rf_2_1 rfl).trans ((ev_aload_n 16 dX3_next_15 rfl rfl).trans ((ev_getI 19 2 dX3_next_16 fl_3_35 oc2 ak2 (by decide) rfl rfl).trans ((ev_iald 20 120 dX3_next_19 ak15 an15 rfl).trans (mm_ite ((ev_goto 24 dX3_next_20 rfl).trans (ev_iret dX3_next_24 rfl)) (rfl))))))))))))
theorem X3_next_c (h : mm_M) : mm_call mX3_next [vR 2] h = if (h 2 0) ≤ (h 2 2) then some ([vI (-1)], h) else if 0 ≤ (h 2 2) ∧ (h 2 2) < 120 then some ([vI (h 15 (h 2 2))], h) else none := X3_next_0 h 
theorem dX3_isDigit_0 : decode mX3_isDigit.1 0 = .ok (.iload_n 0, 1) := by decide +kernel
theorem dX3_isDigit_1 : decode mX3_isDigit.1 1 = .ok (.bipush 48, 2) := by decide +kernel
theorem dX3_isDigit_3 : decode mX3_isDigit.1 3 = .ok (.if_icmp .lt 13, 3) := by decide +kernel
theorem dX3_isDigit_6 : decode mX3_isDigit.1 6 = .ok (.iload_n 0, 1) := by decide +kernel
theorem dX3_isDigit_7 : decode mX3_isDigit.1 7 = .ok (.bipush 57, 2) := by decide +kernel
theorem dX3_isDigit_9 : decode mX3_isDigit.1 9 = .ok (.if_icmp .gt 7, 3) := by decide +kernel
theorem dX3_isDigit_12 : decode mX3_isDigit.1 12 = .ok (.iconst 1, 1) := by decide +kernel
theorem dX3_isDigit_13 : decode mX3_isDigit.1 13 = .ok (.goto 4, 3) := by decide +kernel
theorem dX3_isDigit_16 : decode mX3_isDigit.1 16 = .ok (.iconst 0, 1) := by decide +kernel
theorem dX3_isDigit_17 : decode mX3_isDigit.1 17 = .ok (.ireturn, 1) := by decide +kernel
theorem X3_isDigit_0 (h : mm_M) (a0 : Int) : mm_ev mX3_isDigit 1 0 [some (vI a0)] [] h = if a0 < 48 then some ([vI 0], h) else if 57 < a0 then some ([vI 0], h) else some ([vI 1], h) := (ev_iload_n 1 dX3_isDigit_0 rfl rfl).trans ((ev_bipush 3 (v := 48) dX3_isDigit_1 rfl rfl).trans ((ev_ic_lt 16 6 dX3_isDigit_3 rfl rfl).trans (mm_ite ((ev_iconst 17 (v := 0) dX3_isDigit_16 rfl rfl).trans (ev_zret0 dX3_isDigit_17 rfl)) ((ev_iload_n 7 dX3_isDigit_6 rfl rfl).trans ((ev_bipush 9 (v := 57) dX3_isDigit_7 rfl rfl).trans ((ev_ic_gt 16 12 dX3_isDigit_9 rfl rfl).trans (mm_ite ((ev_iconst 17 (v := 0) dX3_isDigit_16 rfl rfl).trans (ev_zret0 dX3_isDigit_17 rfl)) ((ev_iconst 13 (v := 1) dX3_isDigit_12 rfl rfl).trans ((ev_goto 17 dX3_isDigit_13 rfl).trans (ev_zret1 dX3_isDigit_17 rfl))))))))))
theorem X3_isDigit_c (h : mm_M) (a0 : Int) : mm_call mX3_isDigit [vI a0] h = if a0 < 48 then some ([vI 0], h) else if 57 < a0 then some ([vI 0], h) else some ([vI 1], h) := X3_isDigit_0 h a0
theorem dX3_readNumber_0 : decode mX3_readNumber.1 0 = .ok (.iconst 0, 1) := by decide +kernel
theorem dX3_readNumber_1 : decode mX3_readNumber.1 1 = .ok (.istore_n 1, 1) := by decide +kernel
theorem dX3_readNumber_2 : decode mX3_readNumber.1 2 = .ok (.iconst 0, 1) := by decide +kernel
theorem dX3_readNumber_3 : decode mX3_readNumber.1 3 = .ok (.istore_n 2, 1) := by decide +kernel
theorem dX3_readNumber_4 : decode mX3_readNumber.1 4 = .ok (.iload_n 2, 1) := by decide +kernel
theorem dX3_readNumber_5 : decode mX3_readNumber.1 5 = .ok (.iconst 4, 1) := by decide +kernel
theorem dX3_readNumber_6 : decode mX3_readNumber.1 6 = .ok (.if_icmp .ge 42, 3) := by decide +kernel
theorem dX3_readNumber_9 : decode mX3_readNumber.1 9 = .ok (.aload_n 0, 1) := by decide +kernel
theorem dX3_readNumber_10 : decode mX3_readNumber.1 10 = .ok (.invokevirtual 59, 3) := by decide +kernel
theorem dX3_readNumber_13 : decode mX3_readNumber.1 13 = .ok (.invokestatic 67, 3) := by decide +kernel
theorem dX3_readNumber_16 : decode mX3_readNumber.1 16 = .ok (.ifCond .eq 32, 3) := by decide +kernel
theorem dX3_readNumber_19 : decode mX3_readNumber.1 19 = .ok (.iload_n 1, 1) := by decide +kernel
theorem dX3_readNumber_20 : decode mX3_readNumber.1 20 = .ok (.bipush 10, 2) := by decide +kernel
theorem dX3_readNumber_22 : decode mX3_readNumber.1 22 = .ok (.imul, 1) := by decide +kernel
theorem dX3_readNumber_23 : decode mX3_readNumber.1 23 = .ok (.aload_n 0, 1) := by decide +kernel
theorem dX3_readNumber_24 : decode mX3_readNumber.1 24 = .ok (.invokevirtual 59, 3) := by decide +kernel
theorem dX3_readNumber_27 : decode mX3_readNumber.1 27 = .ok (.iadd, 1) := by decide +kernel
theorem dX3_readNumber_28 : decode mX3_readNumber.1 28 = .ok (.bipush 48, 2) := by decide +kernel
theorem dX3_readNumber_30 : decode mX3_readNumber.1 30 = .ok (.isub, 1) := by decide +kernel
theorem dX3_readNumber_31 : decode mX3_readNumber.1 31 = .ok (.istore_n 1, 1) := by decide +kernel
theorem dX3_readNumber_32 : decode mX3_readNumber.1 32 = .ok (.aload_n 0, 1) := by decide +kernel
theorem dX3_readNumber_33 : decode mX3_readNumber.1 33 = .ok (.dup, 1) := by decide +kernel
theorem dX3_readNumber_34 : decode mX3_readNumber.1 34 = .ok (.getfield 35, 3) := by decide +kernel
theorem dX3_readNumber_37 : decode mX3_readNumber.1 37 = .ok (.iconst 1, 1) := by decide +kernel
theorem dX3_readNumber_38 : decode mX3_readNumber.1 38 = .ok (.iadd, 1) := by decide +kernel
theorem dX3_readNumber_39 : decode mX3_readNumber.1 39 = .ok (.putfield 35, 3) := by decide +kernel
theorem dX3_readNumber_42 : decode mX3_readNumber.1 42 = .ok (.iinc 2 1, 3) := by decide +kernel
theorem dX3_readNumber_45 : decode mX3_readNumber.1 45 = .ok (.goto (-41), 3) := by decide +kernel
theorem dX3_readNumber_48 : decode mX3_readNumber.1 48 = .ok (.aload_n 0, 1) := by decide +kernel
theorem dX3_readNumber_49 : decode mX3_readNumber.1 49 = .ok (.iload_n 1, 1) := by decide +kernel
theorem dX3_readNumber_50 : decode mX3_readNumber.1 50 = .ok (.invokevirtual 52, 3) := by decide +kernel
theorem dX3_readNumber_53 : decode mX3_readNumber.1 53 = .ok (.return_, 1) := by decide +kernel
theorem X3_readNumber_0 (h : mm_M) : mm_ev mX3_readNumber 2 0 [some (vR 2), none, none] [] h = mm_ev mX3_readNumber 2 4 [some (vR 2), some (vI 0), some (vI 0)] [] h := (ev_iconst 1 (v := 0) dX3_readNumber_0 rfl rfl).trans ((ev_istore_n 2 [some (vR 2), some (vI 0), none] dX3_readNumber_1 rfl rfl).trans ((ev_iconst 3 (v := 0) dX3_readNumber_2 rfl rfl).trans (ev_istore_n 4 [some (vR 2), some (vI 0), some (vI 0)] dX3_readNumber_3 rfl rfl)))
theorem X3_readNumber_c (h : mm_M) : mm_call mX3_readNumber [vR 2] h = mm_ev mX3_readNumber 2 4 [some (vR 2), some (vI 0), some (vI 0)] [] h := X3_readNumber_0 h 
theorem X3_readNumber_4 (h : mm_M) (a1 : Int) (a2 : Int) : mm_ev mX3_readNumber 2 4 [some (vR 2), some (vI a1), some (vI a2)] [] h = if 4 ≤ a2 then (mm_call mX3_add [vR 2, vI a1] h).bind (fun w => mm_ev mX3_readNumber 2 53 [some (vR 2), some (vI a1), some (vI a2)] (w.1 ++ []) w.2) else (mm_call mX3_next [vR 2] h).bind (fun w => mm_ev mX3_readNumber 2 13 [some (vR 2), some (vI a1), some (vI a2)] (w.1 ++ []) w.2) := (ev_iload_n 5 dX3_readNumber_4 rfl rfl).trans ((ev_iconst 6 (v := 4) dX3_readNumber_5 rfl rfl).trans ((ev_ic_ge 48 9 dX3_readNumber_6 rfl rfl).trans (mm_ite ((ev_aload_n 49 dX3_readNumber_48 rfl rfl).trans ((ev_iload_n 50 dX3_readNumber_49 rfl rfl).trans ((ev_callv mX3_add [vR 2, vI a1] [] 53 dX3_readNumber_50 ml_3_52 k28 rfl oc2 ak2 rfl rfl (Nat.le_of_ble_eq_true rfl) (Nat.le_of_ble_eq_true rfl) rfl).trans (if_pos (show 1 < 2 from by decide))))) ((ev_aload_n 10 dX3_readNumber_9 rfl rfl).trans ((ev_callv mX3_next [vR 2] [] 13 dX3_readNumber_10 ml_3_59 k26 rfl oc2 ak2 rfl rfl (Nat.le_of_ble_eq_true rfl) (Nat.le_of_ble_eq_true rfl) rfl).trans (if_pos (show 1 < 2 from by decide)))))))
theorem X3_readNumber_13 (h : mm_M) (a1 : Int) (a2 : Int) (s0 : Int) : mm_ev mX3_readNumber 2 13 [some (vR 2), some (vI a1), some (vI a2)] [vI s0] h = (mm_call mX3_isDigit [vI s0] h).bind (fun w => mm_ev mX3_readNumber 2 16 [some (vR 2), some (vI a1), some (vI a2)] (w.1 ++ []) w.2) := (ev_calls mX3_isDigit [vI s0] [] 16 dX3_readNumber_13 ml_3_67 k29 rfl rfl rfl (Nat.le_of_ble_eq_true rfl) (Nat.le_of_ble_eq_true rfl) rfl).trans (if_pos (show 1 < 2 from by decide))
theorem X3_readNumber_16 (h : mm_M) (a1 : Int) (a2 : Int) (s0 : Int) : mm_ev mX3_readNumber 2 16 [some (vR 2), some (vI a1), some (vI a2)] [vI s0] h = if s0 = 0 then (mm_call mX3_add [vR 2, vI a1] h).bind (fun w => mm_ev mX3_readNumber 2 53 [some (vR 2), some (vI a1), some (vI a2)] (w.1 ++ []) w.2) else (mm_call mX3_next [vR 2] h).bind (fun w => mm_ev mX3_readNumber 2 27 [some (vR 2), some (vI a1), some (vI a2)] (w.1 ++ [vI (w32 (a1 * 10))]) w.2) := (ev_if_eq 48 19 dX3_readNumber_16 rfl rfl).trans (mm_ite ((ev_aload_n 49 dX3_readNumber_48 rfl rfl).trans ((ev_iload_n 50 dX3_readNumber_49 rfl rfl).trans ((ev_callv mX3_add [vR 2, vI a1] [] 53 dX3_readNumber_50 ml_3_52 k28 rfl oc2 ak2 rfl rfl (Nat.le_of_ble_eq_true rfl) (Nat.le_of_ble_eq_true rfl) rfl).trans (if_pos (show 1 < 2 from by decide))))) ((ev_iload_n 20 dX3_readNumber_19 rfl rfl).trans ((ev_bipush 22 (v := 10) dX3_readNumber_20 rfl rfl).trans ((ev_imul 23 dX3_readNumber_22 rfl).trans ((ev_aload_n 24 dX3_readNumber_23 rfl rfl).trans ((ev_callv mX3_next [vR 2] [vI (w32 (a1 * 10))] 27 dX3_readNumber_24 ml_3_59 k26 rfl oc2 ak2 rfl rfl (Nat.le_of_ble_eq_true rfl) (Nat.le_of_ble_eq_true rfl) rfl).trans (if_pos (show 1 < 2 from by decide))))))))
theorem X3_readNumber_27 (h : mm_M) (a1 : Int) (a2 : Int) (s0 : Int) (s1 : Int) : mm_ev mX3_readNumber 2 27 [some (vR 2), some (vI a1), some (vI a2)] [vI s0, vI s1] h = mm_ev mX3_readNumber 2 4 [some (vR 2), some (vI (w32 ((w32 (s1 + s0)) - 48))), some (vI (w32 (a2 + 1)))] [] (mUp h 2 2 (w32 ((h 2 2) + 1))) := (ev_iadd 28 dX3_readNumber_27 rfl).trans ((ev_bipush 30 (v := 48) dX3_readNumber_28 rfl rfl).trans ((ev_isub 31 dX3_readNumber_30 rfl).trans ((ev_istore_n 32 [some (vR 2), some (vI (w32 ((w32 (s1 + s0)) - 48))), some (vI a2)] dX3_readNumber_31 rfl rfl).trans ((ev_aload_n 33 dX3_readNumber_32 rfl rfl).trans ((ev_dup 34 dX3_readNumber_33 rfl rfl).trans ((ev_getI 37 2 dX3_readNumber_34 fl_3_35 oc2 ak2 (by decide) rfl rfl).trans ((ev_iconst 38 (v := 1) dX3_readNumber_37 rfl rfl).trans ((ev_iadd 39 dX3_readNumber_38 rfl).trans ((ev_putI 42 2 dX3_readNumber_39 fl_3_35 oc2 ak2 rfl rfl rfl).trans ((ev_iinc 45 [some (vR 2), some (vI (w32 ((w32 (s1 + s0)) - 48))), some (vI (w32 (a2 + 1)))] dX3_readNumber_42 rfl rfl rfl).trans (ev_goto 4 dX3_readNumber_45 rfl)))))))))))
theorem X3_readNumber_53 (h : mm_M) (a1 : Int) (a2 : Int) : mm_ev mX3_readNumber 2 53 [some (vR 2), some (vI a1), some (vI a2)] [] h = some ([], h) := ev_vret dX3_readNumber_53 rfl
theorem dX3_add_0 : decode mX3_add.1 0 = .ok (.aload_n 0, 1) := by decide +kernel
theorem dX3_add_1 : decode mX3_add.1 1 = .ok (.getfield 38, 3) := by decide +kernel
theorem dX3_add_4 : decode mX3_add.1 4 = .ok (.aload_n 0, 1) := by decide +kernel
theorem dX3_add_5 : decode mX3_add.1 5 = .ok (.getfield 15, 3) := by decide +kernel
theorem dX3_add_8 : decode mX3_add.1 8 = .ok (.arraylength, 1) := by decide +kernel
theorem dX3_add_9 : decode mX3_add.1 9 = .ok (.if_icmp .ge 23, 3) := by decide +kernel
theorem dX3_add_12 : decode mX3_add.1 12 = .ok (.aload_n 0, 1) := by decide +kernel
theorem dX3_add_13 : decode mX3_add.1 13 = .ok (.getfield 15, 3) := by decide +kernel
theorem dX3_add_16 : decode mX3_add.1 16 = .ok (.aload_n 0, 1) := by decide +kernel
theorem dX3_add_17 : decode mX3_add.1 17 = .ok (.getfield 38, 3) := by decide +kernel
theorem dX3_add_20 : decode mX3_add.1 20 = .ok (.iload_n 1, 1) := by decide +kernel
theorem dX3_add_21 : decode mX3_add.1 21 = .ok (.iastore, 1) := by decide +kernel
theorem dX3_add_22 : decode mX3_add.1 22 = .ok (.aload_n 0, 1) := by decide +kernel
theorem dX3_add_23 : decode mX3_add.1 23 = .ok (.dup, 1) := by decide +kernel
theorem dX3_add_24 : decode mX3_add.1 24 = .ok (.getfield 38, 3) := by decide +kernel
theorem dX3_add_27 : decode mX3_add.1 27 = .ok (.iconst 1, 1) := by decide +kernel
theorem dX3_add_28 : decode mX3_add.1 28 = .ok (.iadd, 1) := by decide +kernel
theorem dX3_add_29 : decode mX3_add.1 29 = .ok (.putfield 38, 3) := by decide +kernel
theorem dX3_add_32 : decode mX3_add.1 32 = .ok (.return_, 1) := by decide +kernel
theorem X3_add_0 (h : mm_M) (a1 : Int) (hk_d : mm_ak ((h 2 4).toNat) = 1) (hn_d : mm_an ((h 2 4).toNat) = 121) : mm_ev mX3_add 1 0 [some (vR 2), some (vI a1)] [] h = if 121 ≤ (h 2 5) then some ([], h) else if 0 ≤ (h 2 5) ∧ (h 2 5) < 121 then some ([], mUp (mUp h ((h 2 4).toNat) (h 2 5) a1) 2 5 (w32 (((mUp h ((h 2 4).toNat) (h 2 5) a1) 2 5) + 1))) else none := (ev_aload_n 1 dX3_add_0 rfl rfl).trans ((ev_getI 4 5 dX3_add_1 fl_3_38 oc2 ak2 (by decide) rfl rfl).trans ((ev_aload_n 5 dX3_add_4 rfl rfl).trans ((ev_getR 8 4 dX3_add_5 fl_3_15 oc2 ak2 rfl rfl rfl).trans ((ev_alen 9 121 dX3_add_8 (by rw [hk_d]; decide) hn_d rfl).trans ((ev_ic_ge 32 12 dX3_add_9 rfl rfl).trans (mm_ite (ev_vret dX3_add_32 rfl) ((ev_aload_n 13 dX3_add_12 rfl rfl).trans ((ev_getR 16 4 dX3_add_13 fl_3_15 oc2 ak2 rfl rfl rfl).trans ((ev_aload_n 17 dX3_add_16 rfl rfl).trans ((ev_getI 20 5 dX3_add_17 fl_3_38 oc2 ak2 (by decide) rfl rfl).trans ((ev_iload_n 21 dX3_add_20 rfl rfl).trans ((ev_iast 22 121 dX3_add_21 hk_d hn_d rfl).trans (mm_ite ((ev_aload_n 23 dX3_add_22 rfl rfl).trans ((ev_dup 24 dX3_add_23 rfl rfl).trans ((ev_getI 27 5 dX3_add_24 fl_3_38 oc2 ak2 (by decide) rfl rfl).trans ((ev_iconst 28 (v := 1) dX3_add_27 rfl rfl).trans ((ev_iadd 29 dX3_add_28 rfl).trans ((ev_putI 32 5 dX3_add_29 fl_3_38 oc2 ak2 rfl rfl rfl).trans (ev_vret dX3_add_32 rfl))))))) (rfl))))))))))))))
theorem X3_add_c (h : mm_M) (a1 : Int) (hk_d : mm_ak ((h 2 4).toNat) = 1) (hn_d : mm_an ((h 2 4).toNat) = 121) : mm_call mX3_add [vR 2, vI a1] h = if 121 ≤ (h 2 5) then some ([], h) else if 0 ≤ (h 2 5) ∧ (h 2 5) < 121 then some ([], mUp (mUp h ((h 2 4).toNat) (h 2 5) a1) 2 5 (w32 (((mUp h ((h 2 4).toNat) (h 2 5) a1) 2 5) + 1))) else none := X3_add_0 h a1 hk_d hn_d
theorem dX3_skips_0 : decode mX3_skips.1 0 = .ok (.aload_n 0, 1) := by decide +kernel
theorem dX3_skips_1 : decode mX3_skips.1 1 = .ok (.invokevirtual 59, 3) := by decide +kernel
theorem dX3_skips_4 : decode mX3_skips.1 4 = .ok (.iload_n 1, 1) := by decide +kernel
theorem dX3_skips_5 : decode mX3_skips.1 5 = .ok (.if_icmp .eq 5, 3) := by decide +kernel
theorem dX3_skips_8 : decode mX3_skips.1 8 = .ok (.iconst 0, 1) := by decide +kernel
theorem dX3_skips_9 : decode mX3_skips.1 9 = .ok (.ireturn, 1) := by decide +kernel
theorem dX3_skips_10 : decode mX3_skips.1 10 = .ok (.aload_n 0, 1) := by decide +kernel
theorem dX3_skips_11 : decode mX3_skips.1 11 = .ok (.dup, 1) := by decide +kernel
theorem dX3_skips_12 : decode mX3_skips.1 12 = .ok (.getfield 35, 3) := by decide +kernel
theorem dX3_skips_15 : decode mX3_skips.1 15 = .ok (.iconst 1, 1) := by decide +kernel
theorem dX3_skips_16 : decode mX3_skips.1 16 = .ok (.iadd, 1) := by decide +kernel
theorem dX3_skips_17 : decode mX3_skips.1 17 = .ok (.putfield 35, 3) := by decide +kernel
theorem dX3_skips_20 : decode mX3_skips.1 20 = .ok (.iconst 1, 1) := by decide +kernel
theorem dX3_skips_21 : decode mX3_skips.1 21 = .ok (.ireturn, 1) := by decide +kernel
theorem X3_skips_0 (h : mm_M) (a1 : Int) : mm_ev mX3_skips 2 0 [some (vR 2), some (vI a1)] [] h = (mm_call mX3_next [vR 2] h).bind (fun w => mm_ev mX3_skips 2 4 [some (vR 2), some (vI a1)] (w.1 ++ []) w.2) := (ev_aload_n 1 dX3_skips_0 rfl rfl).trans ((ev_callv mX3_next [vR 2] [] 4 dX3_skips_1 ml_3_59 k26 rfl oc2 ak2 rfl rfl (Nat.le_of_ble_eq_true rfl) (Nat.le_of_ble_eq_true rfl) rfl).trans (if_pos (show 1 < 2 from by decide)))
theorem X3_skips_c (h : mm_M) (a1 : Int) : mm_call mX3_skips [vR 2, vI a1] h = (mm_call mX3_next [vR 2] h).bind (fun w => mm_ev mX3_skips 2 4 [some (vR 2), some (vI a1)] (w.1 ++ []) w.2) := X3_skips_0 h a1
theorem X3_skips_4 (h : mm_M) (a1 : Int) (s0 : Int) : mm_ev mX3_skips 2 4 [some (vR 2), some (vI a1)] [vI s0] h = if s0 = a1 then some ([vI 1], mUp h 2 2 (w32 ((h 2 2) + 1))) else some ([vI 0], h) := (ev_iload_n 5 dX3_skips_4 rfl rfl).trans ((ev_ic_eq 10 8 dX3_skips_5 rfl rfl).trans (mm_ite ((ev_aload_n 11 dX3_skips_10 rfl rfl).trans ((ev_dup 12 dX3_skips_11 rfl rfl).trans ((ev_getI 15 2 dX3_skips_12 fl_3_35 oc2 ak2 (by decide) rfl rfl).trans ((ev_iconst 16 (v := 1) dX3_skips_15 rfl rfl).trans ((ev_iadd 17 dX3_skips_16 rfl).trans ((ev_putI 20 2 dX3_skips_17 fl_3_35 oc2 ak2 rfl rfl rfl).trans ((ev_iconst 21 (v := 1) dX3_skips_20 rfl rfl).trans (ev_zret1 dX3_skips_21 rfl)))))))) ((ev_iconst 9 (v := 0) dX3_skips_8 rfl rfl).trans (ev_zret0 dX3_skips_9 rfl))))
theorem dX3_isSign_0 : decode mX3_isSign.1 0 = .ok (.iload_n 1, 1) := by decide +kernel
theorem dX3_isSign_1 : decode mX3_isSign.1 1 = .ok (.tableswitch 97 0 3 #[31, 43, 55, 79], 31) := by decide +kernel
theorem dX3_isSign_32 : decode mX3_isSign.1 32 = .ok (.iload_n 0, 1) := by decide +kernel
theorem dX3_isSign_33 : decode mX3_isSign.1 33 = .ok (.bipush 124, 2) := by decide +kernel
theorem dX3_isSign_35 : decode mX3_isSign.1 35 = .ok (.if_icmp .ne 7, 3) := by decide +kernel
theorem dX3_isSign_38 : decode mX3_isSign.1 38 = .ok (.iconst 1, 1) := by decide +kernel
theorem dX3_isSign_39 : decode mX3_isSign.1 39 = .ok (.goto 4, 3) := by decide +kernel
theorem dX3_isSign_42 : decode mX3_isSign.1 42 = .ok (.iconst 0, 1) := by decide +kernel
theorem dX3_isSign_43 : decode mX3_isSign.1 43 = .ok (.ireturn, 1) := by decide +kernel
theorem dX3_isSign_44 : decode mX3_isSign.1 44 = .ok (.iload_n 0, 1) := by decide +kernel
theorem dX3_isSign_45 : decode mX3_isSign.1 45 = .ok (.bipush 38, 2) := by decide +kernel
theorem dX3_isSign_47 : decode mX3_isSign.1 47 = .ok (.if_icmp .ne 7, 3) := by decide +kernel
theorem dX3_isSign_50 : decode mX3_isSign.1 50 = .ok (.iconst 1, 1) := by decide +kernel
theorem dX3_isSign_51 : decode mX3_isSign.1 51 = .ok (.goto 4, 3) := by decide +kernel
theorem dX3_isSign_54 : decode mX3_isSign.1 54 = .ok (.iconst 0, 1) := by decide +kernel
theorem dX3_isSign_55 : decode mX3_isSign.1 55 = .ok (.ireturn, 1) := by decide +kernel
theorem dX3_isSign_56 : decode mX3_isSign.1 56 = .ok (.iload_n 0, 1) := by decide +kernel
theorem dX3_isSign_57 : decode mX3_isSign.1 57 = .ok (.bipush 60, 2) := by decide +kernel
theorem dX3_isSign_59 : decode mX3_isSign.1 59 = .ok (.if_icmp .eq 15, 3) := by decide +kernel
theorem dX3_isSign_62 : decode mX3_isSign.1 62 = .ok (.iload_n 0, 1) := by decide +kernel
theorem dX3_isSign_63 : decode mX3_isSign.1 63 = .ok (.bipush 61, 2) := by decide +kernel
theorem dX3_isSign_65 : decode mX3_isSign.1 65 = .ok (.if_icmp .eq 9, 3) := by decide +kernel
theorem dX3_isSign_68 : decode mX3_isSign.1 68 = .ok (.iload_n 0, 1) := by decide +kernel
theorem dX3_isSign_69 : decode mX3_isSign.1 69 = .ok (.bipush 62, 2) := by decide +kernel
theorem dX3_isSign_71 : decode mX3_isSign.1 71 = .ok (.if_icmp .ne 7, 3) := by decide +kernel
theorem dX3_isSign_74 : decode mX3_isSign.1 74 = .ok (.iconst 1, 1) := by decide +kernel
theorem dX3_isSign_75 : decode mX3_isSign.1 75 = .ok (.goto 4, 3) := by decide +kernel
theorem dX3_isSign_78 : decode mX3_isSign.1 78 = .ok (.iconst 0, 1) := by decide +kernel
theorem dX3_isSign_79 : decode mX3_isSign.1 79 = .ok (.ireturn, 1) := by decide +kernel
theorem dX3_isSign_80 : decode mX3_isSign.1 80 = .ok (.iload_n 0, 1) := by decide +kernel
theorem dX3_isSign_81 : decode mX3_isSign.1 81 = .ok (.bipush 43, 2) := by decide +kernel
theorem dX3_isSign_83 : decode mX3_isSign.1 83 = .ok (.if_icmp .eq 9, 3) := by decide +kernel
theorem dX3_isSign_86 : decode mX3_isSign.1 86 = .ok (.iload_n 0, 1) := by decide +kernel
theorem dX3_isSign_87 : decode mX3_isSign.1 87 = .ok (.bipush 45, 2) := by decide +kernel
theorem dX3_isSign_89 : decode mX3_isSign.1 89 = .ok (.if_icmp .ne 7, 3) := by decide +kernel
theorem dX3_isSign_92 : decode mX3_isSign.1 92 = .ok (.iconst 1, 1) := by decide +kernel
theorem dX3_isSign_93 : decode mX3_isSign.1 93 = .ok (.goto 4, 3) := by decide +kernel
theorem dX3_isSign_96 : decode mX3_isSign.1 96 = .ok (.iconst 0, 1) := by decide +kernel
theorem dX3_isSign_97 : decode mX3_isSign.1 97 = .ok (.ireturn, 1) := by decide +kernel
theorem dX3_isSign_98 : decode mX3_isSign.1 98 = .ok (.iload_n 0, 1) := by decide +kernel
theorem dX3_isSign_99 : decode mX3_isSign.1 99 = .ok (.bipush 42, 2) := by decide +kernel
theorem dX3_isSign_101 : decode mX3_isSign.1 101 = .ok (.if_icmp .eq 15, 3) := by decide +kernel
theorem dX3_isSign_104 : decode mX3_isSign.1 104 = .ok (.iload_n 0, 1) := by decide +kernel
theorem dX3_isSign_105 : decode mX3_isSign.1 105 = .ok (.bipush 47, 2) := by decide +kernel
theorem dX3_isSign_107 : decode mX3_isSign.1 107 = .ok (.if_icmp .eq 9, 3) := by decide +kernel
theorem dX3_isSign_110 : decode mX3_isSign.1 110 = .ok (.iload_n 0, 1) := by decide +kernel
theorem dX3_isSign_111 : decode mX3_isSign.1 111 = .ok (.bipush 37, 2) := by decide +kernel
theorem dX3_isSign_113 : decode mX3_isSign.1 113 = .ok (.if_icmp .ne 7, 3) := by decide +kernel
theorem dX3_isSign_116 : decode mX3_isSign.1 116 = .ok (.iconst 1, 1) := by decide +kernel
theorem dX3_isSign_117 : decode mX3_isSign.1 117 = .ok (.goto 4, 3) := by decide +kernel
theorem dX3_isSign_120 : decode mX3_isSign.1 120 = .ok (.iconst 0, 1) := by decide +kernel
theorem dX3_isSign_121 : decode mX3_isSign.1 121 = .ok (.ireturn, 1) := by decide +kernel
theorem X3_isSign_0 (h : mm_M) (a0 : Int) (a1 : Int) : mm_ev mX3_isSign 1 0 [some (vI a0), some (vI a1)] [] h = if a1 = 0 then if ¬ a0 = 124 then some ([vI 0], h) else some ([vI 1], h) else if a1 = 1 then if ¬ a0 = 38 then some ([vI 0], h) else some ([vI 1], h) else if a1 = 2 then if a0 = 60 then some ([vI 1], h) else if a0 = 61 then some ([vI 1], h) else if ¬ a0 = 62 then some ([vI 0], h) else some ([vI 1], h) else if a1 = 3 then if a0 = 43 then some ([vI 1], h) else if ¬ a0 = 45 then some ([vI 0], h) else some ([vI 1], h) else if a0 = 42 then some ([vI 1], h) else if a0 = 47 then some ([vI 1], h) else if ¬ a0 = 37 then some ([vI 0], h) else some ([vI 1], h) := (ev_iload_n 1 dX3_isSign_0 rfl rfl).trans (ev_tabC (k := 0) dX3_isSign_1 (fun z0 => (ev_tabK 32 (k := 0) dX3_isSign_1 z0 (by decide) rfl rfl).trans ((ev_iload_n 33 dX3_isSign_32 rfl rfl).trans ((ev_bipush 35 (v := 124) dX3_isSign_33 rfl rfl).trans ((ev_ic_ne 42 38 dX3_isSign_35 rfl rfl).trans (mm_ite ((ev_iconst 43 (v := 0) dX3_isSign_42 rfl rfl).trans (ev_zret0 dX3_isSign_43 rfl)) ((ev_iconst 39 (v := 1) dX3_isSign_38 rfl rfl).trans ((ev_goto 43 dX3_isSign_39 rfl).trans (ev_zret1 dX3_isSign_43 rfl)))))))) (fun n0 => ev_tabC (k := 1) dX3_isSign_1 (fun z1 => (ev_tabK 44 (k := 1) dX3_isSign_1 z1 (by decide) rfl rfl).trans ((ev_iload_n 45 dX3_isSign_44 rfl rfl).trans ((ev_bipush 47 (v := 38) dX3_isSign_45 rfl rfl).trans ((ev_ic_ne 54 50 dX3_isSign_47 rfl rfl).trans (mm_ite ((ev_iconst 55 (v := 0) dX3_isSign_54 rfl rfl).trans (ev_zret0 dX3_isSign_55 rfl)) ((ev_iconst 51 (v := 1) dX3_isSign_50 rfl rfl).trans ((ev_goto 55 dX3_isSign_51 rfl).trans (ev_zret1 dX3_isSign_55 rfl)))))))) (fun n1 => ev_tabC (k := 2) dX3_isSign_1 (fun z2 => (ev_tabK 56 (k := 2) dX3_isSign_1 z2 (by decide) rfl rfl).trans ((ev_iload_n 57 dX3_isSign_56 rfl rfl).trans ((ev_bipush 59 (v := 60) dX3_isSign_57 rfl rfl).trans ((ev_ic_eq 74 62 dX3_isSign_59 rfl rfl).trans (mm_ite ((ev_iconst 75 (v := 1) dX3_isSign_74 rfl rfl).trans ((ev_goto 79 dX3_isSign_75 rfl).trans (ev_zret1 dX3_isSign_79 rfl))) ((ev_iload_n 63 dX3_isSign_62 rfl rfl).trans ((ev_bipush 65 (v := 61) dX3_isSign_63 rfl rfl).trans ((ev_ic_eq 74 68 dX3_isSign_65 rfl rfl).trans (mm_ite ((ev_iconst 75 (v := 1) dX3_isSign_74 rfl rfl).trans ((ev_goto 79 dX3_isSign_75 rfl).trans (ev_zret1 dX3_isSign_79 rfl))) ((ev_iload_n 69 dX3_isSign_68 rfl rfl).trans ((ev_bipush 71 (v := 62) dX3_isSign_69 rfl rfl).trans ((ev_ic_ne 78 74 dX3_isSign_71 rfl rfl).trans (mm_ite ((ev_iconst 79 (v := 0) dX3_isSign_78 rfl rfl).trans (ev_zret0 dX3_isSign_79 rfl)) ((ev_iconst 75 (v := 1) dX3_isSign_74 rfl rfl).trans ((ev_goto 79 dX3_isSign_75 rfl).trans (ev_zret1 dX3_isSign_79 rfl)))))))))))))))) (fun n2 => ev_tabC (k := 3) dX3_isSign_1 (fun z3 => (ev_tabK 80 (k := 3) dX3_isSign_1 z3 (by decide) rfl rfl).trans ((ev_iload_n 81 dX3_isSign_80 rfl rfl).trans ((ev_bipush 83 (v := 43) dX3_isSign_81 rfl rfl).trans ((ev_ic_eq 92 86 dX3_isSign_83 rfl rfl).trans (mm_ite ((ev_iconst 93 (v := 1) dX3_isSign_92 rfl rfl).trans ((ev_goto 97 dX3_isSign_93 rfl).trans (ev_zret1 dX3_isSign_97 rfl))) ((ev_iload_n 87 dX3_isSign_86 rfl rfl).trans ((ev_bipush 89 (v := 45) dX3_isSign_87 rfl rfl).trans ((ev_ic_ne 96 92 dX3_isSign_89 rfl rfl).trans (mm_ite ((ev_iconst 97 (v := 0) dX3_isSign_96 rfl rfl).trans (ev_zret0 dX3_isSign_97 rfl)) ((ev_iconst 93 (v := 1) dX3_isSign_92 rfl rfl).trans ((ev_goto 97 dX3_isSign_93 rfl).trans (ev_zret1 dX3_isSign_97 rfl)))))))))))) (fun n3 => (ev_tabD 98 dX3_isSign_1 (by omega) rfl).trans ((ev_iload_n 99 dX3_isSign_98 rfl rfl).trans ((ev_bipush 101 (v := 42) dX3_isSign_99 rfl rfl).trans ((ev_ic_eq 116 104 dX3_isSign_101 rfl rfl).trans (mm_ite ((ev_iconst 117 (v := 1) dX3_isSign_116 rfl rfl).trans ((ev_goto 121 dX3_isSign_117 rfl).trans (ev_zret1 dX3_isSign_121 rfl))) ((ev_iload_n 105 dX3_isSign_104 rfl rfl).trans ((ev_bipush 107 (v := 47) dX3_isSign_105 rfl rfl).trans ((ev_ic_eq 116 110 dX3_isSign_107 rfl rfl).trans (mm_ite ((ev_iconst 117 (v := 1) dX3_isSign_116 rfl rfl).trans ((ev_goto 121 dX3_isSign_117 rfl).trans (ev_zret1 dX3_isSign_121 rfl))) ((ev_iload_n 111 dX3_isSign_110 rfl rfl).trans ((ev_bipush 113 (v := 37) dX3_isSign_111 rfl rfl).trans ((ev_ic_ne 120 116 dX3_isSign_113 rfl rfl).trans (mm_ite ((ev_iconst 121 (v := 0) dX3_isSign_120 rfl rfl).trans (ev_zret0 dX3_isSign_121 rfl)) ((ev_iconst 117 (v := 1) dX3_isSign_116 rfl rfl).trans ((ev_goto 121 dX3_isSign_117 rfl).trans (ev_zret1 dX3_isSign_121 rfl))))))))))))))))))))
theorem X3_isSign_c (h : mm_M) (a0 : Int) (a1 : Int) : mm_call mX3_isSign [vI a0, vI a1] h = if a1 = 0 then if ¬ a0 = 124 then some ([vI 0], h) else some ([vI 1], h) else if a1 = 1 then if ¬ a0 = 38 then some ([vI 0], h) else some ([vI 1], h) else if a1 = 2 then if a0 = 60 then some ([vI 1], h) else if a0 = 61 then some ([vI 1], h) else if ¬ a0 = 62 then some ([vI 0], h) else some ([vI 1], h) else if a1 = 3 then if a0 = 43 then some ([vI 1], h) else if ¬ a0 = 45 then some ([vI 0], h) else some ([vI 1], h) else if a0 = 42 then some ([vI 1], h) else if a0 = 47 then some ([vI 1], h) else if ¬ a0 = 37 then some ([vI 0], h) else some ([vI 1], h) := X3_isSign_0 h a0 a1
theorem dX3_take_0 : decode mX3_take.1 0 = .ok (.iload_n 1, 1) := by decide +kernel
theorem dX3_take_1 : decode mX3_take.1 1 = .ok (.ifCond .lt 10, 3) := by decide +kernel
theorem dX3_take_4 : decode mX3_take.1 4 = .ok (.iload_n 1, 1) := by decide +kernel
theorem dX3_take_5 : decode mX3_take.1 5 = .ok (.sipush 255, 3) := by decide +kernel
theorem dX3_take_8 : decode mX3_take.1 8 = .ok (.if_icmp .le 5, 3) := by decide +kernel
theorem dX3_take_11 : decode mX3_take.1 11 = .ok (.iconst (-1), 1) := by decide +kernel
theorem dX3_take_12 : decode mX3_take.1 12 = .ok (.ireturn, 1) := by decide +kernel
theorem dX3_take_13 : decode mX3_take.1 13 = .ok (.aload_n 0, 1) := by decide +kernel
theorem dX3_take_14 : decode mX3_take.1 14 = .ok (.getfield 24, 3) := by decide +kernel
theorem dX3_take_17 : decode mX3_take.1 17 = .ok (.bipush 120, 2) := by decide +kernel
theorem dX3_take_19 : decode mX3_take.1 19 = .ok (.if_icmp .lt 6, 3) := by decide +kernel
theorem dX3_take_22 : decode mX3_take.1 22 = .ok (.bipush (-3), 2) := by decide +kernel
theorem dX3_take_24 : decode mX3_take.1 24 = .ok (.ireturn, 1) := by decide +kernel
theorem dX3_take_25 : decode mX3_take.1 25 = .ok (.aload_n 0, 1) := by decide +kernel
theorem dX3_take_26 : decode mX3_take.1 26 = .ok (.getfield 11, 3) := by decide +kernel
theorem dX3_take_29 : decode mX3_take.1 29 = .ok (.aload_n 0, 1) := by decide +kernel
theorem dX3_take_30 : decode mX3_take.1 30 = .ok (.getfield 24, 3) := by decide +kernel
theorem dX3_take_33 : decode mX3_take.1 33 = .ok (.iload_n 1, 1) := by decide +kernel
theorem dX3_take_34 : decode mX3_take.1 34 = .ok (.iastore, 1) := by decide +kernel
theorem dX3_take_35 : decode mX3_take.1 35 = .ok (.aload_n 0, 1) := by decide +kernel
theorem dX3_take_36 : decode mX3_take.1 36 = .ok (.dup, 1) := by decide +kernel
theorem dX3_take_37 : decode mX3_take.1 37 = .ok (.getfield 24, 3) := by decide +kernel
theorem dX3_take_40 : decode mX3_take.1 40 = .ok (.iconst 1, 1) := by decide +kernel
theorem dX3_take_41 : decode mX3_take.1 41 = .ok (.iadd, 1) := by decide +kernel
theorem dX3_take_42 : decode mX3_take.1 42 = .ok (.putfield 24, 3) := by decide +kernel
theorem dX3_take_45 : decode mX3_take.1 45 = .ok (.aload_n 0, 1) := by decide +kernel
theorem dX3_take_46 : decode mX3_take.1 46 = .ok (.getfield 24, 3) := by decide +kernel
theorem dX3_take_49 : decode mX3_take.1 49 = .ok (.ireturn, 1) := by decide +kernel
theorem X3_take_0 (h : mm_M) (a1 : Int) : mm_ev mX3_take 1 0 [some (vR 2), some (vI a1)] [] h = if a1 < 0 then some ([vI (-1)], h) else if a1 ≤ 255 then if (h 2 0) < 120 then if 0 ≤ (h 2 0) ∧ (h 2 0) < 120 then some ([vI ((mUp (mUp h 15 (h 2 0) a1) 2 0 (w32 (((mUp h 15 (h 2 0) a1) 2 0) + 1))) 2 0)], mUp (mUp h 15 (h 2 0) a1) 2 0 (w32 (((mUp h 15 (h 2 0) a1) 2 0) + 1))) else none else some ([vI (-3)], h) else some ([vI (-1)], h) := (ev_iload_n 1 dX3_take_0 rfl rfl).trans ((ev_if_lt 11 4 dX3_take_1 rfl rfl).trans (mm_ite ((ev_iconst 12 (v := (-1)) dX3_take_11 rfl rfl).trans (ev_iret dX3_take_12 rfl)) ((ev_iload_n 5 dX3_take_4 rfl rfl).trans ((ev_sipush 8 (v := 255) dX3_take_5 rfl rfl).trans ((ev_ic_le 13 11 dX3_take_8 rfl rfl).trans (mm_ite ((ev_aload_n 14 dX3_take_13 rfl rfl).trans ((ev_getI 17 0 dX3_take_14 fl_3_24 oc2 ak2 (by decide) rfl rfl).trans ((ev_bipush 19 (v := 120) dX3_take_17 rfl rfl).trans ((ev_ic_lt 25 22 dX3_take_19 rfl rfl).trans (mm_ite ((ev_aload_n 26 dX3_take_25 rfl rfl).trans ((ev_getF 29 15 dX3_take_26 fl_3_11 oc2 ak2 rfl rf_2_1 rfl).trans ((ev_aload_n 30 dX3_take_29 rfl rfl).trans ((ev_getI 33 0 dX3_take_30 fl_3_24 oc2 ak2 (by decide) rfl rfl).trans ((ev_iload_n 34 dX3_take_33 rfl rfl).trans ((ev_iast 35 120 dX3_take_34 ak15 an15 rfl).trans (mm_ite ((ev_aload_n 36 dX3_take_35 rfl rfl).trans ((ev_dup 37 dX3_take_36 rfl rfl).trans ((ev_getI 40 0 dX3_take_37 fl_3_24 oc2 ak2 (by decide) rfl rfl).trans ((ev_iconst 41 (v := 1) dX3_take_40 rfl rfl).trans ((ev_iadd 42 dX3_take_41 rfl).trans ((ev_putI 45 0 dX3_take_42 fl_3_24 oc2 ak2 rfl rfl rfl).trans ((ev_aload_n 46 dX3_take_45 rfl rfl).trans ((ev_getI 49 0 dX3_take_46 fl_3_24 oc2 ak2 (by decide) rfl rfl).trans (ev_iret dX3_take_49 rfl))))))))) (rfl)))))))) ((ev_bipush 24 (v := (-3)) dX3_take_22 rfl rfl).trans (ev_iret dX3_take_24 rfl))))))) ((ev_iconst 12 (v := (-1)) dX3_take_11 rfl rfl).trans (ev_iret dX3_take_12 rfl))))))))
theorem X3_take_c (h : mm_M) (a1 : Int) : mm_call mX3_take [vR 2, vI a1] h = if a1 < 0 then some ([vI (-1)], h) else if a1 ≤ 255 then if (h 2 0) < 120 then if 0 ≤ (h 2 0) ∧ (h 2 0) < 120 then some ([vI ((mUp (mUp h 15 (h 2 0) a1) 2 0 (w32 (((mUp h 15 (h 2 0) a1) 2 0) + 1))) 2 0)], mUp (mUp h 15 (h 2 0) a1) 2 0 (w32 (((mUp h 15 (h 2 0) a1) 2 0) + 1))) else none else some ([vI (-3)], h) else some ([vI (-1)], h) := X3_take_0 h a1
theorem dX6_countWays_0 : decode mX6_countWays.1 0 = .ok (.aload_n 0, 1) := by decide +kernel
theorem dX6_countWays_1 : decode mX6_countWays.1 1 = .ok (.iconst 0, 1) := by decide +kernel
theorem dX6_countWays_2 : decode mX6_countWays.1 2 = .ok (.putfield 65, 3) := by decide +kernel
theorem dX6_countWays_5 : decode mX6_countWays.1 5 = .ok (.aload_n 0, 1) := by decide +kernel
theorem dX6_countWays_6 : decode mX6_countWays.1 6 = .ok (.bipush (-2), 2) := by decide +kernel
theorem dX6_countWays_8 : decode mX6_countWays.1 8 = .ok (.putfield 68, 3) := by decide +kernel
theorem dX6_countWays_11 : decode mX6_countWays.1 11 = .ok (.aload_n 0, 1) := by decide +kernel
theorem dX6_countWays_12 : decode mX6_countWays.1 12 = .ok (.aload_n 1, 1) := by decide +kernel
theorem dX6_countWays_13 : decode mX6_countWays.1 13 = .ok (.invokevirtual 29, 3) := by decide +kernel
theorem dX6_countWays_16 : decode mX6_countWays.1 16 = .ok (.aload_n 2, 1) := by decide +kernel
theorem dX6_countWays_17 : decode mX6_countWays.1 17 = .ok (.iconst 0, 1) := by decide +kernel
theorem dX6_countWays_18 : decode mX6_countWays.1 18 = .ok (.aload_n 1, 1) := by decide +kernel
theorem dX6_countWays_19 : decode mX6_countWays.1 19 = .ok (.bipush 10, 2) := by decide +kernel
theorem dX6_countWays_21 : decode mX6_countWays.1 21 = .ok (.invokevirtual 71, 3) := by decide +kernel
theorem dX6_countWays_24 : decode mX6_countWays.1 24 = .ok (.invokevirtual 75, 3) := by decide +kernel
theorem dX6_countWays_27 : decode mX6_countWays.1 27 = .ok (.ifCond .eq 17, 3) := by decide +kernel
theorem dX6_countWays_30 : decode mX6_countWays.1 30 = .ok (.aload_n 0, 1) := by decide +kernel
theorem dX6_countWays_31 : decode mX6_countWays.1 31 = .ok (.aload_n 2, 1) := by decide +kernel
theorem dX6_countWays_32 : decode mX6_countWays.1 32 = .ok (.iconst 0, 1) := by decide +kernel
theorem dX6_countWays_33 : decode mX6_countWays.1 33 = .ok (.iconst 0, 1) := by decide +kernel
theorem dX6_countWays_34 : decode mX6_countWays.1 34 = .ok (.aload_n 1, 1) := by decide +kernel
theorem dX6_countWays_35 : decode mX6_countWays.1 35 = .ok (.bipush 10, 2) := by decide +kernel
theorem dX6_countWays_37 : decode mX6_countWays.1 37 = .ok (.invokevirtual 71, 3) := by decide +kernel
theorem dX6_countWays_40 : decode mX6_countWays.1 40 = .ok (.iconst 0, 1) := by decide +kernel
theorem dX6_countWays_41 : decode mX6_countWays.1 41 = .ok (.invokevirtual 81, 3) := by decide +kernel
theorem dX6_countWays_44 : decode mX6_countWays.1 44 = .ok (.return_, 1) := by decide +kernel
theorem X6_countWays_0 (h : mm_M) : mm_ev mX6_countWays 21 0 [some (vR 8), some (vR 1), some (vR 7)] [] h = (mm_call mX6_measure [vR 8, vR 1] (mUp (mUp h 8 2 0) 8 3 (-2))).bind (fun w => mm_ev mX6_countWays 21 16 [some (vR 8), some (vR 1), some (vR 7)] (w.1 ++ []) w.2) := (ev_aload_n 1 dX6_countWays_0 rfl rfl).trans ((ev_iconst 2 (v := 0) dX6_countWays_1 rfl rfl).trans ((ev_putI 5 2 dX6_countWays_2 fl_6_65 oc8 ak8 rfl rfl rfl).trans ((ev_aload_n 6 dX6_countWays_5 rfl rfl).trans ((ev_bipush 8 (v := (-2)) dX6_countWays_6 rfl rfl).trans ((ev_putI 11 3 dX6_countWays_8 fl_6_68 oc8 ak8 rfl rfl rfl).trans ((ev_aload_n 12 dX6_countWays_11 rfl rfl).trans ((ev_aload_n 13 dX6_countWays_12 rfl rfl).trans ((ev_callv mX6_measure [vR 8, vR 1] [] 16 dX6_countWays_13 ml_6_29 k58 rfl oc8 ak8 rfl rfl (Nat.le_of_ble_eq_true rfl) (Nat.le_of_ble_eq_true rfl) rfl).trans (if_pos (show 3 < 21 from by decide))))))))))
theorem X6_countWays_c (h : mm_M) : mm_call mX6_countWays [vR 8, vR 1, vR 7] h = (mm_call mX6_measure [vR 8, vR 1] (mUp (mUp h 8 2 0) 8 3 (-2))).bind (fun w => mm_ev mX6_countWays 21 16 [some (vR 8), some (vR 1), some (vR 7)] (w.1 ++ []) w.2) := X6_countWays_0 h 
theorem X6_countWays_16 (h : mm_M) : mm_ev mX6_countWays 21 16 [some (vR 8), some (vR 1), some (vR 7)] [] h = (mm_call mX4_the [vR 1, vI 10] h).bind (fun w => mm_ev mX6_countWays 21 24 [some (vR 8), some (vR 1), some (vR 7)] (w.1 ++ [vI 0, vR 7]) w.2) := (ev_aload_n 17 dX6_countWays_16 rfl rfl).trans ((ev_iconst 18 (v := 0) dX6_countWays_17 rfl rfl).trans ((ev_aload_n 19 dX6_countWays_18 rfl rfl).trans ((ev_bipush 21 (v := 10) dX6_countWays_19 rfl rfl).trans ((ev_callv mX4_the [vR 1, vI 10] [vI 0, vR 7] 24 dX6_countWays_21 ml_6_71 k42 rfl oc1 ak1 rfl rfl (Nat.le_of_ble_eq_true rfl) (Nat.le_of_ble_eq_true rfl) rfl).trans (if_pos (show 1 < 21 from by decide))))))
theorem X6_countWays_24 (h : mm_M) (s0 : Int) (s1 : Int) : mm_ev mX6_countWays 21 24 [some (vR 8), some (vR 1), some (vR 7)] [vI s0, vI s1, vR 7] h = (mm_call mX5_fits [vR 7, vI s1, vI s0] h).bind (fun w => mm_ev mX6_countWays 21 27 [some (vR 8), some (vR 1), some (vR 7)] (w.1 ++ []) w.2) := (ev_callv mX5_fits [vR 7, vI s1, vI s0] [] 27 dX6_countWays_24 ml_6_75 k54 rfl oc7 ak7 rfl rfl (Nat.le_of_ble_eq_true rfl) (Nat.le_of_ble_eq_true rfl) rfl).trans (if_pos (show 1 < 21 from by decide))
theorem X6_countWays_27 (h : mm_M) (s0 : Int) : mm_ev mX6_countWays 21 27 [some (vR 8), some (vR 1), some (vR 7)] [vI s0] h = if s0 = 0 then mm_ev mX6_countWays 21 44 [some (vR 8), some (vR 1), some (vR 7)] [] h else (mm_call mX4_the [vR 1, vI 10] h).bind (fun w => mm_ev mX6_countWays 21 40 [some (vR 8), some (vR 1), some (vR 7)] (w.1 ++ [vI 0, vI 0, vR 7, vR 8]) w.2) := (ev_if_eq 44 30 dX6_countWays_27 rfl rfl).trans (mm_ite (rfl) ((ev_aload_n 31 dX6_countWays_30 rfl rfl).trans ((ev_aload_n 32 dX6_countWays_31 rfl rfl).trans ((ev_iconst 33 (v := 0) dX6_countWays_32 rfl rfl).trans ((ev_iconst 34 (v := 0) dX6_countWays_33 rfl rfl).trans ((ev_aload_n 35 dX6_countWays_34 rfl rfl).trans ((ev_bipush 37 (v := 10) dX6_countWays_35 rfl rfl).trans ((ev_callv mX4_the [vR 1, vI 10] [vI 0, vI 0, vR 7, vR 8] 40 dX6_countWays_37 ml_6_71 k42 rfl oc1 ak1 rfl rfl (Nat.le_of_ble_eq_true rfl) (Nat.le_of_ble_eq_true rfl) rfl).trans (if_pos (show 1 < 21 from by decide))))))))))
theorem X6_countWays_40 (h : mm_M) (s0 : Int) (s1 : Int) (s2 : Int) : mm_ev mX6_countWays 21 40 [some (vR 8), some (vR 1), some (vR 7)] [vI s0, vI s1, vI s2, vR 7, vR 8] h = if 10 + (8 - s2 : Int).toNat < 21 then (mm_call mX6_tryOn [vR 8, vR 7, vI s2, vI s1, vI s0, vI 0] h).bind (fun w => mm_ev mX6_countWays 21 44 [some (vR 8), some (vR 1), some (vR 7)] (w.1 ++ []) w.2) else none := (ev_iconst 41 (v := 0) dX6_countWays_40 rfl rfl).trans (ev_callv mX6_tryOn [vR 8, vR 7, vI s2, vI s1, vI s0, vI 0] [] 44 dX6_countWays_41 ml_6_81 k63 rfl oc8 ak8 rfl rfl (Nat.le_of_ble_eq_true rfl) (Nat.le_of_ble_eq_true rfl) rfl)
theorem X6_countWays_44 (h : mm_M) : mm_ev mX6_countWays 21 44 [some (vR 8), some (vR 1), some (vR 7)] [] h = some ([], h) := ev_vret dX6_countWays_44 rfl
theorem dX6_measure_0 : decode mX6_measure.1 0 = .ok (.aload_n 0, 1) := by decide +kernel
theorem dX6_measure_1 : decode mX6_measure.1 1 = .ok (.iconst 0, 1) := by decide +kernel
theorem dX6_measure_2 : decode mX6_measure.1 2 = .ok (.aload_n 1, 1) := by decide +kernel
theorem dX6_measure_3 : decode mX6_measure.1 3 = .ok (.getfield 37, 3) := by decide +kernel
theorem dX6_measure_6 : decode mX6_measure.1 6 = .ok (.iconst 1, 1) := by decide +kernel
theorem dX6_measure_7 : decode mX6_measure.1 7 = .ok (.isub, 1) := by decide +kernel
theorem dX6_measure_8 : decode mX6_measure.1 8 = .ok (.invokestatic 42, 3) := by decide +kernel
theorem dX6_measure_11 : decode mX6_measure.1 11 = .ok (.putfield 48, 3) := by decide +kernel
theorem dX6_measure_14 : decode mX6_measure.1 14 = .ok (.iconst 0, 1) := by decide +kernel
theorem dX6_measure_15 : decode mX6_measure.1 15 = .ok (.istore_n 2, 1) := by decide +kernel
theorem dX6_measure_16 : decode mX6_measure.1 16 = .ok (.iload_n 2, 1) := by decide +kernel
theorem dX6_measure_17 : decode mX6_measure.1 17 = .ok (.aload_n 0, 1) := by decide +kernel
theorem dX6_measure_18 : decode mX6_measure.1 18 = .ok (.getfield 48, 3) := by decide +kernel
theorem dX6_measure_21 : decode mX6_measure.1 21 = .ok (.if_icmp .gt 42, 3) := by decide +kernel
theorem dX6_measure_24 : decode mX6_measure.1 24 = .ok (.iconst 0, 1) := by decide +kernel
theorem dX6_measure_25 : decode mX6_measure.1 25 = .ok (.istore_n 3, 1) := by decide +kernel
theorem dX6_measure_26 : decode mX6_measure.1 26 = .ok (.iload_n 3, 1) := by decide +kernel
theorem dX6_measure_27 : decode mX6_measure.1 27 = .ok (.aload_n 0, 1) := by decide +kernel
theorem dX6_measure_28 : decode mX6_measure.1 28 = .ok (.getfield 48, 3) := by decide +kernel
theorem dX6_measure_31 : decode mX6_measure.1 31 = .ok (.if_icmp .gt 26, 3) := by decide +kernel
theorem dX6_measure_34 : decode mX6_measure.1 34 = .ok (.aload_n 0, 1) := by decide +kernel
theorem dX6_measure_35 : decode mX6_measure.1 35 = .ok (.getfield 18, 3) := by decide +kernel
theorem dX6_measure_38 : decode mX6_measure.1 38 = .ok (.iload_n 2, 1) := by decide +kernel
theorem dX6_measure_39 : decode mX6_measure.1 39 = .ok (.bipush 7, 2) := by decide +kernel
theorem dX6_measure_41 : decode mX6_measure.1 41 = .ok (.imul, 1) := by decide +kernel
theorem dX6_measure_42 : decode mX6_measure.1 42 = .ok (.iload_n 3, 1) := by decide +kernel
theorem dX6_measure_43 : decode mX6_measure.1 43 = .ok (.iadd, 1) := by decide +kernel
theorem dX6_measure_44 : decode mX6_measure.1 44 = .ok (.aload_n 1, 1) := by decide +kernel
theorem dX6_measure_45 : decode mX6_measure.1 45 = .ok (.iload_n 2, 1) := by decide +kernel
theorem dX6_measure_46 : decode mX6_measure.1 46 = .ok (.iload_n 3, 1) := by decide +kernel
theorem dX6_measure_47 : decode mX6_measure.1 47 = .ok (.invokevirtual 51, 3) := by decide +kernel
theorem dX6_measure_50 : decode mX6_measure.1 50 = .ok (.iastore, 1) := by decide +kernel
theorem dX6_measure_51 : decode mX6_measure.1 51 = .ok (.iinc 3 1, 3) := by decide +kernel
theorem dX6_measure_54 : decode mX6_measure.1 54 = .ok (.goto (-28), 3) := by decide +kernel
theorem dX6_measure_57 : decode mX6_measure.1 57 = .ok (.iinc 2 1, 3) := by decide +kernel
theorem dX6_measure_60 : decode mX6_measure.1 60 = .ok (.goto (-44), 3) := by decide +kernel
theorem dX6_measure_63 : decode mX6_measure.1 63 = .ok (.return_, 1) := by decide +kernel
theorem X6_measure_0 (h : mm_M) : mm_ev mX6_measure 3 0 [some (vR 8), some (vR 1), none, none] [] h = mm_ev mX6_measure 3 16 [some (vR 8), some (vR 1), some (vI 0), none] [] (mUp h 8 4 (if 0 < (w32 ((h 1 1) - 1)) then (w32 ((h 1 1) - 1)) else 0)) := (ev_aload_n 1 dX6_measure_0 rfl rfl).trans ((ev_iconst 2 (v := 0) dX6_measure_1 rfl rfl).trans ((ev_aload_n 3 dX6_measure_2 rfl rfl).trans ((ev_getI 6 1 dX6_measure_3 fl_6_37 oc1 ak1 (by decide) rfl rfl).trans ((ev_iconst 7 (v := 1) dX6_measure_6 rfl rfl).trans ((ev_isub 8 dX6_measure_7 rfl).trans ((ev_max 11 dX6_measure_8 ml_6_42 (Nat.le_of_ble_eq_true rfl) rfl).trans ((ev_putI 14 4 dX6_measure_11 fl_6_48 oc8 ak8 rfl rfl rfl).trans ((ev_iconst 15 (v := 0) dX6_measure_14 rfl rfl).trans (ev_istore_n 16 [some (vR 8), some (vR 1), some (vI 0), none] dX6_measure_15 rfl rfl)))))))))
theorem X6_measure_c (h : mm_M) : mm_call mX6_measure [vR 8, vR 1] h = mm_ev mX6_measure 3 16 [some (vR 8), some (vR 1), some (vI 0), none] [] (mUp h 8 4 (if 0 < (w32 ((h 1 1) - 1)) then (w32 ((h 1 1) - 1)) else 0)) := X6_measure_0 h 
theorem X6_measure_16 (h : mm_M) (a2 : Int) (o3 : Option mm_V) : mm_ev mX6_measure 3 16 [some (vR 8), some (vR 1), some (vI a2), o3] [] h = if (h 8 4) < a2 then some ([], h) else mm_ev mX6_measure 3 26 [some (vR 8), some (vR 1), some (vI a2), some (vI 0)] [] h := (ev_iload_n 17 dX6_measure_16 rfl rfl).trans ((ev_aload_n 18 dX6_measure_17 rfl rfl).trans ((ev_getI 21 4 dX6_measure_18 fl_6_48 oc8 ak8 (by decide) rfl rfl).trans ((ev_ic_gt 63 24 dX6_measure_21 rfl rfl).trans (mm_ite (ev_vret dX6_measure_63 rfl) ((ev_iconst 25 (v := 0) dX6_measure_24 rfl rfl).trans (ev_istore_n 26 [some (vR 8), some (vR 1), some (vI a2), some (vI 0)] dX6_measure_25 rfl rfl))))))
theorem X6_measure_26 (h : mm_M) (a2 : Int) (a3 : Int) : mm_ev mX6_measure 3 26 [some (vR 8), some (vR 1), some (vI a2), some (vI a3)] [] h = if (h 8 4) < a3 then mm_ev mX6_measure 3 16 [some (vR 8), some (vR 1), some (vI (w32 (a2 + 1))), some (vI a3)] [] h else (mm_call mX4_apart [vR 1, vI a2, vI a3] h).bind (fun w => mm_ev mX6_measure 3 50 [some (vR 8), some (vR 1), some (vI a2), some (vI a3)] (w.1 ++ [vI (w32 ((w32 (a2 * 7)) + a3)), vR 36]) w.2) := (ev_iload_n 27 dX6_measure_26 rfl rfl).trans ((ev_aload_n 28 dX6_measure_27 rfl rfl).trans ((ev_getI 31 4 dX6_measure_28 fl_6_48 oc8 ak8 (by decide) rfl rfl).trans ((ev_ic_gt 57 34 dX6_measure_31 rfl rfl).trans (mm_ite ((ev_iinc 60 [some (vR 8), some (vR 1), some (vI (w32 (a2 + 1))), some (vI a3)] dX6_measure_57 rfl rfl rfl).trans (ev_goto 16 dX6_measure_60 rfl)) ((ev_aload_n 35 dX6_measure_34 rfl rfl).trans ((ev_getF 38 36 dX6_measure_35 fl_6_18 oc8 ak8 rfl rf_8_7 rfl).trans ((ev_iload_n 39 dX6_measure_38 rfl rfl).trans ((ev_bipush 41 (v := 7) dX6_measure_39 rfl rfl).trans ((ev_imul 42 dX6_measure_41 rfl).trans ((ev_iload_n 43 dX6_measure_42 rfl rfl).trans ((ev_iadd 44 dX6_measure_43 rfl).trans ((ev_aload_n 45 dX6_measure_44 rfl rfl).trans ((ev_iload_n 46 dX6_measure_45 rfl rfl).trans ((ev_iload_n 47 dX6_measure_46 rfl rfl).trans ((ev_callv mX4_apart [vR 1, vI a2, vI a3] [vI (w32 ((w32 (a2 * 7)) + a3)), vR 36] 50 dX6_measure_47 ml_6_51 k45 rfl oc1 ak1 rfl rfl (Nat.le_of_ble_eq_true rfl) (Nat.le_of_ble_eq_true rfl) rfl).trans (if_pos (show 2 < 3 from by decide)))))))))))))))))
theorem X6_measure_50 (h : mm_M) (a2 : Int) (a3 : Int) (s0 : Int) (s1 : Int) : mm_ev mX6_measure 3 50 [some (vR 8), some (vR 1), some (vI a2), some (vI a3)] [vI s0, vI s1, vR 36] h = if 0 ≤ s1 ∧ s1 < 49 then mm_ev mX6_measure 3 26 [some (vR 8), some (vR 1), some (vI a2), some (vI (w32 (a3 + 1)))] [] (mUp h 36 s1 s0) else none := (ev_iast 51 49 dX6_measure_50 ak36 an36 rfl).trans (mm_ite ((ev_iinc 54 [some (vR 8), some (vR 1), some (vI a2), some (vI (w32 (a3 + 1)))] dX6_measure_51 rfl rfl rfl).trans (ev_goto 26 dX6_measure_54 rfl)) (rfl))
theorem dX6_tryOn_0 : decode mX6_tryOn.1 0 = .ok (.iload_n 2, 1) := by decide +kernel
theorem dX6_tryOn_1 : decode mX6_tryOn.1 1 = .ok (.aload_n 0, 1) := by decide +kernel
theorem dX6_tryOn_2 : decode mX6_tryOn.1 2 = .ok (.getfield 48, 3) := by decide +kernel
theorem dX6_tryOn_5 : decode mX6_tryOn.1 5 = .ok (.if_icmp .lt 34, 3) := by decide +kernel
theorem dX6_tryOn_8 : decode mX6_tryOn.1 8 = .ok (.aload_n 0, 1) := by decide +kernel
theorem dX6_tryOn_9 : decode mX6_tryOn.1 9 = .ok (.aload_n 0, 1) := by decide +kernel
theorem dX6_tryOn_10 : decode mX6_tryOn.1 10 = .ok (.getfield 65, 3) := by decide +kernel
theorem dX6_tryOn_13 : decode mX6_tryOn.1 13 = .ok (.ifCond .ne 8, 3) := by decide +kernel
theorem dX6_tryOn_16 : decode mX6_tryOn.1 16 = .ok (.iload 5, 2) := by decide +kernel
theorem dX6_tryOn_18 : decode mX6_tryOn.1 18 = .ok (.goto 7, 3) := by decide +kernel
theorem dX6_tryOn_21 : decode mX6_tryOn.1 21 = .ok (.aload_n 0, 1) := by decide +kernel
theorem dX6_tryOn_22 : decode mX6_tryOn.1 22 = .ok (.getfield 68, 3) := by decide +kernel
theorem dX6_tryOn_25 : decode mX6_tryOn.1 25 = .ok (.putfield 68, 3) := by decide +kernel
theorem dX6_tryOn_28 : decode mX6_tryOn.1 28 = .ok (.aload_n 0, 1) := by decide +kernel
theorem dX6_tryOn_29 : decode mX6_tryOn.1 29 = .ok (.dup, 1) := by decide +kernel
theorem dX6_tryOn_30 : decode mX6_tryOn.1 30 = .ok (.getfield 65, 3) := by decide +kernel
theorem dX6_tryOn_33 : decode mX6_tryOn.1 33 = .ok (.iconst 1, 1) := by decide +kernel
theorem dX6_tryOn_34 : decode mX6_tryOn.1 34 = .ok (.iadd, 1) := by decide +kernel
theorem dX6_tryOn_35 : decode mX6_tryOn.1 35 = .ok (.putfield 65, 3) := by decide +kernel
theorem dX6_tryOn_38 : decode mX6_tryOn.1 38 = .ok (.return_, 1) := by decide +kernel
theorem dX6_tryOn_39 : decode mX6_tryOn.1 39 = .ok (.iconst 1, 1) := by decide +kernel
theorem dX6_tryOn_40 : decode mX6_tryOn.1 40 = .ok (.istore 6, 2) := by decide +kernel
theorem dX6_tryOn_42 : decode mX6_tryOn.1 42 = .ok (.iload 6, 2) := by decide +kernel
theorem dX6_tryOn_44 : decode mX6_tryOn.1 44 = .ok (.aload_n 0, 1) := by decide +kernel
theorem dX6_tryOn_45 : decode mX6_tryOn.1 45 = .ok (.getfield 48, 3) := by decide +kernel
theorem dX6_tryOn_48 : decode mX6_tryOn.1 48 = .ok (.if_icmp .gt 73, 3) := by decide +kernel
theorem dX6_tryOn_51 : decode mX6_tryOn.1 51 = .ok (.iload 4, 2) := by decide +kernel
theorem dX6_tryOn_53 : decode mX6_tryOn.1 53 = .ok (.aload_n 0, 1) := by decide +kernel
theorem dX6_tryOn_54 : decode mX6_tryOn.1 54 = .ok (.iload_n 2, 1) := by decide +kernel
theorem dX6_tryOn_55 : decode mX6_tryOn.1 55 = .ok (.iload 6, 2) := by decide +kernel
theorem dX6_tryOn_57 : decode mX6_tryOn.1 57 = .ok (.invokevirtual 62, 3) := by decide +kernel
theorem dX6_tryOn_60 : decode mX6_tryOn.1 60 = .ok (.iadd, 1) := by decide +kernel
theorem dX6_tryOn_61 : decode mX6_tryOn.1 61 = .ok (.istore 7, 2) := by decide +kernel
theorem dX6_tryOn_63 : decode mX6_tryOn.1 63 = .ok (.iload_n 3, 1) := by decide +kernel
theorem dX6_tryOn_64 : decode mX6_tryOn.1 64 = .ok (.iload 6, 2) := by decide +kernel
theorem dX6_tryOn_66 : decode mX6_tryOn.1 66 = .ok (.ishr, 1) := by decide +kernel
theorem dX6_tryOn_67 : decode mX6_tryOn.1 67 = .ok (.iconst 1, 1) := by decide +kernel
theorem dX6_tryOn_68 : decode mX6_tryOn.1 68 = .ok (.iand, 1) := by decide +kernel
theorem dX6_tryOn_69 : decode mX6_tryOn.1 69 = .ok (.ifCond .ne 46, 3) := by decide +kernel
theorem dX6_tryOn_72 : decode mX6_tryOn.1 72 = .ok (.aload_n 1, 1) := by decide +kernel
theorem dX6_tryOn_73 : decode mX6_tryOn.1 73 = .ok (.iload 6, 2) := by decide +kernel
theorem dX6_tryOn_75 : decode mX6_tryOn.1 75 = .ok (.iload 7, 2) := by decide +kernel
theorem dX6_tryOn_77 : decode mX6_tryOn.1 77 = .ok (.invokevirtual 75, 3) := by decide +kernel
theorem dX6_tryOn_80 : decode mX6_tryOn.1 80 = .ok (.ifCond .eq 35, 3) := by decide +kernel
theorem dX6_tryOn_83 : decode mX6_tryOn.1 83 = .ok (.aload_n 0, 1) := by decide +kernel
theorem dX6_tryOn_84 : decode mX6_tryOn.1 84 = .ok (.getfield 15, 3) := by decide +kernel
theorem dX6_tryOn_87 : decode mX6_tryOn.1 87 = .ok (.iload_n 2, 1) := by decide +kernel
theorem dX6_tryOn_88 : decode mX6_tryOn.1 88 = .ok (.iload 6, 2) := by decide +kernel
theorem dX6_tryOn_90 : decode mX6_tryOn.1 90 = .ok (.iastore, 1) := by decide +kernel
theorem dX6_tryOn_91 : decode mX6_tryOn.1 91 = .ok (.aload_n 0, 1) := by decide +kernel
theorem dX6_tryOn_92 : decode mX6_tryOn.1 92 = .ok (.aload_n 1, 1) := by decide +kernel
theorem dX6_tryOn_93 : decode mX6_tryOn.1 93 = .ok (.iload_n 2, 1) := by decide +kernel
theorem dX6_tryOn_94 : decode mX6_tryOn.1 94 = .ok (.iconst 1, 1) := by decide +kernel
theorem dX6_tryOn_95 : decode mX6_tryOn.1 95 = .ok (.iadd, 1) := by decide +kernel
theorem dX6_tryOn_96 : decode mX6_tryOn.1 96 = .ok (.iload_n 3, 1) := by decide +kernel
theorem dX6_tryOn_97 : decode mX6_tryOn.1 97 = .ok (.iconst 1, 1) := by decide +kernel
theorem dX6_tryOn_98 : decode mX6_tryOn.1 98 = .ok (.iload 6, 2) := by decide +kernel
theorem dX6_tryOn_100 : decode mX6_tryOn.1 100 = .ok (.ishl, 1) := by decide +kernel
theorem dX6_tryOn_101 : decode mX6_tryOn.1 101 = .ok (.ior, 1) := by decide +kernel
theorem dX6_tryOn_102 : decode mX6_tryOn.1 102 = .ok (.iload 7, 2) := by decide +kernel
theorem dX6_tryOn_104 : decode mX6_tryOn.1 104 = .ok (.iload 5, 2) := by decide +kernel
theorem dX6_tryOn_106 : decode mX6_tryOn.1 106 = .ok (.bipush 10, 2) := by decide +kernel
theorem dX6_tryOn_108 : decode mX6_tryOn.1 108 = .ok (.imul, 1) := by decide +kernel
theorem dX6_tryOn_109 : decode mX6_tryOn.1 109 = .ok (.iload 6, 2) := by decide +kernel
theorem dX6_tryOn_111 : decode mX6_tryOn.1 111 = .ok (.iadd, 1) := by decide +kernel
theorem dX6_tryOn_112 : decode mX6_tryOn.1 112 = .ok (.invokevirtual 81, 3) := by decide +kernel
theorem dX6_tryOn_115 : decode mX6_tryOn.1 115 = .ok (.iinc 6 1, 3) := by decide +kernel
theorem dX6_tryOn_118 : decode mX6_tryOn.1 118 = .ok (.goto (-76), 3) := by decide +kernel
theorem dX6_tryOn_121 : decode mX6_tryOn.1 121 = .ok (.return_, 1) := by decide +kernel
theorem X6_tryOn_0 (h : mm_M) (r : Nat) (a2 : Int) (a3 : Int) (a4 : Int) (a5 : Int) : mm_ev mX6_tryOn r 0 [some (vR 8), some (vR 7), some (vI a2), some (vI a3), some (vI a4), some (vI a5), none, none] [] h = if a2 < (h 8 4) then mm_ev mX6_tryOn r 42 [some (vR 8), some (vR 7), some (vI a2), some (vI a3), some (vI a4), some (vI a5), some (vI 1), none] [] h else if ¬ (h 8 2) = 0 then mm_ev mX6_tryOn r 25 [some (vR 8), some (vR 7), some (vI a2), some (vI a3), some (vI a4), some (vI a5), none, none] [vI (h 8 3), vR 8] h else mm_ev mX6_tryOn r 25 [some (vR 8), some (vR 7), some (vI a2), some (vI a3), some (vI a4), some (vI a5), none, none] [vI a5, vR 8] h := (ev_iload_n 1 dX6_tryOn_0 rfl rfl).trans ((ev_aload_n 2 dX6_tryOn_1 rfl rfl).trans ((ev_getI 5 4 dX6_tryOn_2 fl_6_48 oc8 ak8 (by decide) rfl rfl).trans ((ev_ic_lt 39 8 dX6_tryOn_5 rfl rfl).trans (mm_ite ((ev_iconst 40 (v := 1) dX6_tryOn_39 rfl rfl).trans (ev_istore 42 [some (vR 8), some (vR 7), some (vI a2), some (vI a3), some (vI a4), some (vI a5), some (vI 1), none] dX6_tryOn_40 rfl rfl)) ((ev_aload_n 9 dX6_tryOn_8 rfl rfl).trans ((ev_aload_n 10 dX6_tryOn_9 rfl rfl).trans ((ev_getI 13 2 dX6_tryOn_10 fl_6_65 oc8 ak8 (by decide) rfl rfl).trans ((ev_if_ne 21 16 dX6_tryOn_13 rfl rfl).trans (mm_ite ((ev_aload_n 22 dX6_tryOn_21 rfl rfl).trans (ev_getI 25 3 dX6_tryOn_22 fl_6_68 oc8 ak8 (by decide) rfl rfl)) ((ev_iload 18 dX6_tryOn_16 rfl rfl).trans (ev_goto 25 dX6_tryOn_18 rfl)))))))))))
theorem X6_tryOn_c (h : mm_M) (a2 : Int) (a3 : Int) (a4 : Int) (a5 : Int) : mm_call mX6_tryOn [vR 8, vR 7, vI a2, vI a3, vI a4, vI a5] h = mm_ev mX6_tryOn (10 + (8 - a2 : Int).toNat) 0 [some (vR 8), some (vR 7), some (vI a2), some (vI a3), some (vI a4), some (vI a5), none, none] [] h := rfl
theorem X6_tryOn_25 (h : mm_M) (r : Nat) (a2 : Int) (a3 : Int) (a4 : Int) (a5 : Int) (s0 : Int) : mm_ev mX6_tryOn r 25 [some (vR 8), some (vR 7), some (vI a2), some (vI a3), some (vI a4), some (vI a5), none, none] [vI s0, vR 8] h = some ([], mUp (mUp h 8 3 s0) 8 2 (w32 (((mUp h 8 3 s0) 8 2) + 1))) := (ev_putI 28 3 dX6_tryOn_25 fl_6_68 oc8 ak8 rfl rfl rfl).trans ((ev_aload_n 29 dX6_tryOn_28 rfl rfl).trans ((ev_dup 30 dX6_tryOn_29 rfl rfl).trans ((ev_getI 33 2 dX6_tryOn_30 fl_6_65 oc8 ak8 (by decide) rfl rfl).trans ((ev_iconst 34 (v := 1) dX6_tryOn_33 rfl rfl).trans ((ev_iadd 35 dX6_tryOn_34 rfl).trans ((ev_putI 38 2 dX6_tryOn_35 fl_6_65 oc8 ak8 rfl rfl rfl).trans (ev_vret dX6_tryOn_38 rfl)))))))
theorem X6_tryOn_42 (h : mm_M) (r : Nat) (a2 : Int) (a3 : Int) (a4 : Int) (a5 : Int) (a6 : Int) (o7 : Option mm_V) : mm_ev mX6_tryOn r 42 [some (vR 8), some (vR 7), some (vI a2), some (vI a3), some (vI a4), some (vI a5), some (vI a6), o7] [] h = if (h 8 4) < a6 then some ([], h) else if 1 < r then (mm_call mX6_stepTo [vR 8, vI a2, vI a6] h).bind (fun w => mm_ev mX6_tryOn r 60 [some (vR 8), some (vR 7), some (vI a2), some (vI a3), some (vI a4), some (vI a5), some (vI a6), o7] (w.1 ++ [vI a4]) w.2) else none := (ev_iload 44 dX6_tryOn_42 rfl rfl).trans ((ev_aload_n 45 dX6_tryOn_44 rfl rfl).trans ((ev_getI 48 4 dX6_tryOn_45 fl_6_48 oc8 ak8 (by decide) rfl rfl).trans ((ev_ic_gt 121 51 dX6_tryOn_48 rfl rfl).trans (mm_ite (ev_vret dX6_tryOn_121 rfl) ((ev_iload 53 dX6_tryOn_51 rfl rfl).trans ((ev_aload_n 54 dX6_tryOn_53 rfl rfl).trans ((ev_iload_n 55 dX6_tryOn_54 rfl rfl).trans ((ev_iload 57 dX6_tryOn_55 rfl rfl).trans (ev_callv mX6_stepTo [vR 8, vI a2, vI a6] [vI a4] 60 dX6_tryOn_57 ml_6_62 k61 rfl oc8 ak8 rfl rfl (Nat.le_of_ble_eq_true rfl) (Nat.le_of_ble_eq_true rfl) rfl)))))))))
theorem X6_tryOn_60 (h : mm_M) (r : Nat) (a2 : Int) (a3 : Int) (a4 : Int) (a5 : Int) (a6 : Int) (o7 : Option mm_V) (s0 : Int) (s1 : Int) : mm_ev mX6_tryOn r 60 [some (vR 8), some (vR 7), some (vI a2), some (vI a3), some (vI a4), some (vI a5), some (vI a6), o7] [vI s0, vI s1] h = if ¬ (iAnd (iShr a3 a6) 1) = 0 then mm_ev mX6_tryOn r 115 [some (vR 8), some (vR 7), some (vI a2), some (vI a3), some (vI a4), some (vI a5), some (vI a6), some (vI (w32 (s1 + s0)))] [] h else if 1 < r then (mm_call mX5_fits [vR 7, vI a6, vI (w32 (s1 + s0))] h).bind (fun w => mm_ev mX6_tryOn r 80 [some (vR 8), some (vR 7), some (vI a2), some (vI a3), some (vI a4), some (vI a5), some (vI a6), some (vI (w32 (s1 + s0)))] (w.1 ++ []) w.2) else none := (ev_iadd 61 dX6_tryOn_60 rfl).trans ((ev_istore 63 [some (vR 8), some (vR 7), some (vI a2), some (vI a3), some (vI a4), some (vI a5), some (vI a6), some (vI (w32 (s1 + s0)))] dX6_tryOn_61 rfl rfl).trans ((ev_iload_n 64 dX6_tryOn_63 rfl rfl).trans ((ev_iload 66 dX6_tryOn_64 rfl rfl).trans ((ev_ishr 67 dX6_tryOn_66 rfl).trans ((ev_iconst 68 (v := 1) dX6_tryOn_67 rfl rfl).trans ((ev_iand 69 dX6_tryOn_68 rfl).trans ((ev_if_ne 115 72 dX6_tryOn_69 rfl rfl).trans (mm_ite (rfl) ((ev_aload_n 73 dX6_tryOn_72 rfl rfl).trans ((ev_iload 75 dX6_tryOn_73 rfl rfl).trans ((ev_iload 77 dX6_tryOn_75 rfl rfl).trans (ev_callv mX5_fits [vR 7, vI a6, vI (w32 (s1 + s0))] [] 80 dX6_tryOn_77 ml_6_75 k54 rfl oc7 ak7 rfl rfl (Nat.le_of_ble_eq_true rfl) (Nat.le_of_ble_eq_true rfl) rfl))))))))))))
theorem X6_tryOn_80 (h : mm_M) (r : Nat) (a2 : Int) (a3 : Int) (a4 : Int) (a5 : Int) (a6 : Int) (a7 : Int) (s0 : Int) : mm_ev mX6_tryOn r 80 [some (vR 8), some (vR 7), some (vI a2), some (vI a3), some (vI a4), some (vI a5), some (vI a6), some (vI a7)] [vI s0] h = if s0 = 0 then mm_ev mX6_tryOn r 115 [some (vR 8), some (vR 7), some (vI a2), some (vI a3), some (vI a4), some (vI a5), some (vI a6), some (vI a7)] [] h else if 0 ≤ a2 ∧ a2 < 6 then if 10 + (8 - (w32 (a2 + 1)) : Int).toNat < r then (mm_call mX6_tryOn [vR 8, vR 7, vI (w32 (a2 + 1)), vI (iOr a3 (iShl 1 a6)), vI a7, vI (w32 ((w32 (a5 * 10)) + a6))] (mUp h 35 a2 a6)).bind (fun w => mm_ev mX6_tryOn r 115 [some (vR 8), some (vR 7), some (vI a2), some (vI a3), some (vI a4), some (vI a5), some (vI a6), some (vI a7)] (w.1 ++ []) w.2) else none else none := (ev_if_eq 115 83 dX6_tryOn_80 rfl rfl).trans (mm_ite (rfl) ((ev_aload_n 84 dX6_tryOn_83 rfl rfl).trans ((ev_getF 87 35 dX6_tryOn_84 fl_6_15 oc8 ak8 rfl rf_8_6 rfl).trans ((ev_iload_n 88 dX6_tryOn_87 rfl rfl).trans ((ev_iload 90 dX6_tryOn_88 rfl rfl).trans ((ev_iast 91 6 dX6_tryOn_90 ak35 an35 rfl).trans (mm_ite ((ev_aload_n 92 dX6_tryOn_91 rfl rfl).trans ((ev_aload_n 93 dX6_tryOn_92 rfl rfl).trans ((ev_iload_n 94 dX6_tryOn_93 rfl rfl).trans ((ev_iconst 95 (v := 1) dX6_tryOn_94 rfl rfl).trans ((ev_iadd 96 dX6_tryOn_95 rfl).trans ((ev_iload_n 97 dX6_tryOn_96 rfl rfl).trans ((ev_iconst 98 (v := 1) dX6_tryOn_97 rfl rfl).trans ((ev_iload 100 dX6_tryOn_98 rfl rfl).trans ((ev_ishl 101 dX6_tryOn_100 rfl).trans ((ev_ior 102 dX6_tryOn_101 rfl).trans ((ev_iload 104 dX6_tryOn_102 rfl rfl).trans ((ev_iload 106 dX6_tryOn_104 rfl rfl).trans ((ev_bipush 108 (v := 10) dX6_tryOn_106 rfl rfl).trans ((ev_imul 109 dX6_tryOn_108 rfl).trans ((ev_iload 111 dX6_tryOn_109 rfl rfl).trans ((ev_iadd 112 dX6_tryOn_111 rfl).trans (ev_callv mX6_tryOn [vR 8, vR 7, vI (w32 (a2 + 1)), vI (iOr a3 (iShl 1 a6)), vI a7, vI (w32 ((w32 (a5 * 10)) + a6))] [] 115 dX6_tryOn_112 ml_6_81 k63 rfl oc8 ak8 rfl rfl (Nat.le_of_ble_eq_true rfl) (Nat.le_of_ble_eq_true rfl) rfl))))))))))))))))) (rfl))))))))
theorem X6_tryOn_115 (h : mm_M) (r : Nat) (a2 : Int) (a3 : Int) (a4 : Int) (a5 : Int) (a6 : Int) (a7 : Int) : mm_ev mX6_tryOn r 115 [some (vR 8), some (vR 7), some (vI a2), some (vI a3), some (vI a4), some (vI a5), some (vI a6), some (vI a7)] [] h = mm_ev mX6_tryOn r 42 [some (vR 8), some (vR 7), some (vI a2), some (vI a3), some (vI a4), some (vI a5), some (vI (w32 (a6 + 1))), some (vI a7)] [] h := (ev_iinc 118 [some (vR 8), some (vR 7), some (vI a2), some (vI a3), some (vI a4), some (vI a5), some (vI (w32 (a6 + 1))), some (vI a7)] dX6_tryOn_115 rfl rfl rfl).trans (ev_goto 42 dX6_tryOn_118 rfl)
theorem dX6_stepTo_0 : decode mX6_stepTo.1 0 = .ok (.iload_n 1, 1) := by decide +kernel
theorem dX6_stepTo_1 : decode mX6_stepTo.1 1 = .ok (.ifCond .ne 12, 3) := by decide +kernel
theorem dX6_stepTo_4 : decode mX6_stepTo.1 4 = .ok (.aload_n 0, 1) := by decide +kernel
theorem dX6_stepTo_5 : decode mX6_stepTo.1 5 = .ok (.getfield 18, 3) := by decide +kernel
theorem dX6_stepTo_8 : decode mX6_stepTo.1 8 = .ok (.iload_n 2, 1) := by decide +kernel
theorem dX6_stepTo_9 : decode mX6_stepTo.1 9 = .ok (.iaload, 1) := by decide +kernel
theorem dX6_stepTo_10 : decode mX6_stepTo.1 10 = .ok (.goto 23, 3) := by decide +kernel
theorem dX6_stepTo_13 : decode mX6_stepTo.1 13 = .ok (.iconst 1, 1) := by decide +kernel
theorem dX6_stepTo_14 : decode mX6_stepTo.1 14 = .ok (.aload_n 0, 1) := by decide +kernel
theorem dX6_stepTo_15 : decode mX6_stepTo.1 15 = .ok (.getfield 18, 3) := by decide +kernel
theorem dX6_stepTo_18 : decode mX6_stepTo.1 18 = .ok (.aload_n 0, 1) := by decide +kernel
theorem dX6_stepTo_19 : decode mX6_stepTo.1 19 = .ok (.getfield 15, 3) := by decide +kernel
theorem dX6_stepTo_22 : decode mX6_stepTo.1 22 = .ok (.iload_n 1, 1) := by decide +kernel
theorem dX6_stepTo_23 : decode mX6_stepTo.1 23 = .ok (.iconst 1, 1) := by decide +kernel
theorem dX6_stepTo_24 : decode mX6_stepTo.1 24 = .ok (.isub, 1) := by decide +kernel
theorem dX6_stepTo_25 : decode mX6_stepTo.1 25 = .ok (.iaload, 1) := by decide +kernel
theorem dX6_stepTo_26 : decode mX6_stepTo.1 26 = .ok (.bipush 7, 2) := by decide +kernel
theorem dX6_stepTo_28 : decode mX6_stepTo.1 28 = .ok (.imul, 1) := by decide +kernel
theorem dX6_stepTo_29 : decode mX6_stepTo.1 29 = .ok (.iload_n 2, 1) := by decide +kernel
theorem dX6_stepTo_30 : decode mX6_stepTo.1 30 = .ok (.iadd, 1) := by decide +kernel
theorem dX6_stepTo_31 : decode mX6_stepTo.1 31 = .ok (.iaload, 1) := by decide +kernel
theorem dX6_stepTo_32 : decode mX6_stepTo.1 32 = .ok (.iadd, 1) := by decide +kernel
theorem dX6_stepTo_33 : decode mX6_stepTo.1 33 = .ok (.ireturn, 1) := by decide +kernel
theorem X6_stepTo_0 (h : mm_M) (a1 : Int) (a2 : Int) : mm_ev mX6_stepTo 1 0 [some (vR 8), some (vI a1), some (vI a2)] [] h = if ¬ a1 = 0 then if 0 ≤ (w32 (a1 - 1)) ∧ (w32 (a1 - 1)) < 6 then if 0 ≤ (w32 ((w32 ((h 35 (w32 (a1 - 1))) * 7)) + a2)) ∧ (w32 ((w32 ((h 35 (w32 (a1 - 1))) * 7)) + a2)) < 49 then some ([vI (w32 (1 + (h 36 (w32 ((w32 ((h 35 (w32 (a1 - 1))) * 7)) + a2)))))], h) else none else none else if 0 ≤ a2 ∧ a2 < 49 then some ([vI (h 36 a2)], h) else none := (ev_iload_n 1 dX6_stepTo_0 rfl rfl).trans ((ev_if_ne 13 4 dX6_stepTo_1 rfl rfl).trans (mm_ite ((ev_iconst 14 (v := 1) dX6_stepTo_13 rfl rfl).trans ((ev_aload_n 15 dX6_stepTo_14 rfl rfl).trans ((ev_getF 18 36 dX6_stepTo_15 fl_6_18 oc8 ak8 rfl rf_8_7 rfl).trans ((ev_aload_n 19 dX6_stepTo_18 rfl rfl).trans ((ev_getF 22 35 dX6_stepTo_19 fl_6_15 oc8 ak8 rfl rf_8_6 rfl).trans ((ev_iload_n 23 dX6_stepTo_22 rfl rfl).trans ((ev_iconst 24 (v := 1) dX6_stepTo_23 rfl rfl).trans ((ev_isub 25 dX6_stepTo_24 rfl).trans ((ev_iald 26 6 dX6_stepTo_25 ak35 an35 rfl).trans (mm_ite ((ev_bipush 28 (v := 7) dX6_stepTo_26 rfl rfl).trans ((ev_imul 29 dX6_stepTo_28 rfl).trans ((ev_iload_n 30 dX6_stepTo_29 rfl rfl).trans ((ev_iadd 31 dX6_stepTo_30 rfl).trans ((ev_iald 32 49 dX6_stepTo_31 ak36 an36 rfl).trans (mm_ite ((ev_iadd 33 dX6_stepTo_32 rfl).trans (ev_iret dX6_stepTo_33 rfl)) (rfl))))))) (rfl))))))))))) ((ev_aload_n 5 dX6_stepTo_4 rfl rfl).trans ((ev_getF 8 36 dX6_stepTo_5 fl_6_18 oc8 ak8 rfl rf_8_7 rfl).trans ((ev_iload_n 9 dX6_stepTo_8 rfl rfl).trans ((ev_iald 10 49 dX6_stepTo_9 ak36 an36 rfl).trans (mm_ite ((ev_goto 33 dX6_stepTo_10 rfl).trans (ev_iret dX6_stepTo_33 rfl)) (rfl))))))))
theorem X6_stepTo_c (h : mm_M) (a1 : Int) (a2 : Int) : mm_call mX6_stepTo [vR 8, vI a1, vI a2] h = if ¬ a1 = 0 then if 0 ≤ (w32 (a1 - 1)) ∧ (w32 (a1 - 1)) < 6 then if 0 ≤ (w32 ((w32 ((h 35 (w32 (a1 - 1))) * 7)) + a2)) ∧ (w32 ((w32 ((h 35 (w32 (a1 - 1))) * 7)) + a2)) < 49 then some ([vI (w32 (1 + (h 36 (w32 ((w32 ((h 35 (w32 (a1 - 1))) * 7)) + a2)))))], h) else none else none else if 0 ≤ a2 ∧ a2 < 49 then some ([vI (h 36 a2)], h) else none := X6_stepTo_0 h a1 a2
theorem dX6_findBest_0 : decode mX6_findBest.1 0 = .ok (.aload_n 0, 1) := by decide +kernel
theorem dX6_findBest_1 : decode mX6_findBest.1 1 = .ok (.iload_n 2, 1) := by decide +kernel
theorem dX6_findBest_2 : decode mX6_findBest.1 2 = .ok (.putfield 21, 3) := by decide +kernel
theorem dX6_findBest_5 : decode mX6_findBest.1 5 = .ok (.aload_n 0, 1) := by decide +kernel
theorem dX6_findBest_6 : decode mX6_findBest.1 6 = .ok (.ldc 25, 2) := by decide +kernel
theorem dX6_findBest_8 : decode mX6_findBest.1 8 = .ok (.putfield 26, 3) := by decide +kernel
theorem dX6_findBest_11 : decode mX6_findBest.1 11 = .ok (.aload_n 0, 1) := by decide +kernel
theorem dX6_findBest_12 : decode mX6_findBest.1 12 = .ok (.aload_n 1, 1) := by decide +kernel
theorem dX6_findBest_13 : decode mX6_findBest.1 13 = .ok (.invokevirtual 29, 3) := by decide +kernel
theorem dX6_findBest_16 : decode mX6_findBest.1 16 = .ok (.aload_n 0, 1) := by decide +kernel
theorem dX6_findBest_17 : decode mX6_findBest.1 17 = .ok (.iconst 0, 1) := by decide +kernel
theorem dX6_findBest_18 : decode mX6_findBest.1 18 = .ok (.iconst 0, 1) := by decide +kernel
theorem dX6_findBest_19 : decode mX6_findBest.1 19 = .ok (.iconst 0, 1) := by decide +kernel
theorem dX6_findBest_20 : decode mX6_findBest.1 20 = .ok (.iconst 0, 1) := by decide +kernel
theorem dX6_findBest_21 : decode mX6_findBest.1 21 = .ok (.invokevirtual 33, 3) := by decide +kernel
theorem dX6_findBest_24 : decode mX6_findBest.1 24 = .ok (.return_, 1) := by decide +kernel
theorem X6_findBest_0 (h : mm_M) (a2 : Int) : mm_ev mX6_findBest 21 0 [some (vR 8), some (vR 1), some (vI a2)] [] h = (mm_call mX6_measure [vR 8, vR 1] (mUp (mUp h 8 5 a2) 8 0 1000000)).bind (fun w => mm_ev mX6_findBest 21 16 [some (vR 8), some (vR 1), some (vI a2)] (w.1 ++ []) w.2) := (ev_aload_n 1 dX6_findBest_0 rfl rfl).trans ((ev_iload_n 2 dX6_findBest_1 rfl rfl).trans ((ev_putI 5 5 dX6_findBest_2 fl_6_21 oc8 ak8 rfl rfl rfl).trans ((ev_aload_n 6 dX6_findBest_5 rfl rfl).trans ((ev_ldc 8 dX6_findBest_6 cI_6_25 rfl).trans ((ev_putI 11 0 dX6_findBest_8 fl_6_26 oc8 ak8 rfl rfl rfl).trans ((ev_aload_n 12 dX6_findBest_11 rfl rfl).trans ((ev_aload_n 13 dX6_findBest_12 rfl rfl).trans ((ev_callv mX6_measure [vR 8, vR 1] [] 16 dX6_findBest_13 ml_6_29 k58 rfl oc8 ak8 rfl rfl (Nat.le_of_ble_eq_true rfl) (Nat.le_of_ble_eq_true rfl) rfl).trans (if_pos (show 3 < 21 from by decide))))))))))
theorem X6_findBest_c (h : mm_M) (a2 : Int) : mm_call mX6_findBest [vR 8, vR 1, vI a2] h = (mm_call mX6_measure [vR 8, vR 1] (mUp (mUp h 8 5 a2) 8 0 1000000)).bind (fun w => mm_ev mX6_findBest 21 16 [some (vR 8), some (vR 1), some (vI a2)] (w.1 ++ []) w.2) := X6_findBest_0 h a2
theorem X6_findBest_16 (h : mm_M) (a2 : Int) : mm_ev mX6_findBest 21 16 [some (vR 8), some (vR 1), some (vI a2)] [] h = if 10 + (8 - 0 : Int).toNat < 21 then (mm_call mX6_goOn [vR 8, vI 0, vI 0, vI 0, vI 0] h).bind (fun w => mm_ev mX6_findBest 21 24 [some (vR 8), some (vR 1), some (vI a2)] (w.1 ++ []) w.2) else none := (ev_aload_n 17 dX6_findBest_16 rfl rfl).trans ((ev_iconst 18 (v := 0) dX6_findBest_17 rfl rfl).trans ((ev_iconst 19 (v := 0) dX6_findBest_18 rfl rfl).trans ((ev_iconst 20 (v := 0) dX6_findBest_19 rfl rfl).trans ((ev_iconst 21 (v := 0) dX6_findBest_20 rfl rfl).trans (ev_callv mX6_goOn [vR 8, vI 0, vI 0, vI 0, vI 0] [] 24 dX6_findBest_21 ml_6_33 k59 rfl oc8 ak8 rfl rfl (Nat.le_of_ble_eq_true rfl) (Nat.le_of_ble_eq_true rfl) rfl)))))
theorem X6_findBest_24 (h : mm_M) (a2 : Int) : mm_ev mX6_findBest 21 24 [some (vR 8), some (vR 1), some (vI a2)] [] h = some ([], h) := ev_vret dX6_findBest_24 rfl
theorem dX6_goOn_0 : decode mX6_goOn.1 0 = .ok (.iload 4, 2) := by decide +kernel
theorem dX6_goOn_2 : decode mX6_goOn.1 2 = .ok (.aload_n 0, 1) := by decide +kernel
theorem dX6_goOn_3 : decode mX6_goOn.1 3 = .ok (.aload_n 0, 1) := by decide +kernel
theorem dX6_goOn_4 : decode mX6_goOn.1 4 = .ok (.getfield 48, 3) := by decide +kernel
theorem dX6_goOn_7 : decode mX6_goOn.1 7 = .ok (.iload_n 1, 1) := by decide +kernel
theorem dX6_goOn_8 : decode mX6_goOn.1 8 = .ok (.isub, 1) := by decide +kernel
theorem dX6_goOn_9 : decode mX6_goOn.1 9 = .ok (.iload_n 3, 1) := by decide +kernel
theorem dX6_goOn_10 : decode mX6_goOn.1 10 = .ok (.invokevirtual 53, 3) := by decide +kernel
theorem dX6_goOn_13 : decode mX6_goOn.1 13 = .ok (.iadd, 1) := by decide +kernel
theorem dX6_goOn_14 : decode mX6_goOn.1 14 = .ok (.aload_n 0, 1) := by decide +kernel
theorem dX6_goOn_15 : decode mX6_goOn.1 15 = .ok (.getfield 26, 3) := by decide +kernel
theorem dX6_goOn_18 : decode mX6_goOn.1 18 = .ok (.if_icmp .lt 4, 3) := by decide +kernel
theorem dX6_goOn_21 : decode mX6_goOn.1 21 = .ok (.return_, 1) := by decide +kernel
theorem dX6_goOn_22 : decode mX6_goOn.1 22 = .ok (.iload_n 1, 1) := by decide +kernel
theorem dX6_goOn_23 : decode mX6_goOn.1 23 = .ok (.aload_n 0, 1) := by decide +kernel
theorem dX6_goOn_24 : decode mX6_goOn.1 24 = .ok (.getfield 48, 3) := by decide +kernel
theorem dX6_goOn_27 : decode mX6_goOn.1 27 = .ok (.if_icmp .lt 25, 3) := by decide +kernel
theorem dX6_goOn_30 : decode mX6_goOn.1 30 = .ok (.aload_n 0, 1) := by decide +kernel
theorem dX6_goOn_31 : decode mX6_goOn.1 31 = .ok (.iload 4, 2) := by decide +kernel
theorem dX6_goOn_33 : decode mX6_goOn.1 33 = .ok (.putfield 26, 3) := by decide +kernel
theorem dX6_goOn_36 : decode mX6_goOn.1 36 = .ok (.aload_n 0, 1) := by decide +kernel
theorem dX6_goOn_37 : decode mX6_goOn.1 37 = .ok (.getfield 15, 3) := by decide +kernel
theorem dX6_goOn_40 : decode mX6_goOn.1 40 = .ok (.iconst 0, 1) := by decide +kernel
theorem dX6_goOn_41 : decode mX6_goOn.1 41 = .ok (.aload_n 0, 1) := by decide +kernel
theorem dX6_goOn_42 : decode mX6_goOn.1 42 = .ok (.getfield 9, 3) := by decide +kernel
theorem dX6_goOn_45 : decode mX6_goOn.1 45 = .ok (.iconst 0, 1) := by decide +kernel
theorem dX6_goOn_46 : decode mX6_goOn.1 46 = .ok (.bipush 6, 2) := by decide +kernel
theorem dX6_goOn_48 : decode mX6_goOn.1 48 = .ok (.invokestatic 56, 3) := by decide +kernel
theorem dX6_goOn_51 : decode mX6_goOn.1 51 = .ok (.return_, 1) := by decide +kernel
theorem dX6_goOn_52 : decode mX6_goOn.1 52 = .ok (.iconst 1, 1) := by decide +kernel
theorem dX6_goOn_53 : decode mX6_goOn.1 53 = .ok (.istore 5, 2) := by decide +kernel
theorem dX6_goOn_55 : decode mX6_goOn.1 55 = .ok (.iload 5, 2) := by decide +kernel
theorem dX6_goOn_57 : decode mX6_goOn.1 57 = .ok (.aload_n 0, 1) := by decide +kernel
theorem dX6_goOn_58 : decode mX6_goOn.1 58 = .ok (.getfield 48, 3) := by decide +kernel
theorem dX6_goOn_61 : decode mX6_goOn.1 61 = .ok (.if_icmp .gt 69, 3) := by decide +kernel
theorem dX6_goOn_64 : decode mX6_goOn.1 64 = .ok (.iload_n 2, 1) := by decide +kernel
theorem dX6_goOn_65 : decode mX6_goOn.1 65 = .ok (.iload 5, 2) := by decide +kernel
theorem dX6_goOn_67 : decode mX6_goOn.1 67 = .ok (.ishr, 1) := by decide +kernel
theorem dX6_goOn_68 : decode mX6_goOn.1 68 = .ok (.iconst 1, 1) := by decide +kernel
theorem dX6_goOn_69 : decode mX6_goOn.1 69 = .ok (.iand, 1) := by decide +kernel
theorem dX6_goOn_70 : decode mX6_goOn.1 70 = .ok (.ifCond .ne 54, 3) := by decide +kernel
theorem dX6_goOn_73 : decode mX6_goOn.1 73 = .ok (.iload_n 3, 1) := by decide +kernel
theorem dX6_goOn_74 : decode mX6_goOn.1 74 = .ok (.aload_n 0, 1) := by decide +kernel
theorem dX6_goOn_75 : decode mX6_goOn.1 75 = .ok (.iload_n 1, 1) := by decide +kernel
theorem dX6_goOn_76 : decode mX6_goOn.1 76 = .ok (.iload 5, 2) := by decide +kernel
theorem dX6_goOn_78 : decode mX6_goOn.1 78 = .ok (.invokevirtual 62, 3) := by decide +kernel
theorem dX6_goOn_81 : decode mX6_goOn.1 81 = .ok (.iadd, 1) := by decide +kernel
theorem dX6_goOn_82 : decode mX6_goOn.1 82 = .ok (.istore 6, 2) := by decide +kernel
theorem dX6_goOn_84 : decode mX6_goOn.1 84 = .ok (.aload_n 0, 1) := by decide +kernel
theorem dX6_goOn_85 : decode mX6_goOn.1 85 = .ok (.getfield 15, 3) := by decide +kernel
theorem dX6_goOn_88 : decode mX6_goOn.1 88 = .ok (.iload_n 1, 1) := by decide +kernel
theorem dX6_goOn_89 : decode mX6_goOn.1 89 = .ok (.iload 5, 2) := by decide +kernel
theorem dX6_goOn_91 : decode mX6_goOn.1 91 = .ok (.iastore, 1) := by decide +kernel
theorem dX6_goOn_92 : decode mX6_goOn.1 92 = .ok (.aload_n 0, 1) := by decide +kernel
theorem dX6_goOn_93 : decode mX6_goOn.1 93 = .ok (.iload_n 1, 1) := by decide +kernel
theorem dX6_goOn_94 : decode mX6_goOn.1 94 = .ok (.iconst 1, 1) := by decide +kernel
theorem dX6_goOn_95 : decode mX6_goOn.1 95 = .ok (.iadd, 1) := by decide +kernel
theorem dX6_goOn_96 : decode mX6_goOn.1 96 = .ok (.iload_n 2, 1) := by decide +kernel
theorem dX6_goOn_97 : decode mX6_goOn.1 97 = .ok (.iconst 1, 1) := by decide +kernel
theorem dX6_goOn_98 : decode mX6_goOn.1 98 = .ok (.iload 5, 2) := by decide +kernel
theorem dX6_goOn_100 : decode mX6_goOn.1 100 = .ok (.ishl, 1) := by decide +kernel
theorem dX6_goOn_101 : decode mX6_goOn.1 101 = .ok (.ior, 1) := by decide +kernel
theorem dX6_goOn_102 : decode mX6_goOn.1 102 = .ok (.iload 6, 2) := by decide +kernel
theorem dX6_goOn_104 : decode mX6_goOn.1 104 = .ok (.aload_n 0, 1) := by decide +kernel
theorem dX6_goOn_105 : decode mX6_goOn.1 105 = .ok (.getfield 21, 3) := by decide +kernel
theorem dX6_goOn_108 : decode mX6_goOn.1 108 = .ok (.ifCond .ne 8, 3) := by decide +kernel
theorem dX6_goOn_111 : decode mX6_goOn.1 111 = .ok (.iload 6, 2) := by decide +kernel
theorem dX6_goOn_113 : decode mX6_goOn.1 113 = .ok (.goto 8, 3) := by decide +kernel
theorem dX6_goOn_116 : decode mX6_goOn.1 116 = .ok (.iload 4, 2) := by decide +kernel
theorem dX6_goOn_118 : decode mX6_goOn.1 118 = .ok (.iload 6, 2) := by decide +kernel
theorem dX6_goOn_120 : decode mX6_goOn.1 120 = .ok (.iadd, 1) := by decide +kernel
theorem dX6_goOn_121 : decode mX6_goOn.1 121 = .ok (.invokevirtual 33, 3) := by decide +kernel
theorem dX6_goOn_124 : decode mX6_goOn.1 124 = .ok (.iinc 5 1, 3) := by decide +kernel
theorem dX6_goOn_127 : decode mX6_goOn.1 127 = .ok (.goto (-72), 3) := by decide +kernel
theorem dX6_goOn_130 : decode mX6_goOn.1 130 = .ok (.return_, 1) := by decide +kernel
theorem X6_goOn_0 (h : mm_M) (r : Nat) (a1 : Int) (a2 : Int) (a3 : Int) (a4 : Int) : mm_ev mX6_goOn r 0 [some (vR 8), some (vI a1), some (vI a2), some (vI a3), some (vI a4), none, none] [] h = if 1 < r then (mm_call mX6_leastToCome [vR 8, vI (w32 ((h 8 4) - a1)), vI a3] h).bind (fun w => mm_ev mX6_goOn r 13 [some (vR 8), some (vI a1), some (vI a2), some (vI a3), some (vI a4), none, none] (w.1 ++ [vI a4]) w.2) else none := (ev_iload 2 dX6_goOn_0 rfl rfl).trans ((ev_aload_n 3 dX6_goOn_2 rfl rfl).trans ((ev_aload_n 4 dX6_goOn_3 rfl rfl).trans ((ev_getI 7 4 dX6_goOn_4 fl_6_48 oc8 ak8 (by decide) rfl rfl).trans ((ev_iload_n 8 dX6_goOn_7 rfl rfl).trans ((ev_isub 9 dX6_goOn_8 rfl).trans ((ev_iload_n 10 dX6_goOn_9 rfl rfl).trans (ev_callv mX6_leastToCome [vR 8, vI (w32 ((h 8 4) - a1)), vI a3] [vI a4] 13 dX6_goOn_10 ml_6_53 k60 rfl oc8 ak8 rfl rfl (Nat.le_of_ble_eq_true rfl) (Nat.le_of_ble_eq_true rfl) rfl)))))))
theorem X6_goOn_c (h : mm_M) (a1 : Int) (a2 : Int) (a3 : Int) (a4 : Int) : mm_call mX6_goOn [vR 8, vI a1, vI a2, vI a3, vI a4] h = mm_ev mX6_goOn (10 + (8 - a1 : Int).toNat) 0 [some (vR 8), some (vI a1), some (vI a2), some (vI a3), some (vI a4), none, none] [] h := rfl
theorem X6_goOn_13 (h : mm_M) (r : Nat) (a1 : Int) (a2 : Int) (a3 : Int) (a4 : Int) (s0 : Int) (s1 : Int) : mm_ev mX6_goOn r 13 [some (vR 8), some (vI a1), some (vI a2), some (vI a3), some (vI a4), none, none] [vI s0, vI s1] h = if (w32 (s1 + s0)) < (h 8 0) then if a1 < (h 8 4) then mm_ev mX6_goOn r 55 [some (vR 8), some (vI a1), some (vI a2), some (vI a3), some (vI a4), some (vI 1), none] [] h else if 0 ≤ 0 ∧ 0 ≤ 0 ∧ 0 ≤ 6 ∧ 0 + 6 ≤ 6 ∧ 0 + 6 ≤ 6 then some ([], mCpy (mUp h 8 0 a4) 35 0 34 0 6) else none else some ([], h) := (ev_iadd 14 dX6_goOn_13 rfl).trans ((ev_aload_n 15 dX6_goOn_14 rfl rfl).trans ((ev_getI 18 0 dX6_goOn_15 fl_6_26 oc8 ak8 (by decide) rfl rfl).trans ((ev_ic_lt 22 21 dX6_goOn_18 rfl rfl).trans (mm_ite ((ev_iload_n 23 dX6_goOn_22 rfl rfl).trans ((ev_aload_n 24 dX6_goOn_23 rfl rfl).trans ((ev_getI 27 4 dX6_goOn_24 fl_6_48 oc8 ak8 (by decide) rfl rfl).trans ((ev_ic_lt 52 30 dX6_goOn_27 rfl rfl).trans (mm_ite ((ev_iconst 53 (v := 1) dX6_goOn_52 rfl rfl).trans (ev_istore 55 [some (vR 8), some (vI a1), some (vI a2), some (vI a3), some (vI a4), some (vI 1), none] dX6_goOn_53 rfl rfl)) ((ev_aload_n 31 dX6_goOn_30 rfl rfl).trans ((ev_iload 33 dX6_goOn_31 rfl rfl).trans ((ev_putI 36 0 dX6_goOn_33 fl_6_26 oc8 ak8 rfl rfl rfl).trans ((ev_aload_n 37 dX6_goOn_36 rfl rfl).trans ((ev_getF 40 35 dX6_goOn_37 fl_6_15 oc8 ak8 rfl rf_8_6 rfl).trans ((ev_iconst 41 (v := 0) dX6_goOn_40 rfl rfl).trans ((ev_aload_n 42 dX6_goOn_41 rfl rfl).trans ((ev_getF 45 34 dX6_goOn_42 fl_6_9 oc8 ak8 rfl rf_8_1 rfl).trans ((ev_iconst 46 (v := 0) dX6_goOn_45 rfl rfl).trans ((ev_bipush 48 (v := 6) dX6_goOn_46 rfl rfl).trans ((ev_copy 51 6 6 dX6_goOn_48 ml_6_56 (Nat.le_of_ble_eq_true rfl) (Or.inl ak34) (ak35.trans ak34.symm) an35 an34 rfl).trans (mm_ite (ev_vret dX6_goOn_51 rfl) (rfl)))))))))))))))))) (ev_vret dX6_goOn_21 rfl)))))
theorem X6_goOn_55 (h : mm_M) (r : Nat) (a1 : Int) (a2 : Int) (a3 : Int) (a4 : Int) (a5 : Int) (o6 : Option mm_V) : mm_ev mX6_goOn r 55 [some (vR 8), some (vI a1), some (vI a2), some (vI a3), some (vI a4), some (vI a5), o6] [] h = if (h 8 4) < a5 then some ([], h) else if ¬ (iAnd (iShr a2 a5) 1) = 0 then mm_ev mX6_goOn r 124 [some (vR 8), some (vI a1), some (vI a2), some (vI a3), some (vI a4), some (vI a5), o6] [] h else if 1 < r then (mm_call mX6_stepTo [vR 8, vI a1, vI a5] h).bind (fun w => mm_ev mX6_goOn r 81 [some (vR 8), some (vI a1), some (vI a2), some (vI a3), some (vI a4), some (vI a5), o6] (w.1 ++ [vI a3]) w.2) else none := (ev_iload 57 dX6_goOn_55 rfl rfl).trans ((ev_aload_n 58 dX6_goOn_57 rfl rfl).trans ((ev_getI 61 4 dX6_goOn_58 fl_6_48 oc8 ak8 (by decide) rfl rfl).trans ((ev_ic_gt 130 64 dX6_goOn_61 rfl rfl).trans (mm_ite (ev_vret dX6_goOn_130 rfl) ((ev_iload_n 65 dX6_goOn_64 rfl rfl).trans ((ev_iload 67 dX6_goOn_65 rfl rfl).trans ((ev_ishr 68 dX6_goOn_67 rfl).trans ((ev_iconst 69 (v := 1) dX6_goOn_68 rfl rfl).trans ((ev_iand 70 dX6_goOn_69 rfl).trans ((ev_if_ne 124 73 dX6_goOn_70 rfl rfl).trans (mm_ite (rfl) ((ev_iload_n 74 dX6_goOn_73 rfl rfl).trans ((ev_aload_n 75 dX6_goOn_74 rfl rfl).trans ((ev_iload_n 76 dX6_goOn_75 rfl rfl).trans ((ev_iload 78 dX6_goOn_76 rfl rfl).trans (ev_callv mX6_stepTo [vR 8, vI a1, vI a5] [vI a3] 81 dX6_goOn_78 ml_6_62 k61 rfl oc8 ak8 rfl rfl (Nat.le_of_ble_eq_true rfl) (Nat.le_of_ble_eq_true rfl) rfl))))))))))))))))
theorem X6_goOn_81 (h : mm_M) (r : Nat) (a1 : Int) (a2 : Int) (a3 : Int) (a4 : Int) (a5 : Int) (o6 : Option mm_V) (s0 : Int) (s1 : Int) : mm_ev mX6_goOn r 81 [some (vR 8), some (vI a1), some (vI a2), some (vI a3), some (vI a4), some (vI a5), o6] [vI s0, vI s1] h = if 0 ≤ a1 ∧ a1 < 6 then if ¬ ((mUp h 35 a1 a5) 8 5) = 0 then if 10 + (8 - (w32 (a1 + 1)) : Int).toNat < r then (mm_call mX6_goOn [vR 8, vI (w32 (a1 + 1)), vI (iOr a2 (iShl 1 a5)), vI (w32 (s1 + s0)), vI (w32 (a4 + (w32 (s1 + s0))))] (mUp h 35 a1 a5)).bind (fun w => mm_ev mX6_goOn r 124 [some (vR 8), some (vI a1), some (vI a2), some (vI a3), some (vI a4), some (vI a5), some (vI (w32 (s1 + s0)))] (w.1 ++ []) w.2) else none else if 10 + (8 - (w32 (a1 + 1)) : Int).toNat < r then (mm_call mX6_goOn [vR 8, vI (w32 (a1 + 1)), vI (iOr a2 (iShl 1 a5)), vI (w32 (s1 + s0)), vI (w32 (s1 + s0))] (mUp h 35 a1 a5)).bind (fun w => mm_ev mX6_goOn r 124 [some (vR 8), some (vI a1), some (vI a2), some (vI a3), some (vI a4), some (vI a5), some (vI (w32 (s1 + s0)))] (w.1 ++ []) w.2) else none else none := (ev_iadd 82 dX6_goOn_81 rfl).trans ((ev_istore 84 [some (vR 8), some (vI a1), some (vI a2), some (vI a3), some (vI a4), some (vI a5), some (vI (w32 (s1 + s0)))] dX6_goOn_82 rfl rfl).trans ((ev_aload_n 85 dX6_goOn_84 rfl rfl).trans ((ev_getF 88 35 dX6_goOn_85 fl_6_15 oc8 ak8 rfl rf_8_6 rfl).trans ((ev_iload_n 89 dX6_goOn_88 rfl rfl).trans ((ev_iload 91 dX6_goOn_89 rfl rfl).trans ((ev_iast 92 6 dX6_goOn_91 ak35 an35 rfl).trans (mm_ite ((ev_aload_n 93 dX6_goOn_92 rfl rfl).trans ((ev_iload_n 94 dX6_goOn_93 rfl rfl).trans ((ev_iconst 95 (v := 1) dX6_goOn_94 rfl rfl).trans ((ev_iadd 96 dX6_goOn_95 rfl).trans ((ev_iload_n 97 dX6_goOn_96 rfl rfl).trans ((ev_iconst 98 (v := 1) dX6_goOn_97 rfl rfl).trans ((ev_iload 100 dX6_goOn_98 rfl rfl).trans ((ev_ishl 101 dX6_goOn_100 rfl).trans ((ev_ior 102 dX6_goOn_101 rfl).trans ((ev_iload 104 dX6_goOn_102 rfl rfl).trans ((ev_aload_n 105 dX6_goOn_104 rfl rfl).trans ((ev_getI 108 5 dX6_goOn_105 fl_6_21 oc8 ak8 (by decide) rfl rfl).trans ((ev_if_ne 116 111 dX6_goOn_108 rfl rfl).trans (mm_ite ((ev_iload 118 dX6_goOn_116 rfl rfl).trans ((ev_iload 120 dX6_goOn_118 rfl rfl).trans ((ev_iadd 121 dX6_goOn_120 rfl).trans (ev_callv mX6_goOn [vR 8, vI (w32 (a1 + 1)), vI (iOr a2 (iShl 1 a5)), vI (w32 (s1 + s0)), vI (w32 (a4 + (w32 (s1 + s0))))] [] 124 dX6_goOn_121 ml_6_33 k59 rfl oc8 ak8 rfl rfl (Nat.le_of_ble_eq_true rfl) (Nat.le_of_ble_eq_true rfl) rfl)))) ((ev_iload 113 dX6_goOn_111 rfl rfl).trans ((ev_goto 121 dX6_goOn_113 rfl).trans (ev_callv mX6_goOn [vR 8, vI (w32 (a1 + 1)), vI (iOr a2 (iShl 1 a5)), vI (w32 (s1 + s0)), vI (w32 (s1 + s0))] [] 124 dX6_goOn_121 ml_6_33 k59 rfl oc8 ak8 rfl rfl (Nat.le_of_ble_eq_true rfl) (Nat.le_of_ble_eq_true rfl) rfl))))))))))))))))) (rfl))))))))
theorem X6_goOn_124 (h : mm_M) (r : Nat) (a1 : Int) (a2 : Int) (a3 : Int) (a4 : Int) (a5 : Int) (o6 : Option mm_V) : mm_ev mX6_goOn r 124 [some (vR 8), some (vI a1), some (vI a2), some (vI a3), some (vI a4), some (vI a5), o6] [] h = mm_ev mX6_goOn r 55 [some (vR 8), some (vI a1), some (vI a2), some (vI a3), some (vI a4), some (vI (w32 (a5 + 1))), o6] [] h := (ev_iinc 127 [some (vR 8), some (vI a1), some (vI a2), some (vI a3), some (vI a4), some (vI (w32 (a5 + 1))), o6] dX6_goOn_124 rfl rfl rfl).trans (ev_goto 55 dX6_goOn_127 rfl)
theorem dX6_leastToCome_0 : decode mX6_leastToCome.1 0 = .ok (.aload_n 0, 1) := by decide +kernel
theorem dX6_leastToCome_1 : decode mX6_leastToCome.1 1 = .ok (.getfield 21, 3) := by decide +kernel
theorem dX6_leastToCome_4 : decode mX6_leastToCome.1 4 = .ok (.ifCond .ne 7, 3) := by decide +kernel
theorem dX6_leastToCome_7 : decode mX6_leastToCome.1 7 = .ok (.iconst 0, 1) := by decide +kernel
theorem dX6_leastToCome_8 : decode mX6_leastToCome.1 8 = .ok (.goto 6, 3) := by decide +kernel
theorem dX6_leastToCome_11 : decode mX6_leastToCome.1 11 = .ok (.iload_n 1, 1) := by decide +kernel
theorem dX6_leastToCome_12 : decode mX6_leastToCome.1 12 = .ok (.iload_n 2, 1) := by decide +kernel
theorem dX6_leastToCome_13 : decode mX6_leastToCome.1 13 = .ok (.imul, 1) := by decide +kernel
theorem dX6_leastToCome_14 : decode mX6_leastToCome.1 14 = .ok (.ireturn, 1) := by decide +kernel
theorem X6_leastToCome_0 (h : mm_M) (a1 : Int) (a2 : Int) : mm_ev mX6_leastToCome 1 0 [some (vR 8), some (vI a1), some (vI a2)] [] h = if ¬ (h 8 5) = 0 then some ([vI (w32 (a1 * a2))], h) else some ([vI 0], h) := (ev_aload_n 1 dX6_leastToCome_0 rfl rfl).trans ((ev_getI 4 5 dX6_leastToCome_1 fl_6_21 oc8 ak8 (by decide) rfl rfl).trans ((ev_if_ne 11 7 dX6_leastToCome_4 rfl rfl).trans (mm_ite ((ev_iload_n 12 dX6_leastToCome_11 rfl rfl).trans ((ev_iload_n 13 dX6_leastToCome_12 rfl rfl).trans ((ev_imul 14 dX6_leastToCome_13 rfl).trans (ev_iret dX6_leastToCome_14 rfl)))) ((ev_iconst 8 (v := 0) dX6_leastToCome_7 rfl rfl).trans ((ev_goto 14 dX6_leastToCome_8 rfl).trans (ev_iret dX6_leastToCome_14 rfl))))))
theorem X6_leastToCome_c (h : mm_M) (a1 : Int) (a2 : Int) : mm_call mX6_leastToCome [vR 8, vI a1, vI a2] h = if ¬ (h 8 5) = 0 then some ([vI (w32 (a1 * a2))], h) else some ([vI 0], h) := X6_leastToCome_0 h a1 a2
