/-! single entries of the tables -/
theorem ak0 : mm_ak 0 = 0 := rfl
theorem oc0 : mm_oc 0 = some 9 := rfl
theorem ak1 : mm_ak 1 = 0 := rfl
theorem oc1 : mm_oc 1 = some 4 := rfl
theorem ak2 : mm_ak 2 = 0 := rfl
theorem oc2 : mm_oc 2 = some 3 := rfl
theorem ak3 : mm_ak 3 = 0 := rfl
theorem oc3 : mm_oc 3 = some 7 := rfl
theorem ak4 : mm_ak 4 = 0 := rfl
theorem oc4 : mm_oc 4 = some 8 := rfl
theorem ak5 : mm_ak 5 = 0 := rfl
theorem oc5 : mm_oc 5 = some 8 := rfl
theorem ak6 : mm_ak 6 = 0 := rfl
theorem oc6 : mm_oc 6 = some 1 := rfl
theorem ak7 : mm_ak 7 = 0 := rfl
theorem oc7 : mm_oc 7 = some 5 := rfl
theorem ak8 : mm_ak 8 = 0 := rfl
theorem oc8 : mm_oc 8 = some 6 := rfl
theorem ak9 : mm_ak 9 = 0 := rfl
theorem oc9 : mm_oc 9 = some 2 := rfl
theorem ak10 : mm_ak 10 = 0 := rfl
theorem oc10 : mm_oc 10 = some 0 := rfl
theorem ak11 : mm_ak 11 = 1 := rfl
theorem an11 : mm_an 11 = 57 := rfl
theorem ak12 : mm_ak 12 = 1 := rfl
theorem an12 : mm_an 12 = 40 := rfl
theorem ak13 : mm_ak 13 = 1 := rfl
theorem an13 : mm_an 13 = 40 := rfl
theorem ak14 : mm_ak 14 = 1 := rfl
theorem an14 : mm_an 14 = 40 := rfl
theorem ak15 : mm_ak 15 = 1 := rfl
theorem an15 : mm_an 15 = 120 := rfl
theorem ak18 : mm_ak 18 = 1 := rfl
theorem an18 : mm_an 18 = 64 := rfl
theorem ak19 : mm_ak 19 = 1 := rfl
theorem an19 : mm_an 19 = 6 := rfl
theorem ak20 : mm_ak 20 = 1 := rfl
theorem an20 : mm_an 20 = 6 := rfl
theorem ak21 : mm_ak 21 = 1 := rfl
theorem an21 : mm_an 21 = 6 := rfl
theorem ak22 : mm_ak 22 = 2 := rfl
theorem an22 : mm_an 22 = 360 := rfl
theorem ak23 : mm_ak 23 = 1 := rfl
theorem an23 : mm_an 23 = 6 := rfl
theorem ak24 : mm_ak 24 = 1 := rfl
theorem an24 : mm_an 24 = 7 := rfl
theorem ak25 : mm_ak 25 = 1 := rfl
theorem an25 : mm_an 25 = 7 := rfl
theorem ak26 : mm_ak 26 = 1 := rfl
theorem an26 : mm_an 26 = 6 := rfl
theorem ak27 : mm_ak 27 = 1 := rfl
theorem an27 : mm_an 27 = 7 := rfl
theorem ak28 : mm_ak 28 = 1 := rfl
theorem an28 : mm_an 28 = 7 := rfl
theorem ak29 : mm_ak 29 = 1 := rfl
theorem an29 : mm_an 29 = 7 := rfl
theorem ak30 : mm_ak 30 = 1 := rfl
theorem an30 : mm_an 30 = 7 := rfl
theorem ak31 : mm_ak 31 = 1 := rfl
theorem an31 : mm_an 31 = 7 := rfl
theorem ak32 : mm_ak 32 = 1 := rfl
theorem an32 : mm_an 32 = 7 := rfl
theorem ak33 : mm_ak 33 = 1 := rfl
theorem an33 : mm_an 33 = 7 := rfl
theorem ak34 : mm_ak 34 = 1 := rfl
theorem an34 : mm_an 34 = 6 := rfl
theorem ak35 : mm_ak 35 = 1 := rfl
theorem an35 : mm_an 35 = 6 := rfl
theorem ak36 : mm_ak 36 = 1 := rfl
theorem an36 : mm_an 36 = 49 := rfl
theorem ak37 : mm_ak 37 = 1 := rfl
theorem an37 : mm_an 37 = 7 := rfl
theorem ak38 : mm_ak 38 = 1 := rfl
theorem an38 : mm_an 38 = 7 := rfl
theorem ak39 : mm_ak 39 = 1 := rfl
theorem an39 : mm_an 39 = 7 := rfl
theorem ak40 : mm_ak 40 = 1 := rfl
theorem an40 : mm_an 40 = 4 := rfl
theorem ak41 : mm_ak 41 = 1 := rfl
theorem an41 : mm_an 41 = 7 := rfl
theorem ak42 : mm_ak 42 = 1 := rfl
theorem an42 : mm_an 42 = 7 := rfl
theorem ak43 : mm_ak 43 = 1 := rfl
theorem an43 : mm_an 43 = 7 := rfl
theorem ak44 : mm_ak 44 = 1 := rfl
theorem an44 : mm_an 44 = 4 := rfl
theorem ak45 : mm_ak 45 = 1 := rfl
theorem an45 : mm_an 45 = 24 := rfl
theorem ak46 : mm_ak 46 = 1 := rfl
theorem an46 : mm_an 46 = 50 := rfl
theorem ak47 : mm_ak 47 = 0 := rfl
theorem oc47 : mm_oc 47 = some 10 := rfl
theorem ak48 : mm_ak 48 = 1 := rfl
theorem an48 : mm_an 48 = 7 := rfl
theorem ak49 : mm_ak 49 = 1 := rfl
theorem an49 : mm_an 49 = 7 := rfl
theorem ak50 : mm_ak 50 = 1 := rfl
theorem an50 : mm_an 50 = 7 := rfl
theorem ak51 : mm_ak 51 = 1 := rfl
theorem an51 : mm_an 51 = 10 := rfl
theorem ak52 : mm_ak 52 = 1 := rfl
theorem an52 : mm_an 52 = 10 := rfl
theorem ak53 : mm_ak 53 = 1 := rfl
theorem an53 : mm_an 53 = 4 := rfl
theorem ak54 : mm_ak 54 = 1 := rfl
theorem an54 : mm_an 54 = 4 := rfl
theorem ak55 : mm_ak 55 = 1 := rfl
theorem an55 : mm_an 55 = 4 := rfl
theorem ak56 : mm_ak 56 = 1 := rfl
theorem an56 : mm_an 56 = 40 := rfl
theorem ak57 : mm_ak 57 = 1 := rfl
theorem an57 : mm_an 57 = 40 := rfl
theorem ak58 : mm_ak 58 = 1 := rfl
theorem an58 : mm_an 58 = 40 := rfl
theorem ak59 : mm_ak 59 = 1 := rfl
theorem an59 : mm_an 59 = 40 := rfl
theorem ak60 : mm_ak 60 = 3 := rfl
theorem an60 : mm_an 60 = 120 := rfl
theorem ak61 : mm_ak 61 = 3 := rfl
theorem an61 : mm_an 61 = 260 := rfl
theorem ak62 : mm_ak 62 = 1 := rfl
theorem an62 : mm_an 62 = 260 := rfl
theorem ak63 : mm_ak 63 = 1 := rfl
theorem an63 : mm_an 63 = 2 := rfl
theorem ak64 : mm_ak 64 = 4 := rfl
theorem an64 : mm_an 64 = 122 := rfl
theorem ak65 : mm_ak 65 = 4 := rfl
theorem an65 : mm_an 65 = 122 := rfl
theorem ak66 : mm_ak 66 = 1 := rfl
theorem an66 : mm_an 66 = 6 := rfl
theorem ak67 : mm_ak 67 = 1 := rfl
theorem an67 : mm_an 67 = 130 := rfl
theorem ak68 : mm_ak 68 = 1 := rfl
theorem an68 : mm_an 68 = 7 := rfl
theorem ak69 : mm_ak 69 = 1 := rfl
theorem an69 : mm_an 69 = 7 := rfl
theorem ak70 : mm_ak 70 = 1 := rfl
theorem an70 : mm_an 70 = 7 := rfl
theorem ak71 : mm_ak 71 = 1 := rfl
theorem an71 : mm_an 71 = 7 := rfl
theorem ak72 : mm_ak 72 = 1 := rfl
theorem an72 : mm_an 72 = 7 := rfl
theorem ak73 : mm_ak 73 = 1 := rfl
theorem an73 : mm_an 73 = 7 := rfl
theorem ak74 : mm_ak 74 = 1 := rfl
theorem an74 : mm_an 74 = 4 := rfl
theorem ak75 : mm_ak 75 = 1 := rfl
theorem an75 : mm_an 75 = 21 := rfl
theorem ak76 : mm_ak 76 = 1 := rfl
theorem an76 : mm_an 76 = 4 := rfl
theorem ak77 : mm_ak 77 = 1 := rfl
theorem an77 : mm_an 77 = 50 := rfl
theorem ak78 : mm_ak 78 = 1 := rfl
theorem an78 : mm_an 78 = 24 := rfl
theorem ak79 : mm_ak 79 = 1 := rfl
theorem an79 : mm_an 79 = 6 := rfl
theorem ak80 : mm_ak 80 = 1 := rfl
theorem an80 : mm_an 80 = 6 := rfl
theorem ak81 : mm_ak 81 = 2 := rfl
theorem an81 : mm_an 81 = 360 := rfl
theorem ak82 : mm_ak 82 = 2 := rfl
theorem an82 : mm_an 82 = 60 := rfl
theorem ak100 : mm_ak 100 = 5 := rfl
theorem an100 : mm_an 100 = 12 := rfl
theorem ak101 : mm_ak 101 = 5 := rfl
theorem an101 : mm_an 101 = 12 := rfl
theorem ak102 : mm_ak 102 = 5 := rfl
theorem an102 : mm_an 102 = 12 := rfl
theorem ak103 : mm_ak 103 = 5 := rfl
theorem an103 : mm_an 103 = 12 := rfl
theorem ak104 : mm_ak 104 = 5 := rfl
theorem an104 : mm_an 104 = 8 := rfl
theorem ak105 : mm_ak 105 = 5 := rfl
theorem an105 : mm_an 105 = 32 := rfl
theorem ak110 : mm_ak 110 = 6 := rfl
theorem fl_0_11 : mm_fl 0 11 = some (0, 2) := by decide +kernel
theorem fl_0_15 : mm_fl 0 15 = some (0, 3) := by decide +kernel
theorem fl_0_18 : mm_fl 0 18 = some (0, 0) := by decide +kernel
theorem fl_0_25 : mm_fl 0 25 = some (0, 1) := by decide +kernel
theorem fl_0_32 : mm_fl 0 32 = some (0, 4) := by decide +kernel
theorem fl_1_9 : mm_fl 1 9 = some (1, 1) := by decide +kernel
theorem fl_1_15 : mm_fl 1 15 = some (1, 2) := by decide +kernel
theorem fl_1_18 : mm_fl 1 18 = some (1, 3) := by decide +kernel
theorem fl_1_21 : mm_fl 1 21 = some (8, 0) := by decide +kernel
theorem fl_1_27 : mm_fl 1 27 = some (8, 1) := by decide +kernel
theorem fl_1_54 : mm_fl 1 54 = some (1, 0) := by decide +kernel
theorem fl_2_9 : mm_fl 2 9 = some (2, 1) := by decide +kernel
theorem fl_2_15 : mm_fl 2 15 = some (2, 2) := by decide +kernel
theorem fl_2_18 : mm_fl 2 18 = some (2, 3) := by decide +kernel
theorem fl_2_21 : mm_fl 2 21 = some (2, 4) := by decide +kernel
theorem fl_2_24 : mm_fl 2 24 = some (2, 5) := by decide +kernel
theorem fl_2_28 : mm_fl 2 28 = some (2, 7) := by decide +kernel
theorem fl_2_31 : mm_fl 2 31 = some (2, 8) := by decide +kernel
theorem fl_2_34 : mm_fl 2 34 = some (2, 9) := by decide +kernel
theorem fl_2_37 : mm_fl 2 37 = some (2, 10) := by decide +kernel
theorem fl_2_41 : mm_fl 2 41 = some (2, 0) := by decide +kernel
theorem fl_2_44 : mm_fl 2 44 = some (2, 6) := by decide +kernel
theorem fl_3_11 : mm_fl 3 11 = some (3, 1) := by decide +kernel
theorem fl_3_15 : mm_fl 3 15 = some (3, 4) := by decide +kernel
theorem fl_3_18 : mm_fl 3 18 = some (3, 6) := by decide +kernel
theorem fl_3_21 : mm_fl 3 21 = some (3, 8) := by decide +kernel
theorem fl_3_24 : mm_fl 3 24 = some (3, 0) := by decide +kernel
theorem fl_3_31 : mm_fl 3 31 = some (3, 3) := by decide +kernel
theorem fl_3_35 : mm_fl 3 35 = some (3, 2) := by decide +kernel
theorem fl_3_38 : mm_fl 3 38 = some (3, 5) := by decide +kernel
theorem fl_3_41 : mm_fl 3 41 = some (3, 7) := by decide +kernel
theorem fl_3_94 : mm_fl 3 94 = some (3, 9) := by decide +kernel
theorem fl_4_9 : mm_fl 4 9 = some (4, 0) := by decide +kernel
theorem fl_4_15 : mm_fl 4 15 = some (4, 5) := by decide +kernel
theorem fl_4_18 : mm_fl 4 18 = some (4, 6) := by decide +kernel
theorem fl_4_21 : mm_fl 4 21 = some (4, 7) := by decide +kernel
theorem fl_4_27 : mm_fl 4 27 = some (4, 1) := by decide +kernel
theorem fl_4_56 : mm_fl 4 56 = some (4, 4) := by decide +kernel
theorem fl_4_59 : mm_fl 4 59 = some (4, 2) := by decide +kernel
theorem fl_4_62 : mm_fl 4 62 = some (4, 3) := by decide +kernel
theorem fl_5_9 : mm_fl 5 9 = some (5, 0) := by decide +kernel
theorem fl_5_15 : mm_fl 5 15 = some (5, 1) := by decide +kernel
theorem fl_5_20 : mm_fl 5 20 = some (7, 1) := by decide +kernel
theorem fl_5_59 : mm_fl 5 59 = some (4, 1) := by decide +kernel
theorem fl_6_9 : mm_fl 6 9 = some (6, 1) := by decide +kernel
theorem fl_6_15 : mm_fl 6 15 = some (6, 6) := by decide +kernel
theorem fl_6_18 : mm_fl 6 18 = some (6, 7) := by decide +kernel
theorem fl_6_21 : mm_fl 6 21 = some (6, 5) := by decide +kernel
theorem fl_6_26 : mm_fl 6 26 = some (6, 0) := by decide +kernel
theorem fl_6_37 : mm_fl 6 37 = some (4, 1) := by decide +kernel
theorem fl_6_48 : mm_fl 6 48 = some (6, 4) := by decide +kernel
theorem fl_6_65 : mm_fl 6 65 = some (6, 2) := by decide +kernel
theorem fl_6_68 : mm_fl 6 68 = some (6, 3) := by decide +kernel
theorem fl_7_11 : mm_fl 7 11 = some (7, 0) := by decide +kernel
theorem fl_7_15 : mm_fl 7 15 = some (7, 1) := by decide +kernel
theorem fl_7_18 : mm_fl 7 18 = some (7, 2) := by decide +kernel
theorem fl_7_21 : mm_fl 7 21 = some (7, 3) := by decide +kernel
theorem fl_8_9 : mm_fl 8 9 = some (8, 1) := by decide +kernel
theorem fl_8_15 : mm_fl 8 15 = some (8, 2) := by decide +kernel
theorem fl_8_18 : mm_fl 8 18 = some (8, 3) := by decide +kernel
theorem fl_8_24 : mm_fl 8 24 = some (7, 1) := by decide +kernel
theorem fl_8_29 : mm_fl 8 29 = some (8, 0) := by decide +kernel
theorem fl_9_10 : mm_fl 9 10 = some (9, 0) := by decide +kernel
theorem fl_9_19 : mm_fl 9 19 = some (9, 1) := by decide +kernel
theorem fl_9_26 : mm_fl 9 26 = some (9, 2) := by decide +kernel
theorem fl_9_33 : mm_fl 9 33 = some (9, 3) := by decide +kernel
theorem fl_9_37 : mm_fl 9 37 = some (9, 4) := by decide +kernel
theorem fl_9_43 : mm_fl 9 43 = some (9, 5) := by decide +kernel
theorem fl_9_50 : mm_fl 9 50 = some (9, 6) := by decide +kernel
theorem fl_9_57 : mm_fl 9 57 = some (9, 7) := by decide +kernel
theorem fl_9_64 : mm_fl 9 64 = some (9, 8) := by decide +kernel
theorem fl_9_71 : mm_fl 9 71 = some (9, 9) := by decide +kernel
theorem fl_9_79 : mm_fl 9 79 = some (4, 1) := by decide +kernel
theorem fl_9_105 : mm_fl 9 105 = some (2, 1) := by decide +kernel
theorem fl_9_109 : mm_fl 9 109 = some (2, 0) := by decide +kernel
theorem fl_9_112 : mm_fl 9 112 = some (4, 0) := by decide +kernel
theorem fl_9_148 : mm_fl 9 148 = some (6, 0) := by decide +kernel
theorem fl_9_151 : mm_fl 9 151 = some (6, 1) := by decide +kernel
theorem fl_9_189 : mm_fl 9 189 = some (8, 0) := by decide +kernel
theorem fl_9_196 : mm_fl 9 196 = some (8, 1) := by decide +kernel
theorem fl_9_239 : mm_fl 9 239 = some (8, 2) := by decide +kernel
theorem fl_9_253 : mm_fl 9 253 = some (7, 1) := by decide +kernel
theorem fl_9_267 : mm_fl 9 267 = some (6, 2) := by decide +kernel
theorem fl_9_270 : mm_fl 9 270 = some (6, 3) := by decide +kernel
theorem fl_9_281 : mm_fl 9 281 = some (1, 0) := by decide +kernel
theorem fl_9_293 : mm_fl 9 293 = some (2, 4) := by decide +kernel
theorem fl_9_306 : mm_fl 9 306 = some (2, 5) := by decide +kernel
theorem fl_9_324 : mm_fl 9 324 = some (0, 1) := by decide +kernel
theorem fl_9_327 : mm_fl 9 327 = some (0, 2) := by decide +kernel
theorem fl_9_333 : mm_fl 9 333 = some (0, 0) := by decide +kernel
theorem fl_9_358 : mm_fl 9 358 = some (7, 0) := by decide +kernel
theorem fl_9_361 : mm_fl 9 361 = some (7, 2) := by decide +kernel
theorem fl_9_370 : mm_fl 9 370 = some (3, 0) := by decide +kernel
theorem fl_9_373 : mm_fl 9 373 = some (4, 2) := by decide +kernel
theorem fl_10_9 : mm_fl 10 9 = some (10, 2) := by decide +kernel
theorem fl_10_15 : mm_fl 10 15 = some (10, 3) := by decide +kernel
theorem fl_10_18 : mm_fl 10 18 = some (10, 4) := by decide +kernel
theorem fl_10_21 : mm_fl 10 21 = some (10, 5) := by decide +kernel
theorem fl_10_24 : mm_fl 10 24 = some (10, 6) := by decide +kernel
theorem fl_10_27 : mm_fl 10 27 = some (10, 7) := by decide +kernel
theorem fl_10_30 : mm_fl 10 30 = some (10, 8) := by decide +kernel
theorem fl_10_33 : mm_fl 10 33 = some (10, 9) := by decide +kernel
theorem fl_10_36 : mm_fl 10 36 = some (10, 11) := by decide +kernel
theorem fl_10_40 : mm_fl 10 40 = some (10, 13) := by decide +kernel
theorem fl_10_43 : mm_fl 10 43 = some (10, 16) := by decide +kernel
theorem fl_10_46 : mm_fl 10 46 = some (10, 17) := by decide +kernel
theorem fl_10_49 : mm_fl 10 49 = some (10, 18) := by decide +kernel
theorem fl_10_52 : mm_fl 10 52 = some (10, 19) := by decide +kernel
theorem fl_10_55 : mm_fl 10 55 = some (10, 20) := by decide +kernel
theorem fl_10_59 : mm_fl 10 59 = some (10, 26) := by decide +kernel
theorem fl_10_62 : mm_fl 10 62 = some (10, 27) := by decide +kernel
theorem fl_10_65 : mm_fl 10 65 = some (10, 28) := by decide +kernel
theorem fl_10_68 : mm_fl 10 68 = some (10, 29) := by decide +kernel
theorem fl_10_72 : mm_fl 10 72 = some (10, 30) := by decide +kernel
theorem fl_10_75 : mm_fl 10 75 = some (10, 31) := by decide +kernel
theorem fl_10_78 : mm_fl 10 78 = some (10, 32) := by decide +kernel
theorem fl_10_81 : mm_fl 10 81 = some (10, 34) := by decide +kernel
theorem fl_10_84 : mm_fl 10 84 = some (10, 36) := by decide +kernel
theorem fl_10_87 : mm_fl 10 87 = some (10, 37) := by decide +kernel
theorem fl_10_90 : mm_fl 10 90 = some (10, 40) := by decide +kernel
theorem fl_10_93 : mm_fl 10 93 = some (10, 41) := by decide +kernel
theorem fl_10_96 : mm_fl 10 96 = some (10, 42) := by decide +kernel
theorem fl_10_99 : mm_fl 10 99 = some (10, 44) := by decide +kernel
theorem fl_10_102 : mm_fl 10 102 = some (10, 45) := by decide +kernel
theorem fl_10_105 : mm_fl 10 105 = some (10, 47) := by decide +kernel
theorem fl_10_108 : mm_fl 10 108 = some (10, 48) := by decide +kernel
theorem fl_10_111 : mm_fl 10 111 = some (10, 50) := by decide +kernel
theorem fl_10_114 : mm_fl 10 114 = some (10, 52) := by decide +kernel
theorem fl_10_117 : mm_fl 10 117 = some (10, 53) := by decide +kernel
theorem fl_10_120 : mm_fl 10 120 = some (10, 54) := by decide +kernel
theorem fl_10_123 : mm_fl 10 123 = some (10, 55) := by decide +kernel
theorem fl_10_127 : mm_fl 10 127 = some (10, 56) := by decide +kernel
theorem fl_10_133 : mm_fl 10 133 = some (10, 1) := by decide +kernel
theorem fl_10_140 : mm_fl 10 140 = some (10, 10) := by decide +kernel
theorem fl_10_153 : mm_fl 10 153 = some (10, 12) := by decide +kernel
theorem fl_10_160 : mm_fl 10 160 = some (10, 15) := by decide +kernel
theorem fl_10_163 : mm_fl 10 163 = some (10, 14) := by decide +kernel
theorem fl_10_186 : mm_fl 10 186 = some (10, 43) := by decide +kernel
theorem fl_10_189 : mm_fl 10 189 = some (10, 21) := by decide +kernel
theorem fl_10_192 : mm_fl 10 192 = some (10, 22) := by decide +kernel
theorem fl_10_195 : mm_fl 10 195 = some (10, 23) := by decide +kernel
theorem fl_10_198 : mm_fl 10 198 = some (10, 25) := by decide +kernel
theorem fl_10_201 : mm_fl 10 201 = some (10, 24) := by decide +kernel
theorem fl_10_256 : mm_fl 10 256 = some (10, 33) := by decide +kernel
theorem fl_10_269 : mm_fl 10 269 = some (10, 35) := by decide +kernel
theorem fl_10_300 : mm_fl 10 300 = some (10, 39) := by decide +kernel
theorem fl_10_306 : mm_fl 10 306 = some (10, 38) := by decide +kernel
theorem fl_10_395 : mm_fl 10 395 = some (10, 46) := by decide +kernel
theorem fl_10_398 : mm_fl 10 398 = some (10, 49) := by decide +kernel
theorem fl_10_401 : mm_fl 10 401 = some (10, 51) := by decide +kernel
theorem rf_0_0 : mm_rf 0 0 = 1 := by decide +kernel
theorem rf_0_1 : mm_rf 0 1 = 2 := by decide +kernel
theorem rf_0_2 : mm_rf 0 2 = 3 := by decide +kernel
theorem rf_0_3 : mm_rf 0 3 = 4 := by decide +kernel
theorem rf_0_4 : mm_rf 0 4 = 5 := by decide +kernel
theorem rf_0_5 : mm_rf 0 5 = 6 := by decide +kernel
theorem rf_0_6 : mm_rf 0 6 = 7 := by decide +kernel
theorem rf_0_7 : mm_rf 0 7 = 8 := by decide +kernel
theorem rf_0_8 : mm_rf 0 8 = 9 := by decide +kernel
theorem rf_0_9 : mm_rf 0 9 = 10 := by decide +kernel
theorem rf_1_0 : mm_rf 1 0 = 11 := by decide +kernel
theorem rf_1_5 : mm_rf 1 5 = 12 := by decide +kernel
theorem rf_1_6 : mm_rf 1 6 = 13 := by decide +kernel
theorem rf_1_7 : mm_rf 1 7 = 14 := by decide +kernel
theorem rf_2_1 : mm_rf 2 1 = 15 := by decide +kernel
theorem rf_2_8 : mm_rf 2 8 = 18 := by decide +kernel
theorem rf_3_0 : mm_rf 3 0 = 19 := by decide +kernel
theorem rf_3_1 : mm_rf 3 1 = 20 := by decide +kernel
theorem rf_3_2 : mm_rf 3 2 = 21 := by decide +kernel
theorem rf_3_3 : mm_rf 3 3 = 22 := by decide +kernel
theorem rf_4_1 : mm_rf 4 1 = 23 := by decide +kernel
theorem rf_4_2 : mm_rf 4 2 = 24 := by decide +kernel
theorem rf_4_3 : mm_rf 4 3 = 25 := by decide +kernel
theorem rf_5_1 : mm_rf 5 1 = 26 := by decide +kernel
theorem rf_5_2 : mm_rf 5 2 = 27 := by decide +kernel
theorem rf_5_3 : mm_rf 5 3 = 28 := by decide +kernel
theorem rf_6_1 : mm_rf 6 1 = 29 := by decide +kernel
theorem rf_6_2 : mm_rf 6 2 = 30 := by decide +kernel
theorem rf_6_3 : mm_rf 6 3 = 31 := by decide +kernel
theorem rf_7_0 : mm_rf 7 0 = 32 := by decide +kernel
theorem rf_7_1 : mm_rf 7 1 = 33 := by decide +kernel
theorem rf_8_1 : mm_rf 8 1 = 34 := by decide +kernel
theorem rf_8_6 : mm_rf 8 6 = 35 := by decide +kernel
theorem rf_8_7 : mm_rf 8 7 = 36 := by decide +kernel
theorem rf_9_1 : mm_rf 9 1 = 37 := by decide +kernel
theorem rf_9_2 : mm_rf 9 2 = 38 := by decide +kernel
theorem rf_9_3 : mm_rf 9 3 = 39 := by decide +kernel
theorem rf_9_4 : mm_rf 9 4 = 40 := by decide +kernel
theorem rf_9_7 : mm_rf 9 7 = 41 := by decide +kernel
theorem rf_9_8 : mm_rf 9 8 = 42 := by decide +kernel
theorem rf_9_9 : mm_rf 9 9 = 43 := by decide +kernel
theorem rf_9_10 : mm_rf 9 10 = 44 := by decide +kernel
theorem rf_10_2 : mm_rf 10 2 = 45 := by decide +kernel
theorem rf_10_3 : mm_rf 10 3 = 46 := by decide +kernel
theorem rf_47_2 : mm_rf 47 2 = 48 := by decide +kernel
theorem rf_47_3 : mm_rf 47 3 = 49 := by decide +kernel
theorem rf_47_4 : mm_rf 47 4 = 50 := by decide +kernel
theorem rf_47_5 : mm_rf 47 5 = 51 := by decide +kernel
theorem rf_47_6 : mm_rf 47 6 = 52 := by decide +kernel
theorem rf_47_7 : mm_rf 47 7 = 53 := by decide +kernel
theorem rf_47_8 : mm_rf 47 8 = 54 := by decide +kernel
theorem rf_47_9 : mm_rf 47 9 = 55 := by decide +kernel
theorem rf_47_16 : mm_rf 47 16 = 56 := by decide +kernel
theorem rf_47_17 : mm_rf 47 17 = 57 := by decide +kernel
theorem rf_47_18 : mm_rf 47 18 = 58 := by decide +kernel
theorem rf_47_19 : mm_rf 47 19 = 59 := by decide +kernel
theorem rf_47_20 : mm_rf 47 20 = 60 := by decide +kernel
theorem rf_47_26 : mm_rf 47 26 = 61 := by decide +kernel
theorem rf_47_27 : mm_rf 47 27 = 62 := by decide +kernel
theorem rf_47_28 : mm_rf 47 28 = 63 := by decide +kernel
theorem rf_47_29 : mm_rf 47 29 = 64 := by decide +kernel
theorem rf_47_30 : mm_rf 47 30 = 65 := by decide +kernel
theorem rf_47_31 : mm_rf 47 31 = 66 := by decide +kernel
theorem rf_47_32 : mm_rf 47 32 = 67 := by decide +kernel
theorem rf_47_34 : mm_rf 47 34 = 68 := by decide +kernel
theorem rf_47_36 : mm_rf 47 36 = 69 := by decide +kernel
theorem rf_47_37 : mm_rf 47 37 = 70 := by decide +kernel
theorem rf_47_40 : mm_rf 47 40 = 71 := by decide +kernel
theorem rf_47_41 : mm_rf 47 41 = 72 := by decide +kernel
theorem rf_47_42 : mm_rf 47 42 = 73 := by decide +kernel
theorem rf_47_44 : mm_rf 47 44 = 74 := by decide +kernel
theorem rf_47_47 : mm_rf 47 47 = 75 := by decide +kernel
theorem rf_47_48 : mm_rf 47 48 = 76 := by decide +kernel
theorem rf_47_50 : mm_rf 47 50 = 77 := by decide +kernel
theorem rf_47_52 : mm_rf 47 52 = 78 := by decide +kernel
theorem rf_47_53 : mm_rf 47 53 = 79 := by decide +kernel
theorem rf_47_54 : mm_rf 47 54 = 80 := by decide +kernel
theorem rf_47_55 : mm_rf 47 55 = 81 := by decide +kernel
theorem rf_47_56 : mm_rf 47 56 = 82 := by decide +kernel
theorem ml_0_28 : mm_ml 0 28 = some (0, 1, 1) := by decide +kernel
theorem ml_0_35 : mm_ml 0 35 = some (0, 3, 4) := by decide +kernel
theorem ml_0_39 : mm_ml 0 39 = some (0, 4, 5) := by decide +kernel
theorem ml_0_46 : mm_ml 0 46 = some (0, 3, 6) := by decide +kernel
theorem ml_0_49 : mm_ml 0 49 = some (0, 4, 7) := by decide +kernel
theorem ml_1_30 : mm_ml 1 30 = some (0, 4, 32) := by decide +kernel
theorem ml_1_36 : mm_ml 1 36 = some (0, 2, 9) := by decide +kernel
theorem ml_1_44 : mm_ml 1 44 = some (1, 1, 266) := by decide +kernel
theorem ml_1_50 : mm_ml 1 50 = some (0, 2, 10) := by decide +kernel
theorem ml_2_47 : mm_ml 2 47 = some (5, 0, 0) := by decide +kernel
theorem ml_2_53 : mm_ml 2 53 = some (0, 2, 15) := by decide +kernel
theorem ml_3_28 : mm_ml 3 28 = some (0, 0, 22) := by decide +kernel
theorem ml_3_44 : mm_ml 3 44 = some (0, 2, 23) := by decide +kernel
theorem ml_3_48 : mm_ml 3 48 = some (0, 1, 27) := by decide +kernel
theorem ml_3_52 : mm_ml 3 52 = some (0, 1, 28) := by decide +kernel
theorem ml_3_56 : mm_ml 3 56 = some (0, 1, 24) := by decide +kernel
theorem ml_3_59 : mm_ml 3 59 = some (0, 0, 26) := by decide +kernel
theorem ml_3_63 : mm_ml 3 63 = some (1, 2, 31) := by decide +kernel
theorem ml_3_67 : mm_ml 3 67 = some (1, 1, 29) := by decide +kernel
theorem ml_3_70 : mm_ml 3 70 = some (0, 0, 25) := by decide +kernel
theorem ml_3_73 : mm_ml 3 73 = some (1, 1, 30) := by decide +kernel
theorem ml_3_76 : mm_ml 3 76 = some (0, 2, 41) := by decide +kernel
theorem ml_3_82 : mm_ml 3 82 = some (0, 4, 33) := by decide +kernel
theorem ml_3_86 : mm_ml 3 86 = some (3, 0, 0) := by decide +kernel
theorem ml_3_91 : mm_ml 3 91 = some (2, 0, 0) := by decide +kernel
theorem ml_3_97 : mm_ml 3 97 = some (0, 0, 38) := by decide +kernel
theorem ml_3_100 : mm_ml 3 100 = some (0, 1, 37) := by decide +kernel
theorem ml_3_103 : mm_ml 3 103 = some (1, 5, 34) := by decide +kernel
theorem ml_3_107 : mm_ml 3 107 = some (0, 1, 35) := by decide +kernel
theorem ml_3_110 : mm_ml 3 110 = some (4, 0, 0) := by decide +kernel
theorem ml_3_114 : mm_ml 3 114 = some (1, 3, 36) := by decide +kernel
theorem ml_4_40 : mm_ml 4 40 = some (0, 1, 42) := by decide +kernel
theorem ml_4_44 : mm_ml 4 44 = some (0, 2, 41) := by decide +kernel
theorem ml_4_48 : mm_ml 4 48 = some (4, 0, 0) := by decide +kernel
theorem ml_4_53 : mm_ml 4 53 = some (0, 0, 48) := by decide +kernel
theorem ml_5_25 : mm_ml 5 25 = some (0, 2, 69) := by decide +kernel
theorem ml_5_29 : mm_ml 5 29 = some (1, 4, 52) := by decide +kernel
theorem ml_5_33 : mm_ml 5 33 = some (0, 5, 53) := by decide +kernel
theorem ml_5_37 : mm_ml 5 37 = some (0, 1, 43) := by decide +kernel
theorem ml_5_43 : mm_ml 5 43 = some (0, 2, 40) := by decide +kernel
theorem ml_5_46 : mm_ml 5 46 = some (0, 1, 42) := by decide +kernel
theorem ml_5_50 : mm_ml 5 50 = some (3, 0, 0) := by decide +kernel
theorem ml_5_56 : mm_ml 5 56 = some (2, 0, 0) := by decide +kernel
theorem ml_5_63 : mm_ml 5 63 = some (0, 2, 80) := by decide +kernel
theorem ml_5_69 : mm_ml 5 69 = some (0, 2, 54) := by decide +kernel
theorem ml_5_72 : mm_ml 5 72 = some (0, 1, 79) := by decide +kernel
theorem ml_6_29 : mm_ml 6 29 = some (0, 1, 58) := by decide +kernel
theorem ml_6_33 : mm_ml 6 33 = some (0, 4, 59) := by decide +kernel
theorem ml_6_42 : mm_ml 6 42 = some (2, 0, 0) := by decide +kernel
theorem ml_6_51 : mm_ml 6 51 = some (0, 2, 45) := by decide +kernel
theorem ml_6_53 : mm_ml 6 53 = some (0, 2, 60) := by decide +kernel
theorem ml_6_56 : mm_ml 6 56 = some (5, 0, 0) := by decide +kernel
theorem ml_6_62 : mm_ml 6 62 = some (0, 2, 61) := by decide +kernel
theorem ml_6_71 : mm_ml 6 71 = some (0, 1, 42) := by decide +kernel
theorem ml_6_75 : mm_ml 6 75 = some (0, 2, 54) := by decide +kernel
theorem ml_6_81 : mm_ml 6 81 = some (0, 5, 63) := by decide +kernel
theorem ml_7_25 : mm_ml 7 25 = some (0, 1, 64) := by decide +kernel
theorem ml_7_29 : mm_ml 7 29 = some (0, 2, 66) := by decide +kernel
theorem ml_7_33 : mm_ml 7 33 = some (1, 2, 71) := by decide +kernel
theorem ml_7_37 : mm_ml 7 37 = some (5, 0, 0) := by decide +kernel
theorem ml_8_21 : mm_ml 8 21 = some (0, 0, 75) := by decide +kernel
theorem ml_8_33 : mm_ml 8 33 = some (0, 2, 69) := by decide +kernel
theorem ml_8_37 : mm_ml 8 37 = some (0, 1, 43) := by decide +kernel
theorem ml_8_43 : mm_ml 8 43 = some (0, 2, 76) := by decide +kernel
theorem ml_8_47 : mm_ml 8 47 = some (0, 2, 45) := by decide +kernel
theorem ml_8_52 : mm_ml 8 52 = some (0, 1, 79) := by decide +kernel
theorem ml_8_56 : mm_ml 8 56 = some (0, 1, 42) := by decide +kernel
theorem ml_8_59 : mm_ml 8 59 = some (0, 2, 80) := by decide +kernel
theorem ml_8_63 : mm_ml 8 63 = some (0, 0, 44) := by decide +kernel
theorem ml_8_67 : mm_ml 8 67 = some (0, 2, 41) := by decide +kernel
theorem ml_8_70 : mm_ml 8 70 = some (1, 2, 84) := by decide +kernel
theorem ml_8_73 : mm_ml 8 73 = some (0, 5, 82) := by decide +kernel
theorem ml_8_77 : mm_ml 8 77 = some (0, 3, 83) := by decide +kernel
theorem ml_8_81 : mm_ml 8 81 = some (2, 0, 0) := by decide +kernel
theorem ml_9_75 : mm_ml 9 75 = some (0, 2, 40) := by decide +kernel
theorem ml_9_83 : mm_ml 9 83 = some (0, 3, 131) := by decide +kernel
theorem ml_9_87 : mm_ml 9 87 = some (0, 2, 65) := by decide +kernel
theorem ml_9_91 : mm_ml 9 91 = some (0, 3, 132) := by decide +kernel
theorem ml_9_95 : mm_ml 9 95 = some (0, 2, 39) := by decide +kernel
theorem ml_9_98 : mm_ml 9 98 = some (0, 2, 47) := by decide +kernel
theorem ml_9_101 : mm_ml 9 101 = some (0, 1, 43) := by decide +kernel
theorem ml_9_115 : mm_ml 9 115 = some (0, 1, 20) := by decide +kernel
theorem ml_9_119 : mm_ml 9 119 = some (0, 0, 21) := by decide +kernel
theorem ml_9_123 : mm_ml 9 123 = some (0, 1, 42) := by decide +kernel
theorem ml_9_126 : mm_ml 9 126 = some (0, 4, 32) := by decide +kernel
theorem ml_9_130 : mm_ml 9 130 = some (0, 1, 135) := by decide +kernel
theorem ml_9_133 : mm_ml 9 133 = some (0, 0, 77) := by decide +kernel
theorem ml_9_136 : mm_ml 9 136 = some (0, 0, 78) := by decide +kernel
theorem ml_9_139 : mm_ml 9 139 = some (0, 2, 80) := by decide +kernel
theorem ml_9_144 : mm_ml 9 144 = some (0, 2, 57) := by decide +kernel
theorem ml_9_154 : mm_ml 9 154 = some (0, 1, 133) := by decide +kernel
theorem ml_9_157 : mm_ml 9 157 = some (0, 3, 81) := by decide +kernel
theorem ml_9_161 : mm_ml 9 161 = some (0, 2, 85) := by decide +kernel
theorem ml_9_164 : mm_ml 9 164 = some (0, 3, 83) := by decide +kernel
theorem ml_9_168 : mm_ml 9 168 = some (0, 2, 86) := by decide +kernel
theorem ml_9_171 : mm_ml 9 171 = some (2, 0, 0) := by decide +kernel
theorem ml_9_176 : mm_ml 9 176 = some (0, 1, 137) := by decide +kernel
theorem ml_9_179 : mm_ml 9 179 = some (0, 5, 82) := by decide +kernel
theorem ml_9_183 : mm_ml 9 183 = some (0, 1, 138) := by decide +kernel
theorem ml_9_186 : mm_ml 9 186 = some (0, 1, 139) := by decide +kernel
theorem ml_9_192 : mm_ml 9 192 = some (0, 3, 74) := by decide +kernel
theorem ml_9_199 : mm_ml 9 199 = some (1, 1, 134) := by decide +kernel
theorem ml_9_204 : mm_ml 9 204 = some (0, 4, 8) := by decide +kernel
theorem ml_9_208 : mm_ml 9 208 = some (0, 2, 10) := by decide +kernel
theorem ml_9_212 : mm_ml 9 212 = some (0, 1, 11) := by decide +kernel
theorem ml_9_216 : mm_ml 9 216 = some (1, 3, 141) := by decide +kernel
theorem ml_9_220 : mm_ml 9 220 = some (0, 2, 12) := by decide +kernel
theorem ml_9_225 : mm_ml 9 225 = some (0, 2, 9) := by decide +kernel
theorem ml_9_228 : mm_ml 9 228 = some (3, 0, 0) := by decide +kernel
theorem ml_9_231 : mm_ml 9 231 = some (0, 2, 13) := by decide +kernel
theorem ml_9_236 : mm_ml 9 236 = some (0, 2, 41) := by decide +kernel
theorem ml_9_244 : mm_ml 9 244 = some (0, 0, 44) := by decide +kernel
theorem ml_9_250 : mm_ml 9 250 = some (0, 1, 136) := by decide +kernel
theorem ml_9_256 : mm_ml 9 256 = some (0, 2, 140) := by decide +kernel
theorem ml_9_259 : mm_ml 9 259 = some (0, 4, 51) := by decide +kernel
theorem ml_9_263 : mm_ml 9 263 = some (0, 2, 62) := by decide +kernel
theorem ml_9_273 : mm_ml 9 273 = some (0, 2, 56) := by decide +kernel
theorem ml_9_277 : mm_ml 9 277 = some (0, 2, 55) := by decide +kernel
theorem ml_9_284 : mm_ml 9 284 = some (0, 1, 14) := by decide +kernel
theorem ml_9_288 : mm_ml 9 288 = some (1, 1, 266) := by decide +kernel
theorem ml_9_296 : mm_ml 9 296 = some (0, 2, 16) := by decide +kernel
theorem ml_9_299 : mm_ml 9 299 = some (0, 3, 17) := by decide +kernel
theorem ml_9_302 : mm_ml 9 302 = some (0, 1, 18) := by decide +kernel
theorem ml_9_309 : mm_ml 9 309 = some (0, 1, 19) := by decide +kernel
theorem ml_9_312 : mm_ml 9 312 = some (0, 0, 49) := by decide +kernel
theorem ml_9_315 : mm_ml 9 315 = some (0, 0, 50) := by decide +kernel
theorem ml_9_318 : mm_ml 9 318 = some (0, 1, 0) := by decide +kernel
theorem ml_9_321 : mm_ml 9 321 = some (0, 3, 3) := by decide +kernel
theorem ml_9_330 : mm_ml 9 330 = some (0, 1, 64) := by decide +kernel
theorem ml_9_336 : mm_ml 9 336 = some (0, 2, 67) := by decide +kernel
theorem ml_9_340 : mm_ml 9 340 = some (0, 3, 68) := by decide +kernel
theorem ml_9_344 : mm_ml 9 344 = some (0, 2, 66) := by decide +kernel
theorem ml_9_347 : mm_ml 9 347 = some (0, 3, 70) := by decide +kernel
theorem ml_9_351 : mm_ml 9 351 = some (0, 2, 69) := by decide +kernel
theorem ml_9_354 : mm_ml 9 354 = some (0, 5, 72) := by decide +kernel
theorem ml_9_364 : mm_ml 9 364 = some (0, 1, 1) := by decide +kernel
theorem ml_9_367 : mm_ml 9 367 = some (1, 2, 2) := by decide +kernel
theorem ml_9_376 : mm_ml 9 376 = some (0, 3, 46) := by decide +kernel
theorem ml_9_379 : mm_ml 9 379 = some (0, 2, 15) := by decide +kernel
theorem ml_9_382 : mm_ml 9 382 = some (0, 3, 73) := by decide +kernel
theorem ml_9_386 : mm_ml 9 386 = some (1, 4, 52) := by decide +kernel
theorem ml_9_389 : mm_ml 9 389 = some (1, 2, 142) := by decide +kernel
theorem ml_10_136 : mm_ml 10 136 = some (1, 3, 143) := by decide +kernel
theorem ml_10_143 : mm_ml 10 143 = some (0, 3, 147) := by decide +kernel
theorem ml_10_147 : mm_ml 10 147 = some (1, 1, 258) := by decide +kernel
theorem ml_10_156 : mm_ml 10 156 = some (0, 2, 150) := by decide +kernel
theorem ml_10_166 : mm_ml 10 166 = some (0, 3, 151) := by decide +kernel
theorem ml_10_170 : mm_ml 10 170 = some (0, 1, 145) := by decide +kernel
theorem ml_10_173 : mm_ml 10 173 = some (1, 1, 146) := by decide +kernel
theorem ml_10_176 : mm_ml 10 176 = some (0, 2, 155) := by decide +kernel
theorem ml_10_180 : mm_ml 10 180 = some (1, 2, 156) := by decide +kernel
theorem ml_10_183 : mm_ml 10 183 = some (0, 3, 152) := by decide +kernel
theorem ml_10_204 : mm_ml 10 204 = some (0, 0, 161) := by decide +kernel
theorem ml_10_207 : mm_ml 10 207 = some (0, 0, 160) := by decide +kernel
theorem ml_10_211 : mm_ml 10 211 = some (0, 2, 162) := by decide +kernel
theorem ml_10_215 : mm_ml 10 215 = some (1, 1, 163) := by decide +kernel
theorem ml_10_219 : mm_ml 10 219 = some (0, 0, 164) := by decide +kernel
theorem ml_10_223 : mm_ml 10 223 = some (0, 0, 166) := by decide +kernel
theorem ml_10_226 : mm_ml 10 226 = some (0, 0, 171) := by decide +kernel
theorem ml_10_229 : mm_ml 10 229 = some (0, 0, 165) := by decide +kernel
theorem ml_10_232 : mm_ml 10 232 = some (0, 0, 167) := by decide +kernel
theorem ml_10_235 : mm_ml 10 235 = some (0, 0, 168) := by decide +kernel
theorem ml_10_238 : mm_ml 10 238 = some (0, 0, 169) := by decide +kernel
theorem ml_10_241 : mm_ml 10 241 = some (0, 0, 170) := by decide +kernel
theorem ml_10_244 : mm_ml 10 244 = some (0, 0, 172) := by decide +kernel
theorem ml_10_247 : mm_ml 10 247 = some (1, 3, 174) := by decide +kernel
theorem ml_10_250 : mm_ml 10 250 = some (0, 3, 175) := by decide +kernel
theorem ml_10_253 : mm_ml 10 253 = some (0, 1, 173) := by decide +kernel
theorem ml_10_260 : mm_ml 10 260 = some (1, 2, 144) := by decide +kernel
theorem ml_10_263 : mm_ml 10 263 = some (0, 1, 176) := by decide +kernel
theorem ml_10_266 : mm_ml 10 266 = some (0, 2, 178) := by decide +kernel
theorem ml_10_272 : mm_ml 10 272 = some (0, 2, 183) := by decide +kernel
theorem ml_10_275 : mm_ml 10 275 = some (0, 2, 182) := by decide +kernel
theorem ml_10_278 : mm_ml 10 278 = some (0, 1, 180) := by decide +kernel
theorem ml_10_281 : mm_ml 10 281 = some (0, 0, 184) := by decide +kernel
theorem ml_10_284 : mm_ml 10 284 = some (0, 2, 181) := by decide +kernel
theorem ml_10_287 : mm_ml 10 287 = some (0, 1, 185) := by decide +kernel
theorem ml_10_291 : mm_ml 10 291 = some (0, 0, 188) := by decide +kernel
theorem ml_10_294 : mm_ml 10 294 = some (0, 0, 187) := by decide +kernel
theorem ml_10_297 : mm_ml 10 297 = some (0, 1, 224) := by decide +kernel
theorem ml_10_303 : mm_ml 10 303 = some (0, 0, 191) := by decide +kernel
theorem ml_10_309 : mm_ml 10 309 = some (0, 2, 190) := by decide +kernel
theorem ml_10_312 : mm_ml 10 312 = some (0, 3, 192) := by decide +kernel
theorem ml_10_315 : mm_ml 10 315 = some (0, 2, 193) := by decide +kernel
theorem ml_10_318 : mm_ml 10 318 = some (0, 2, 195) := by decide +kernel
theorem ml_10_321 : mm_ml 10 321 = some (0, 2, 196) := by decide +kernel
theorem ml_10_324 : mm_ml 10 324 = some (1, 2, 198) := by decide +kernel
theorem ml_10_327 : mm_ml 10 327 = some (0, 1, 186) := by decide +kernel
theorem ml_10_330 : mm_ml 10 330 = some (0, 2, 197) := by decide +kernel
theorem ml_10_333 : mm_ml 10 333 = some (0, 1, 201) := by decide +kernel
theorem ml_10_336 : mm_ml 10 336 = some (0, 3, 200) := by decide +kernel
theorem ml_10_339 : mm_ml 10 339 = some (0, 1, 202) := by decide +kernel
theorem ml_10_342 : mm_ml 10 342 = some (0, 0, 203) := by decide +kernel
theorem ml_10_345 : mm_ml 10 345 = some (0, 1, 206) := by decide +kernel
theorem ml_10_348 : mm_ml 10 348 = some (0, 2, 208) := by decide +kernel
theorem ml_10_351 : mm_ml 10 351 = some (0, 1, 210) := by decide +kernel
theorem ml_10_354 : mm_ml 10 354 = some (0, 2, 214) := by decide +kernel
theorem ml_10_360 : mm_ml 10 360 = some (1, 1, 213) := by decide +kernel
theorem ml_10_365 : mm_ml 10 365 = some (0, 1, 215) := by decide +kernel
theorem ml_10_369 : mm_ml 10 369 = some (0, 0, 216) := by decide +kernel
theorem ml_10_373 : mm_ml 10 373 = some (1, 3, 212) := by decide +kernel
theorem ml_10_377 : mm_ml 10 377 = some (0, 2, 220) := by decide +kernel
theorem ml_10_382 : mm_ml 10 382 = some (1, 2, 222) := by decide +kernel
theorem ml_10_385 : mm_ml 10 385 = some (1, 1, 225) := by decide +kernel
theorem ml_10_388 : mm_ml 10 388 = some (0, 1, 226) := by decide +kernel
theorem ml_10_392 : mm_ml 10 392 = some (0, 2, 232) := by decide +kernel
theorem ml_10_404 : mm_ml 10 404 = some (0, 1, 241) := by decide +kernel
theorem ml_10_407 : mm_ml 10 407 = some (0, 2, 245) := by decide +kernel
theorem ml_10_410 : mm_ml 10 410 = some (1, 2, 244) := by decide +kernel
theorem ml_10_413 : mm_ml 10 413 = some (0, 2, 246) := by decide +kernel
theorem ml_10_416 : mm_ml 10 416 = some (0, 2, 247) := by decide +kernel
theorem ml_10_419 : mm_ml 10 419 = some (0, 2, 248) := by decide +kernel
theorem ml_10_422 : mm_ml 10 422 = some (0, 2, 249) := by decide +kernel
theorem ml_10_425 : mm_ml 10 425 = some (0, 2, 253) := by decide +kernel
theorem ml_10_428 : mm_ml 10 428 = some (0, 2, 251) := by decide +kernel
theorem ml_10_431 : mm_ml 10 431 = some (0, 2, 252) := by decide +kernel
theorem ml_10_434 : mm_ml 10 434 = some (0, 2, 250) := by decide +kernel
theorem ml_10_437 : mm_ml 10 437 = some (0, 2, 254) := by decide +kernel
theorem ml_10_440 : mm_ml 10 440 = some (0, 1, 240) := by decide +kernel
theorem ml_10_443 : mm_ml 10 443 = some (0, 2, 255) := by decide +kernel
theorem ml_10_446 : mm_ml 10 446 = some (0, 2, 261) := by decide +kernel
theorem ml_12_13 : mm_ml 12 13 = some (0, 2, 87) := by decide +kernel
theorem ml_12_17 : mm_ml 12 17 = some (0, 2, 148) := by decide +kernel
theorem ml_12_18 : mm_ml 12 18 = some (0, 3, 88) := by decide +kernel
theorem ml_12_22 : mm_ml 12 22 = some (0, 3, 149) := by decide +kernel
theorem ml_12_23 : mm_ml 12 23 = some (0, 3, 89) := by decide +kernel
theorem ml_12_26 : mm_ml 12 26 = some (0, 3, 157) := by decide +kernel
theorem ml_12_27 : mm_ml 12 27 = some (0, 2, 90) := by decide +kernel
theorem ml_12_30 : mm_ml 12 30 = some (0, 2, 158) := by decide +kernel
theorem ml_12_31 : mm_ml 12 31 = some (0, 1, 91) := by decide +kernel
theorem ml_12_35 : mm_ml 12 35 = some (0, 1, 159) := by decide +kernel
theorem ml_12_36 : mm_ml 12 36 = some (0, 0, 92) := by decide +kernel
theorem ml_12_40 : mm_ml 12 40 = some (0, 0, 177) := by decide +kernel
theorem ml_12_41 : mm_ml 12 41 = some (0, 1, 93) := by decide +kernel
theorem ml_12_44 : mm_ml 12 44 = some (0, 1, 179) := by decide +kernel
theorem ml_12_45 : mm_ml 12 45 = some (0, 2, 94) := by decide +kernel
theorem ml_12_48 : mm_ml 12 48 = some (0, 2, 189) := by decide +kernel
theorem ml_12_49 : mm_ml 12 49 = some (0, 2, 95) := by decide +kernel
theorem ml_12_52 : mm_ml 12 52 = some (0, 2, 194) := by decide +kernel
theorem ml_12_53 : mm_ml 12 53 = some (0, 2, 96) := by decide +kernel
theorem ml_12_56 : mm_ml 12 56 = some (0, 2, 199) := by decide +kernel
theorem ml_12_57 : mm_ml 12 57 = some (0, 2, 97) := by decide +kernel
theorem ml_12_60 : mm_ml 12 60 = some (0, 2, 204) := by decide +kernel
theorem ml_12_61 : mm_ml 12 61 = some (0, 1, 98) := by decide +kernel
theorem ml_12_64 : mm_ml 12 64 = some (0, 1, 205) := by decide +kernel
theorem ml_12_65 : mm_ml 12 65 = some (0, 3, 99) := by decide +kernel
theorem ml_12_68 : mm_ml 12 68 = some (0, 3, 207) := by decide +kernel
theorem ml_12_69 : mm_ml 12 69 = some (0, 3, 100) := by decide +kernel
theorem ml_12_72 : mm_ml 12 72 = some (0, 3, 209) := by decide +kernel
theorem ml_12_73 : mm_ml 12 73 = some (0, 2, 101) := by decide +kernel
theorem ml_12_76 : mm_ml 12 76 = some (0, 2, 211) := by decide +kernel
theorem ml_12_77 : mm_ml 12 77 = some (0, 4, 102) := by decide +kernel
theorem ml_12_81 : mm_ml 12 81 = some (0, 4, 217) := by decide +kernel
theorem ml_12_82 : mm_ml 12 82 = some (0, 3, 103) := by decide +kernel
theorem ml_12_86 : mm_ml 12 86 = some (0, 3, 218) := by decide +kernel
theorem ml_12_87 : mm_ml 12 87 = some (0, 1, 104) := by decide +kernel
theorem ml_12_90 : mm_ml 12 90 = some (0, 1, 219) := by decide +kernel
theorem ml_12_91 : mm_ml 12 91 = some (0, 3, 105) := by decide +kernel
theorem ml_12_94 : mm_ml 12 94 = some (0, 3, 221) := by decide +kernel
theorem ml_12_95 : mm_ml 12 95 = some (0, 4, 106) := by decide +kernel
theorem ml_12_98 : mm_ml 12 98 = some (0, 4, 223) := by decide +kernel
theorem ml_12_99 : mm_ml 12 99 = some (0, 1, 107) := by decide +kernel
theorem ml_12_102 : mm_ml 12 102 = some (0, 1, 227) := by decide +kernel
theorem ml_12_103 : mm_ml 12 103 = some (0, 2, 108) := by decide +kernel
theorem ml_12_106 : mm_ml 12 106 = some (0, 2, 228) := by decide +kernel
theorem ml_12_107 : mm_ml 12 107 = some (0, 1, 109) := by decide +kernel
theorem ml_12_110 : mm_ml 12 110 = some (0, 1, 229) := by decide +kernel
theorem ml_12_111 : mm_ml 12 111 = some (0, 1, 110) := by decide +kernel
theorem ml_12_114 : mm_ml 12 114 = some (0, 1, 230) := by decide +kernel
theorem ml_12_115 : mm_ml 12 115 = some (0, 4, 111) := by decide +kernel
theorem ml_12_119 : mm_ml 12 119 = some (0, 4, 231) := by decide +kernel
theorem ml_12_120 : mm_ml 12 120 = some (0, 1, 112) := by decide +kernel
theorem ml_12_123 : mm_ml 12 123 = some (0, 1, 233) := by decide +kernel
theorem ml_12_124 : mm_ml 12 124 = some (0, 1, 113) := by decide +kernel
theorem ml_12_127 : mm_ml 12 127 = some (0, 1, 234) := by decide +kernel
theorem ml_12_128 : mm_ml 12 128 = some (0, 1, 114) := by decide +kernel
theorem ml_12_131 : mm_ml 12 131 = some (0, 1, 235) := by decide +kernel
theorem ml_12_132 : mm_ml 12 132 = some (0, 2, 115) := by decide +kernel
theorem ml_12_135 : mm_ml 12 135 = some (0, 2, 236) := by decide +kernel
theorem ml_12_136 : mm_ml 12 136 = some (0, 1, 116) := by decide +kernel
theorem ml_12_139 : mm_ml 12 139 = some (0, 1, 237) := by decide +kernel
theorem ml_12_140 : mm_ml 12 140 = some (0, 0, 117) := by decide +kernel
theorem ml_12_143 : mm_ml 12 143 = some (0, 0, 238) := by decide +kernel
theorem ml_12_144 : mm_ml 12 144 = some (0, 0, 118) := by decide +kernel
theorem ml_12_147 : mm_ml 12 147 = some (0, 0, 239) := by decide +kernel
theorem ml_12_148 : mm_ml 12 148 = some (0, 0, 119) := by decide +kernel
theorem ml_12_151 : mm_ml 12 151 = some (0, 0, 153) := by decide +kernel
theorem ml_12_152 : mm_ml 12 152 = some (0, 0, 120) := by decide +kernel
theorem ml_12_155 : mm_ml 12 155 = some (0, 0, 154) := by decide +kernel
theorem ml_12_156 : mm_ml 12 156 = some (0, 1, 121) := by decide +kernel
theorem ml_12_159 : mm_ml 12 159 = some (0, 1, 243) := by decide +kernel
theorem ml_12_160 : mm_ml 12 160 = some (0, 3, 122) := by decide +kernel
theorem ml_12_163 : mm_ml 12 163 = some (0, 3, 256) := by decide +kernel
theorem ml_12_164 : mm_ml 12 164 = some (0, 1, 123) := by decide +kernel
theorem ml_12_167 : mm_ml 12 167 = some (0, 1, 242) := by decide +kernel
theorem ml_12_168 : mm_ml 12 168 = some (0, 2, 124) := by decide +kernel
theorem ml_12_171 : mm_ml 12 171 = some (0, 2, 259) := by decide +kernel
theorem ml_12_172 : mm_ml 12 172 = some (0, 3, 125) := by decide +kernel
theorem ml_12_175 : mm_ml 12 175 = some (0, 3, 260) := by decide +kernel
theorem ml_12_178 : mm_ml 12 178 = some (0, 3, 126) := by decide +kernel
theorem ml_12_182 : mm_ml 12 182 = some (0, 3, 262) := by decide +kernel
theorem ml_12_183 : mm_ml 12 183 = some (0, 2, 127) := by decide +kernel
theorem ml_12_187 : mm_ml 12 187 = some (0, 2, 263) := by decide +kernel
theorem ml_12_188 : mm_ml 12 188 = some (0, 5, 128) := by decide +kernel
theorem ml_12_192 : mm_ml 12 192 = some (0, 5, 264) := by decide +kernel
theorem ml_12_193 : mm_ml 12 193 = some (0, 2, 129) := by decide +kernel
theorem ml_12_196 : mm_ml 12 196 = some (0, 2, 265) := by decide +kernel
theorem ml_12_197 : mm_ml 12 197 = some (0, 1, 130) := by decide +kernel
theorem ml_12_200 : mm_ml 12 200 = some (0, 1, 257) := by decide +kernel
theorem k266 : mm_k 266 = mJ6_bitCount_0f7a4 := rfl
theorem k0 : mm_k 0 = mX0_add := rfl
theorem k2 : mm_k 2 = mX0_isUnder := rfl
theorem k1 : mm_k 1 = mX0_kindOf := rfl
theorem k4 : mm_k 4 = mX0_own := rfl
theorem k3 : mm_k 3 = mX0_perform := rfl
theorem k5 : mm_k 5 = mX0_runFrom := rfl
theorem k6 : mm_k 6 = mX0_runOfWord := rfl
theorem k7 : mm_k 7 = mX0_runUnderWord := rfl
theorem k256 : mm_k 256 = mX10_act := rfl
theorem k147 : mm_k 147 = mX10_addPost := rfl
theorem k162 : mm_k 162 = mX10_addStep := rfl
theorem k144 : mm_k 144 = mX10_apart := rfl
theorem k198 : mm_k 198 = mX10_arePost := rfl
theorem k225 : mm_k 225 = mX10_areShelves := rfl
theorem k212 : mm_k 212 = mX10_asPart := rfl
theorem k236 : mm_k 236 = mX10_ask := rfl
theorem k182 : mm_k 182 = mX10_at := rfl
theorem k239 : mm_k 239 = mX10_back := rfl
theorem k197 : mm_k 197 = mX10_bitsIn := rfl
theorem k243 : mm_k 243 = mX10_body := rfl
theorem k170 : mm_k 170 = mX10_both := rfl
theorem k233 : mm_k 233 = mX10_change := rfl
theorem k152 : mm_k 152 = mX10_changes := rfl
theorem k222 : mm_k 222 = mX10_choose := rfl
theorem k169 : mm_k 169 = mX10_compared := rfl
theorem k257 : mm_k 257 = mX10_count := rfl
theorem k183 : mm_k 183 = mX10_distance := rfl
theorem k231 : mm_k 231 = mX10_drawn := rfl
theorem k171 : mm_k 171 = mX10_either := rfl
theorem k263 : mm_k 263 = mX10_element := rfl
theorem k161 : mm_k 161 = mX10_faulty := rfl
theorem k159 : mm_k 159 = mX10_feed := rfl
theorem k165 : mm_k 165 = mX10_figure := rfl
theorem k193 : mm_k 193 = mX10_findRoutes := rfl
theorem k211 : mm_k 211 = mX10_first := rfl
theorem k232 : mm_k 232 = mX10_getsWord := rfl
theorem k176 : mm_k 176 = mX10_gives := rfl
theorem k184 : mm_k 184 = mX10_goRoute := rfl
theorem k192 : mm_k 192 = mX10_goRoutes := rfl
theorem k223 : mm_k 223 = mX10_guess := rfl
theorem k250 : mm_k 250 = mX10_hearing := rfl
theorem k189 : mm_k 189 = mX10_hears := rfl
theorem k253 : mm_k 253 = mX10_holding := rfl
theorem k205 : mm_k 205 = mX10_holdsFor := rfl
theorem k203 : mm_k 203 = mX10_homeMany := rfl
theorem k238 : mm_k 238 = mX10_image := rfl
theorem k143 : mm_k 143 = mX10_in := rfl
theorem k240 : mm_k 240 = mX10_isBody := rfl
theorem k202 : mm_k 202 = mX10_isHome := rfl
theorem k220 : mm_k 220 = mX10_isHomeBy := rfl
theorem k200 : mm_k 200 = mX10_isLetIn := rfl
theorem k196 : mm_k 196 = mX10_isNewIn := rfl
theorem k195 : mm_k 195 = mX10_isOldIn := rfl
theorem k155 : mm_k 155 = mX10_isOne := rfl
theorem k213 : mm_k 213 = mX10_isPart := rfl
theorem k145 : mm_k 145 = mX10_isPost := rfl
theorem k208 : mm_k 208 = mX10_isSafe := rfl
theorem k258 : mm_k 258 = mX10_isShelf := rfl
theorem k244 : mm_k 244 = mX10_isUnder := rfl
theorem k146 : mm_k 146 = mX10_isWord := rfl
theorem k227 : mm_k 227 = mX10_judge := rfl
theorem k259 : mm_k 259 = mX10_keep := rfl
theorem k191 : mm_k 191 = mX10_keepRoute := rfl
theorem k201 : mm_k 201 = mX10_knows := rfl
theorem k187 : mm_k 187 = mX10_latest := rfl
theorem k249 : mm_k 249 = mX10_latherHears := rfl
theorem k177 : mm_k 177 = mX10_law := rfl
theorem k226 : mm_k 226 = mX10_layBoth := rfl
theorem k186 : mm_k 186 = mX10_layOr := rfl
theorem k185 : mm_k 185 = mX10_layRoute := rfl
theorem k151 : mm_k 151 = mX10_lays := rfl
theorem k237 : mm_k 237 = mX10_led := rfl
theorem k199 : mm_k 199 = mX10_letsIn := rfl
theorem k172 : mm_k 172 = mX10_line := rfl
theorem k160 : mm_k 160 = mX10_look := rfl
theorem k156 : mm_k 156 = mX10_mayBe := rfl
theorem k157 : mm_k 157 = mX10_mend := rfl
theorem k190 : mm_k 190 = mX10_metRoute := rfl
theorem k178 : mm_k 178 = mX10_mishear := rfl
theorem k179 : mm_k 179 = mX10_mishears := rfl
theorem k163 : mm_k 163 = mX10_nameOf := rfl
theorem k230 : mm_k 230 = mX10_oddWord := rfl
theorem k221 : mm_k 221 = mX10_odds := rfl
theorem k158 : mm_k 158 = mX10_of := rfl
theorem k216 : mm_k 216 = mX10_ofAll := rfl
theorem k164 : mm_k 164 = mX10_opens := rfl
theorem k166 : mm_k 166 = mX10_operand := rfl
theorem k206 : mm_k 206 = mX10_overheard := rfl
theorem k204 : mm_k 204 = mX10_patrol := rfl
theorem k180 : mm_k 180 = mX10_placeOf := rfl
theorem k248 : mm_k 248 = mX10_plainHears := rfl
theorem k251 : mm_k 251 = mX10_plainHolds := rfl
theorem k245 : mm_k 245 = mX10_plainSays := rfl
theorem k254 : mm_k 254 = mX10_plainTells := rfl
theorem k148 : mm_k 148 = mX10_post := rfl
theorem k149 : mm_k 149 = mX10_posts := rfl
theorem k167 : mm_k 167 = mX10_product := rfl
theorem k262 : mm_k 262 = mX10_put := rfl
theorem k210 : mm_k 210 = mX10_putFirst := rfl
theorem k241 : mm_k 241 = mX10_ran := rfl
theorem k173 : mm_k 173 = mX10_readText := rfl
theorem k154 : mm_k 154 = mX10_redo := rfl
theorem k217 : mm_k 217 = mX10_right := rfl
theorem k215 : mm_k 215 = mX10_rightAll := rfl
theorem k214 : mm_k 214 = mX10_rightOf := rfl
theorem k194 : mm_k 194 = mX10_route := rfl
theorem k260 : mm_k 260 = mX10_row := rfl
theorem k181 : mm_k 181 = mX10_rowFault := rfl
theorem k252 : mm_k 252 = mX10_runnerHolds := rfl
theorem k209 : mm_k 209 = mX10_safe := rfl
theorem k247 : mm_k 247 = mX10_saying := rfl
theorem k264 : mm_k 264 = mX10_shift := rfl
theorem k235 : mm_k 235 = mX10_stay := rfl
theorem k207 : mm_k 207 = mX10_stranger := rfl
theorem k246 : mm_k 246 = mX10_strangerSays := rfl
theorem k168 : mm_k 168 = mX10_sum := rfl
theorem k265 : mm_k 265 = mX10_taken := rfl
theorem k234 : mm_k 234 = mX10_tell := rfl
theorem k255 : mm_k 255 = mX10_telling := rfl
theorem k188 : mm_k 188 = mX10_together := rfl
theorem k242 : mm_k 242 = mX10_trace := rfl
theorem k218 : mm_k 218 = mX10_twice := rfl
theorem k174 : mm_k 174 = mX10_twoOf := rfl
theorem k153 : mm_k 153 = mX10_undo := rfl
theorem k150 : mm_k 150 = mX10_valueAt := rfl
theorem k229 : mm_k 229 = mX10_when := rfl
theorem k228 : mm_k 228 = mX10_which := rfl
theorem k261 : mm_k 261 = mX10_whyNoPlace := rfl
theorem k219 : mm_k 219 = mX10_word := rfl
theorem k175 : mm_k 175 = mX10_worked := rfl
theorem k224 : mm_k 224 = mX10_wrongSaid := rfl
theorem k11 : mm_k 11 = mX1_belowAll := rfl
theorem k13 : mm_k 13 = mX1_bestSet := rfl
theorem k14 : mm_k 14 = mX1_drawNight := rfl
theorem k10 : mm_k 10 = mX1_ofAll := rfl
theorem k9 : mm_k 9 = mX1_ofOne := rfl
theorem k12 : mm_k 12 = mX1_together := rfl
theorem k8 : mm_k 8 = mX1_weigh := rfl
theorem k17 : mm_k 17 = mX2_answer := rfl
theorem k18 : mm_k 18 = mX2_depict := rfl
theorem k15 : mm_k 15 = mX2_forget := rfl
theorem k16 : mm_k 16 = mX2_give := rfl
theorem k19 : mm_k 19 = mX2_layBack := rfl
theorem k28 : mm_k 28 = mX3_add := rfl
theorem k35 : mm_k 35 = mX3_doStep := rfl
theorem k29 : mm_k 29 = mX3_isDigit := rfl
theorem k30 : mm_k 30 = mX3_isName := rfl
theorem k31 : mm_k 31 = mX3_isSign := rfl
theorem k36 : mm_k 36 = mX3_joined := rfl
theorem k32 : mm_k 32 = mX3_mishearing := rfl
theorem k26 : mm_k 26 = mX3_next := rfl
theorem k38 : mm_k 38 = mX3_pop := rfl
theorem k21 : mm_k 21 = mX3_proclaim := rfl
theorem k37 : mm_k 37 = mX3_push := rfl
theorem k23 : mm_k 23 = mX3_readExpression := rfl
theorem k25 : mm_k 25 = mX3_readNumber := rfl
theorem k24 : mm_k 24 = mX3_readOperand := rfl
theorem k22 : mm_k 22 = mX3_readText := rfl
theorem k27 : mm_k 27 = mX3_skips := rfl
theorem k20 : mm_k 20 = mX3_take := rfl
theorem k34 : mm_k 34 = mX3_valueOf := rfl
theorem k33 : mm_k 33 = mX3_workOut := rfl
theorem k46 : mm_k 46 = mX4_addPost := rfl
theorem k45 : mm_k 45 = mX4_apart := rfl
theorem k44 : mm_k 44 = mX4_areAlike := rfl
theorem k47 : mm_k 47 = mX4_become := rfl
theorem k39 : mm_k 39 = mX4_cellOf := rfl
theorem k50 : mm_k 50 = mX4_doAgain := rfl
theorem k41 : mm_k 41 = mX4_get := rfl
theorem k43 : mm_k 43 = mX4_isPost := rfl
theorem k48 : mm_k 48 = mX4_makeRoom := rfl
theorem k40 : mm_k 40 = mX4_mayBe := rfl
theorem k49 : mm_k 49 = mX4_takeBack := rfl
theorem k42 : mm_k 42 = mX4_the := rfl
theorem k54 : mm_k 54 = mX5_fits := rfl
theorem k55 : mm_k 55 = mX5_fitsAll := rfl
theorem k56 : mm_k 56 = mX5_leastStart := rfl
theorem k52 : mm_k 52 = mX5_mayBe := rfl
theorem k53 : mm_k 53 = mX5_narrow := rfl
theorem k51 : mm_k 51 = mX5_read := rfl
theorem k62 : mm_k 62 = mX6_countWays := rfl
theorem k57 : mm_k 57 = mX6_findBest := rfl
theorem k59 : mm_k 59 = mX6_goOn := rfl
theorem k60 : mm_k 60 = mX6_leastToCome := rfl
theorem k58 : mm_k 58 = mX6_measure := rfl
theorem k61 : mm_k 61 = mX6_stepTo := rfl
theorem k63 : mm_k 63 = mX6_tryOn := rfl
theorem k67 : mm_k 67 = mX7_hold := rfl
theorem k64 : mm_k 64 = mX7_isShelf := rfl
theorem k68 : mm_k 68 = mX7_layRow := rfl
theorem k72 : mm_k 72 = mX7_move := rfl
theorem k71 : mm_k 71 = mX7_narrowed := rfl
theorem k69 : mm_k 69 = mX7_read := rfl
theorem k65 : mm_k 65 = mX7_refusal := rfl
theorem k66 : mm_k 66 = mX7_refusalOfPlace := rfl
theorem k70 : mm_k 70 = mX7_write := rfl
theorem k82 : mm_k 82 = mX8_admits := rfl
theorem k79 : mm_k 79 = mX8_behindStart := rfl
theorem k75 : mm_k 75 = mX8_clear := rfl
theorem k76 : mm_k 76 = mX8_goTo := rfl
theorem k83 : mm_k 83 = mX8_goesIn := rfl
theorem k80 : mm_k 80 = mX8_hearing := rfl
theorem k86 : mm_k 86 = mX8_holdsNeeded := rfl
theorem k84 : mm_k 84 = mX8_known := rfl
theorem k77 : mm_k 77 = mX8_latest := rfl
theorem k81 : mm_k 81 = mX8_lets := rfl
theorem k85 : mm_k 85 = mX8_patrolsIn := rfl
theorem k73 : mm_k 73 = mX8_readFrom := rfl
theorem k74 : mm_k 74 = mX8_takeWithFirst := rfl
theorem k78 : mm_k 78 = mX8_together := rfl
theorem k122 : mm_k 122 = mX9_act := rfl
theorem k115 : mm_k 115 = mX9_ask := rfl
theorem k118 : mm_k 118 = mX9_back := rfl
theorem k121 : mm_k 121 = mX9_body := rfl
theorem k112 : mm_k 112 = mX9_change := rfl
theorem k132 : mm_k 132 = mX9_comesFromRow := rfl
theorem k142 : mm_k 142 = mX9_commonDivisor := rfl
theorem k130 : mm_k 130 = mX9_count := rfl
theorem k111 : mm_k 111 = mX9_drawn := rfl
theorem k127 : mm_k 127 = mX9_element := rfl
theorem k131 : mm_k 131 = mX9_enlist := rfl
theorem k91 : mm_k 91 = mX9_feed := rfl
theorem k101 : mm_k 101 = mX9_first := rfl
theorem k106 : mm_k 106 = mX9_guess := rfl
theorem k94 : mm_k 94 = mX9_hears := rfl
theorem k98 : mm_k 98 = mX9_holdsFor := rfl
theorem k117 : mm_k 117 = mX9_image := rfl
theorem k134 : mm_k 134 = mX9_isPart := rfl
theorem k133 : mm_k 133 = mX9_isPlaceAndMinute := rfl
theorem k140 : mm_k 140 = mX9_isSo := rfl
theorem k107 : mm_k 107 = mX9_judge := rfl
theorem k124 : mm_k 124 = mX9_keep := rfl
theorem k92 : mm_k 92 = mX9_law := rfl
theorem k135 : mm_k 135 = mX9_layOut := rfl
theorem k136 : mm_k 136 = mX9_layOutBoth := rfl
theorem k116 : mm_k 116 = mX9_led := rfl
theorem k96 : mm_k 96 = mX9_letsIn := rfl
theorem k89 : mm_k 89 = mX9_mend := rfl
theorem k93 : mm_k 93 = mX9_mishears := rfl
theorem k110 : mm_k 110 = mX9_oddWord := rfl
theorem k105 : mm_k 105 = mX9_odds := rfl
theorem k90 : mm_k 90 = mX9_of := rfl
theorem k137 : mm_k 137 = mX9_overheard := rfl
theorem k141 : mm_k 141 = mX9_partOf := rfl
theorem k97 : mm_k 97 = mX9_patrol := rfl
theorem k87 : mm_k 87 = mX9_post := rfl
theorem k88 : mm_k 88 = mX9_posts := rfl
theorem k126 : mm_k 126 = mX9_put := rfl
theorem k120 : mm_k 120 = mX9_redo := rfl
theorem k102 : mm_k 102 = mX9_right := rfl
theorem k95 : mm_k 95 = mX9_route := rfl
theorem k125 : mm_k 125 = mX9_row := rfl
theorem k100 : mm_k 100 = mX9_safe := rfl
theorem k138 : mm_k 138 = mX9_safeFromNew := rfl
theorem k139 : mm_k 139 = mX9_safeFromOld := rfl
theorem k128 : mm_k 128 = mX9_shift := rfl
theorem k114 : mm_k 114 = mX9_stay := rfl
theorem k99 : mm_k 99 = mX9_stranger := rfl
theorem k129 : mm_k 129 = mX9_taken := rfl
theorem k113 : mm_k 113 = mX9_tell := rfl
theorem k123 : mm_k 123 = mX9_trace := rfl
theorem k103 : mm_k 103 = mX9_twice := rfl
theorem k119 : mm_k 119 = mX9_undo := rfl
theorem k109 : mm_k 109 = mX9_when := rfl
theorem k108 : mm_k 108 = mX9_which := rfl
theorem k104 : mm_k 104 = mX9_word := rfl
theorem cI_1_57 : mm_cI 1 57 = some 1103515245 := by decide +kernel
theorem cI_2_40 : mm_cI 2 40 = some (-2000000000) := by decide +kernel
theorem cI_5_18 : mm_cI 5 18 = some (-1000000) := by decide +kernel
theorem cI_5_19 : mm_cI 5 19 = some 1000000 := by decide +kernel
theorem cI_6_25 : mm_cI 6 25 = some 1000000 := by decide +kernel
theorem cI_8_51 : mm_cI 8 51 = some 1000000 := by decide +kernel
theorem cI_9_143 : mm_cI 9 143 = some 1000000 := by decide +kernel
theorem cI_10_391 : mm_cI 10 391 = some 1103515245 := by decide +kernel
theorem cI_11_265 : mm_cI 11 265 = some 1431655765 := by decide +kernel
theorem cI_11_266 : mm_cI 11 266 = some 858993459 := by decide +kernel
theorem cI_11_267 : mm_cI 11 267 = some 252645135 := by decide +kernel
theorem cL_1_40 : mm_cL 1 40 = some 144 := by decide +kernel
theorem cL_1_42 : mm_cL 1 42 = some (-1) := by decide +kernel
theorem cL_9_202 : mm_cL 9 202 = some (-9223372036854775808) := by decide +kernel
theorem cL_9_223 : mm_cL 9 223 = some 144 := by decide +kernel
theorem cL_9_234 : mm_cL 9 234 = some (-1) := by decide +kernel
theorem cL_9_242 : mm_cL 9 242 = some 12 := by decide +kernel
theorem cL_9_248 : mm_cL 9 248 = some 10 := by decide +kernel
theorem cL_10_151 : mm_cL 10 151 = some 2 := by decide +kernel
theorem cL_10_358 : mm_cL 10 358 = some 144 := by decide +kernel
theorem cL_10_363 : mm_cL 10 363 = some (-9223372036854775808) := by decide +kernel
theorem cL_10_380 : mm_cL 10 380 = some 12 := by decide +kernel
theorem cL_12_176 : mm_cL 12 176 = some 4294967295 := by decide +kernel
theorem st_0_22 : mm_st 0 22 = some 104 := by decide +kernel
theorem st_0_43 : mm_st 0 43 = some 105 := by decide +kernel
theorem st_4_24 : mm_st 4 24 = some 100 := by decide +kernel
theorem st_4_31 : mm_st 4 31 = some 101 := by decide +kernel
theorem st_4_34 : mm_st 4 34 = some 102 := by decide +kernel
theorem st_4_37 : mm_st 4 37 = some 103 := by decide +kernel
