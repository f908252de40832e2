theorem mk_0 : ∀ q ∈ mt_0, decode (ma_b 0) q.1 = .ok (q.2.1, q.2.2.1) ∧ ma_ck 0 q.2.1 q.2.2.1 q.2.2.2 = true := by decide +kernel
theorem mk_1 : ∀ q ∈ mt_1, decode (ma_b 1) q.1 = .ok (q.2.1, q.2.2.1) ∧ ma_ck 1 q.2.1 q.2.2.1 q.2.2.2 = true := by decide +kernel
theorem mk_2 : ∀ q ∈ mt_2, decode (ma_b 2) q.1 = .ok (q.2.1, q.2.2.1) ∧ ma_ck 2 q.2.1 q.2.2.1 q.2.2.2 = true := by decide +kernel
theorem mk_3 : ∀ q ∈ mt_3, decode (ma_b 3) q.1 = .ok (q.2.1, q.2.2.1) ∧ ma_ck 3 q.2.1 q.2.2.1 q.2.2.2 = true := by decide +kernel
theorem mk_4 : ∀ q ∈ mt_4, decode (ma_b 4) q.1 = .ok (q.2.1, q.2.2.1) ∧ ma_ck 4 q.2.1 q.2.2.1 q.2.2.2 = true := by decide +kernel
theorem mk_5 : ∀ q ∈ mt_5, decode (ma_b 5) q.1 = .ok (q.2.1, q.2.2.1) ∧ ma_ck 5 q.2.1 q.2.2.1 q.2.2.2 = true := by decide +kernel
theorem mk_6 : ∀ q ∈ mt_6, decode (ma_b 6) q.1 = .ok (q.2.1, q.2.2.1) ∧ ma_ck 6 q.2.1 q.2.2.1 q.2.2.2 = true := by decide +kernel
theorem mk_7 : ∀ q ∈ mt_7, decode (ma_b 7) q.1 = .ok (q.2.1, q.2.2.1) ∧ ma_ck 7 q.2.1 q.2.2.1 q.2.2.2 = true := by decide +kernel
theorem mk_8 : ∀ q ∈ mt_8, decode (ma_b 8) q.1 = .ok (q.2.1, q.2.2.1) ∧ ma_ck 8 q.2.1 q.2.2.1 q.2.2.2 = true := by decide +kernel
theorem mk_9 : ∀ q ∈ mt_9, decode (ma_b 9) q.1 = .ok (q.2.1, q.2.2.1) ∧ ma_ck 9 q.2.1 q.2.2.1 q.2.2.2 = true := by decide +kernel
theorem mk_10 : ∀ q ∈ mt_10, decode (ma_b 10) q.1 = .ok (q.2.1, q.2.2.1) ∧ ma_ck 10 q.2.1 q.2.2.1 q.2.2.2 = true := by decide +kernel
theorem mk_11 : ∀ q ∈ mt_11, decode (ma_b 11) q.1 = .ok (q.2.1, q.2.2.1) ∧ ma_ck 11 q.2.1 q.2.2.1 q.2.2.2 = true := by decide +kernel
theorem mk_12 : ∀ q ∈ mt_12, decode (ma_b 12) q.1 = .ok (q.2.1, q.2.2.1) ∧ ma_ck 12 q.2.1 q.2.2.1 q.2.2.2 = true := by decide +kernel
theorem mk_13 : ∀ q ∈ mt_13, decode (ma_b 13) q.1 = .ok (q.2.1, q.2.2.1) ∧ ma_ck 13 q.2.1 q.2.2.1 q.2.2.2 = true := by decide +kernel
theorem mk_14 : ∀ q ∈ mt_14, decode (ma_b 14) q.1 = .ok (q.2.1, q.2.2.1) ∧ ma_ck 14 q.2.1 q.2.2.1 q.2.2.2 = true := by decide +kernel
theorem mk_15 : ∀ q ∈ mt_15, decode (ma_b 15) q.1 = .ok (q.2.1, q.2.2.1) ∧ ma_ck 15 q.2.1 q.2.2.1 q.2.2.2 = true := by decide +kernel
theorem mk_16 : ∀ q ∈ mt_16, decode (ma_b 16) q.1 = .ok (q.2.1, q.2.2.1) ∧ ma_ck 16 q.2.1 q.2.2.1 q.2.2.2 = true := by decide +kernel
theorem mk_17 : ∀ q ∈ mt_17, decode (ma_b 17) q.1 = .ok (q.2.1, q.2.2.1) ∧ ma_ck 17 q.2.1 q.2.2.1 q.2.2.2 = true := by decide +kernel
theorem mk_18 : ∀ q ∈ mt_18, decode (ma_b 18) q.1 = .ok (q.2.1, q.2.2.1) ∧ ma_ck 18 q.2.1 q.2.2.1 q.2.2.2 = true := by decide +kernel
theorem mk_19 : ∀ q ∈ mt_19, decode (ma_b 19) q.1 = .ok (q.2.1, q.2.2.1) ∧ ma_ck 19 q.2.1 q.2.2.1 q.2.2.2 = true := by decide +kernel
theorem mk_20 : ∀ q ∈ mt_20, decode (ma_b 20) q.1 = .ok (q.2.1, q.2.2.1) ∧ ma_ck 20 q.2.1 q.2.2.1 q.2.2.2 = true := by decide +kernel
theorem mk_21 : ∀ q ∈ mt_21, decode (ma_b 21) q.1 = .ok (q.2.1, q.2.2.1) ∧ ma_ck 21 q.2.1 q.2.2.1 q.2.2.2 = true := by decide +kernel
theorem mk_22 : ∀ q ∈ mt_22, decode (ma_b 22) q.1 = .ok (q.2.1, q.2.2.1) ∧ ma_ck 22 q.2.1 q.2.2.1 q.2.2.2 = true := by decide +kernel
theorem mk_23 : ∀ q ∈ mt_23, decode (ma_b 23) q.1 = .ok (q.2.1, q.2.2.1) ∧ ma_ck 23 q.2.1 q.2.2.1 q.2.2.2 = true := by decide +kernel
theorem mk_24 : ∀ q ∈ mt_24, decode (ma_b 24) q.1 = .ok (q.2.1, q.2.2.1) ∧ ma_ck 24 q.2.1 q.2.2.1 q.2.2.2 = true := by decide +kernel
theorem mk_25 : ∀ q ∈ mt_25, decode (ma_b 25) q.1 = .ok (q.2.1, q.2.2.1) ∧ ma_ck 25 q.2.1 q.2.2.1 q.2.2.2 = true := by decide +kernel
theorem mk_26 : ∀ q ∈ mt_26, decode (ma_b 26) q.1 = .ok (q.2.1, q.2.2.1) ∧ ma_ck 26 q.2.1 q.2.2.1 q.2.2.2 = true := by decide +kernel
theorem mk_27 : ∀ q ∈ mt_27, decode (ma_b 27) q.1 = .ok (q.2.1, q.2.2.1) ∧ ma_ck 27 q.2.1 q.2.2.1 q.2.2.2 = true := by decide +kernel
theorem mk_28 : ∀ q ∈ mt_28, decode (ma_b 28) q.1 = .ok (q.2.1, q.2.2.1) ∧ ma_ck 28 q.2.1 q.2.2.1 q.2.2.2 = true := by decide +kernel
theorem mk_29 : ∀ q ∈ mt_29, decode (ma_b 29) q.1 = .ok (q.2.1, q.2.2.1) ∧ ma_ck 29 q.2.1 q.2.2.1 q.2.2.2 = true := by decide +kernel
theorem mk_30 : ∀ q ∈ mt_30, decode (ma_b 30) q.1 = .ok (q.2.1, q.2.2.1) ∧ ma_ck 30 q.2.1 q.2.2.1 q.2.2.2 = true := by decide +kernel
theorem mk_31 : ∀ q ∈ mt_31, decode (ma_b 31) q.1 = .ok (q.2.1, q.2.2.1) ∧ ma_ck 31 q.2.1 q.2.2.1 q.2.2.2 = true := by decide +kernel
theorem mk_32 : ∀ q ∈ mt_32, decode (ma_b 32) q.1 = .ok (q.2.1, q.2.2.1) ∧ ma_ck 32 q.2.1 q.2.2.1 q.2.2.2 = true := by decide +kernel
theorem mk_33 : ∀ q ∈ mt_33, decode (ma_b 33) q.1 = .ok (q.2.1, q.2.2.1) ∧ ma_ck 33 q.2.1 q.2.2.1 q.2.2.2 = true := by decide +kernel
theorem mk_34 : ∀ q ∈ mt_34, decode (ma_b 34) q.1 = .ok (q.2.1, q.2.2.1) ∧ ma_ck 34 q.2.1 q.2.2.1 q.2.2.2 = true := by decide +kernel
theorem mk_35 : ∀ q ∈ mt_35, decode (ma_b 35) q.1 = .ok (q.2.1, q.2.2.1) ∧ ma_ck 35 q.2.1 q.2.2.1 q.2.2.2 = true := by decide +kernel
theorem mk_36 : ∀ q ∈ mt_36, decode (ma_b 36) q.1 = .ok (q.2.1, q.2.2.1) ∧ ma_ck 36 q.2.1 q.2.2.1 q.2.2.2 = true := by decide +kernel
theorem mk_37 : ∀ q ∈ mt_37, decode (ma_b 37) q.1 = .ok (q.2.1, q.2.2.1) ∧ ma_ck 37 q.2.1 q.2.2.1 q.2.2.2 = true := by decide +kernel
theorem mk_38 : ∀ q ∈ mt_38, decode (ma_b 38) q.1 = .ok (q.2.1, q.2.2.1) ∧ ma_ck 38 q.2.1 q.2.2.1 q.2.2.2 = true := by decide +kernel
theorem mk_39 : ∀ q ∈ mt_39, decode (ma_b 39) q.1 = .ok (q.2.1, q.2.2.1) ∧ ma_ck 39 q.2.1 q.2.2.1 q.2.2.2 = true := by decide +kernel
theorem mk_40 : ∀ q ∈ mt_40, decode (ma_b 40) q.1 = .ok (q.2.1, q.2.2.1) ∧ ma_ck 40 q.2.1 q.2.2.1 q.2.2.2 = true := by decide +kernel
theorem mk_41 : ∀ q ∈ mt_41, decode (ma_b 41) q.1 = .ok (q.2.1, q.2.2.1) ∧ ma_ck 41 q.2.1 q.2.2.1 q.2.2.2 = true := by decide +kernel
theorem mk_42 : ∀ q ∈ mt_42, decode (ma_b 42) q.1 = .ok (q.2.1, q.2.2.1) ∧ ma_ck 42 q.2.1 q.2.2.1 q.2.2.2 = true := by decide +kernel
theorem mk_43 : ∀ q ∈ mt_43, decode (ma_b 43) q.1 = .ok (q.2.1, q.2.2.1) ∧ ma_ck 43 q.2.1 q.2.2.1 q.2.2.2 = true := by decide +kernel
theorem mk_44 : ∀ q ∈ mt_44, decode (ma_b 44) q.1 = .ok (q.2.1, q.2.2.1) ∧ ma_ck 44 q.2.1 q.2.2.1 q.2.2.2 = true := by decide +kernel
theorem mk_45 : ∀ q ∈ mt_45, decode (ma_b 45) q.1 = .ok (q.2.1, q.2.2.1) ∧ ma_ck 45 q.2.1 q.2.2.1 q.2.2.2 = true := by decide +kernel
theorem mk_46 : ∀ q ∈ mt_46, decode (ma_b 46) q.1 = .ok (q.2.1, q.2.2.1) ∧ ma_ck 46 q.2.1 q.2.2.1 q.2.2.2 = true := by decide +kernel
theorem mk_47 : ∀ q ∈ mt_47, decode (ma_b 47) q.1 = .ok (q.2.1, q.2.2.1) ∧ ma_ck 47 q.2.1 q.2.2.1 q.2.2.2 = true := by decide +kernel
theorem mk_48 : ∀ q ∈ mt_48, decode (ma_b 48) q.1 = .ok (q.2.1, q.2.2.1) ∧ ma_ck 48 q.2.1 q.2.2.1 q.2.2.2 = true := by decide +kernel
theorem mk_49 : ∀ q ∈ mt_49, decode (ma_b 49) q.1 = .ok (q.2.1, q.2.2.1) ∧ ma_ck 49 q.2.1 q.2.2.1 q.2.2.2 = true := by decide +kernel
theorem mk_50 : ∀ q ∈ mt_50, decode (ma_b 50) q.1 = .ok (q.2.1, q.2.2.1) ∧ ma_ck 50 q.2.1 q.2.2.1 q.2.2.2 = true := by decide +kernel
theorem mk_51 : ∀ q ∈ mt_51, decode (ma_b 51) q.1 = .ok (q.2.1, q.2.2.1) ∧ ma_ck 51 q.2.1 q.2.2.1 q.2.2.2 = true := by decide +kernel
theorem mk_52 : ∀ q ∈ mt_52, decode (ma_b 52) q.1 = .ok (q.2.1, q.2.2.1) ∧ ma_ck 52 q.2.1 q.2.2.1 q.2.2.2 = true := by decide +kernel
theorem mk_53 : ∀ q ∈ mt_53, decode (ma_b 53) q.1 = .ok (q.2.1, q.2.2.1) ∧ ma_ck 53 q.2.1 q.2.2.1 q.2.2.2 = true := by decide +kernel
theorem mk_54 : ∀ q ∈ mt_54, decode (ma_b 54) q.1 = .ok (q.2.1, q.2.2.1) ∧ ma_ck 54 q.2.1 q.2.2.1 q.2.2.2 = true := by decide +kernel
theorem mk_55 : ∀ q ∈ mt_55, decode (ma_b 55) q.1 = .ok (q.2.1, q.2.2.1) ∧ ma_ck 55 q.2.1 q.2.2.1 q.2.2.2 = true := by decide +kernel
theorem mk_56 : ∀ q ∈ mt_56, decode (ma_b 56) q.1 = .ok (q.2.1, q.2.2.1) ∧ ma_ck 56 q.2.1 q.2.2.1 q.2.2.2 = true := by decide +kernel
theorem mk_57 : ∀ q ∈ mt_57, decode (ma_b 57) q.1 = .ok (q.2.1, q.2.2.1) ∧ ma_ck 57 q.2.1 q.2.2.1 q.2.2.2 = true := by decide +kernel
theorem mk_58 : ∀ q ∈ mt_58, decode (ma_b 58) q.1 = .ok (q.2.1, q.2.2.1) ∧ ma_ck 58 q.2.1 q.2.2.1 q.2.2.2 = true := by decide +kernel
theorem mk_59 : ∀ q ∈ mt_59, decode (ma_b 59) q.1 = .ok (q.2.1, q.2.2.1) ∧ ma_ck 59 q.2.1 q.2.2.1 q.2.2.2 = true := by decide +kernel
theorem mk_60 : ∀ q ∈ mt_60, decode (ma_b 60) q.1 = .ok (q.2.1, q.2.2.1) ∧ ma_ck 60 q.2.1 q.2.2.1 q.2.2.2 = true := by decide +kernel
theorem mk_61 : ∀ q ∈ mt_61, decode (ma_b 61) q.1 = .ok (q.2.1, q.2.2.1) ∧ ma_ck 61 q.2.1 q.2.2.1 q.2.2.2 = true := by decide +kernel
theorem mk_62 : ∀ q ∈ mt_62, decode (ma_b 62) q.1 = .ok (q.2.1, q.2.2.1) ∧ ma_ck 62 q.2.1 q.2.2.1 q.2.2.2 = true := by decide +kernel
theorem mk_63 : ∀ q ∈ mt_63, decode (ma_b 63) q.1 = .ok (q.2.1, q.2.2.1) ∧ ma_ck 63 q.2.1 q.2.2.1 q.2.2.2 = true := by decide +kernel
theorem mk_64 : ∀ q ∈ mt_64, decode (ma_b 64) q.1 = .ok (q.2.1, q.2.2.1) ∧ ma_ck 64 q.2.1 q.2.2.1 q.2.2.2 = true := by decide +kernel
theorem mk_65 : ∀ q ∈ mt_65, decode (ma_b 65) q.1 = .ok (q.2.1, q.2.2.1) ∧ ma_ck 65 q.2.1 q.2.2.1 q.2.2.2 = true := by decide +kernel
theorem mk_66 : ∀ q ∈ mt_66, decode (ma_b 66) q.1 = .ok (q.2.1, q.2.2.1) ∧ ma_ck 66 q.2.1 q.2.2.1 q.2.2.2 = true := by decide +kernel
theorem mk_67 : ∀ q ∈ mt_67, decode (ma_b 67) q.1 = .ok (q.2.1, q.2.2.1) ∧ ma_ck 67 q.2.1 q.2.2.1 q.2.2.2 = true := by decide +kernel
theorem mk_68 : ∀ q ∈ mt_68, decode (ma_b 68) q.1 = .ok (q.2.1, q.2.2.1) ∧ ma_ck 68 q.2.1 q.2.2.1 q.2.2.2 = true := by decide +kernel
theorem mk_69 : ∀ q ∈ mt_69, decode (ma_b 69) q.1 = .ok (q.2.1, q.2.2.1) ∧ ma_ck 69 q.2.1 q.2.2.1 q.2.2.2 = true := by decide +kernel
theorem mk_70 : ∀ q ∈ mt_70, decode (ma_b 70) q.1 = .ok (q.2.1, q.2.2.1) ∧ ma_ck 70 q.2.1 q.2.2.1 q.2.2.2 = true := by decide +kernel
theorem mk_71 : ∀ q ∈ mt_71, decode (ma_b 71) q.1 = .ok (q.2.1, q.2.2.1) ∧ ma_ck 71 q.2.1 q.2.2.1 q.2.2.2 = true := by decide +kernel
theorem mk_72 : ∀ q ∈ mt_72, decode (ma_b 72) q.1 = .ok (q.2.1, q.2.2.1) ∧ ma_ck 72 q.2.1 q.2.2.1 q.2.2.2 = true := by decide +kernel
theorem mk_73 : ∀ q ∈ mt_73, decode (ma_b 73) q.1 = .ok (q.2.1, q.2.2.1) ∧ ma_ck 73 q.2.1 q.2.2.1 q.2.2.2 = true := by decide +kernel
theorem mk_74 : ∀ q ∈ mt_74, decode (ma_b 74) q.1 = .ok (q.2.1, q.2.2.1) ∧ ma_ck 74 q.2.1 q.2.2.1 q.2.2.2 = true := by decide +kernel
theorem mk_75 : ∀ q ∈ mt_75, decode (ma_b 75) q.1 = .ok (q.2.1, q.2.2.1) ∧ ma_ck 75 q.2.1 q.2.2.1 q.2.2.2 = true := by decide +kernel
theorem mk_76 : ∀ q ∈ mt_76, decode (ma_b 76) q.1 = .ok (q.2.1, q.2.2.1) ∧ ma_ck 76 q.2.1 q.2.2.1 q.2.2.2 = true := by decide +kernel
theorem mk_77 : ∀ q ∈ mt_77, decode (ma_b 77) q.1 = .ok (q.2.1, q.2.2.1) ∧ ma_ck 77 q.2.1 q.2.2.1 q.2.2.2 = true := by decide +kernel
theorem mk_78 : ∀ q ∈ mt_78, decode (ma_b 78) q.1 = .ok (q.2.1, q.2.2.1) ∧ ma_ck 78 q.2.1 q.2.2.1 q.2.2.2 = true := by decide +kernel
theorem mk_79 : ∀ q ∈ mt_79, decode (ma_b 79) q.1 = .ok (q.2.1, q.2.2.1) ∧ ma_ck 79 q.2.1 q.2.2.1 q.2.2.2 = true := by decide +kernel
theorem mk_80 : ∀ q ∈ mt_80, decode (ma_b 80) q.1 = .ok (q.2.1, q.2.2.1) ∧ ma_ck 80 q.2.1 q.2.2.1 q.2.2.2 = true := by decide +kernel
theorem mk_81 : ∀ q ∈ mt_81, decode (ma_b 81) q.1 = .ok (q.2.1, q.2.2.1) ∧ ma_ck 81 q.2.1 q.2.2.1 q.2.2.2 = true := by decide +kernel
theorem mk_82 : ∀ q ∈ mt_82, decode (ma_b 82) q.1 = .ok (q.2.1, q.2.2.1) ∧ ma_ck 82 q.2.1 q.2.2.1 q.2.2.2 = true := by decide +kernel
theorem mk_83 : ∀ q ∈ mt_83, decode (ma_b 83) q.1 = .ok (q.2.1, q.2.2.1) ∧ ma_ck 83 q.2.1 q.2.2.1 q.2.2.2 = true := by decide +kernel
theorem mk_84 : ∀ q ∈ mt_84, decode (ma_b 84) q.1 = .ok (q.2.1, q.2.2.1) ∧ ma_ck 84 q.2.1 q.2.2.1 q.2.2.2 = true := by decide +kernel
theorem mk_85 : ∀ q ∈ mt_85, decode (ma_b 85) q.1 = .ok (q.2.1, q.2.2.1) ∧ ma_ck 85 q.2.1 q.2.2.1 q.2.2.2 = true := by decide +kernel
theorem mk_86 : ∀ q ∈ mt_86, decode (ma_b 86) q.1 = .ok (q.2.1, q.2.2.1) ∧ ma_ck 86 q.2.1 q.2.2.1 q.2.2.2 = true := by decide +kernel
theorem mk_87 : ∀ q ∈ mt_87, decode (ma_b 87) q.1 = .ok (q.2.1, q.2.2.1) ∧ ma_ck 87 q.2.1 q.2.2.1 q.2.2.2 = true := by decide +kernel
theorem mk_88 : ∀ q ∈ mt_88, decode (ma_b 88) q.1 = .ok (q.2.1, q.2.2.1) ∧ ma_ck 88 q.2.1 q.2.2.1 q.2.2.2 = true := by decide +kernel
theorem mk_89 : ∀ q ∈ mt_89, decode (ma_b 89) q.1 = .ok (q.2.1, q.2.2.1) ∧ ma_ck 89 q.2.1 q.2.2.1 q.2.2.2 = true := by decide +kernel
theorem mk_90 : ∀ q ∈ mt_90, decode (ma_b 90) q.1 = .ok (q.2.1, q.2.2.1) ∧ ma_ck 90 q.2.1 q.2.2.1 q.2.2.2 = true := by decide +kernel
theorem mk_91 : ∀ q ∈ mt_91, decode (ma_b 91) q.1 = .ok (q.2.1, q.2.2.1) ∧ ma_ck 91 q.2.1 q.2.2.1 q.2.2.2 = true := by decide +kernel
theorem mk_92 : ∀ q ∈ mt_92, decode (ma_b 92) q.1 = .ok (q.2.1, q.2.2.1) ∧ ma_ck 92 q.2.1 q.2.2.1 q.2.2.2 = true := by decide +kernel
theorem mk_93 : ∀ q ∈ mt_93, decode (ma_b 93) q.1 = .ok (q.2.1, q.2.2.1) ∧ ma_ck 93 q.2.1 q.2.2.1 q.2.2.2 = true := by decide +kernel
theorem mk_94 : ∀ q ∈ mt_94, decode (ma_b 94) q.1 = .ok (q.2.1, q.2.2.1) ∧ ma_ck 94 q.2.1 q.2.2.1 q.2.2.2 = true := by decide +kernel
theorem mk_95 : ∀ q ∈ mt_95, decode (ma_b 95) q.1 = .ok (q.2.1, q.2.2.1) ∧ ma_ck 95 q.2.1 q.2.2.1 q.2.2.2 = true := by decide +kernel
theorem mk_96 : ∀ q ∈ mt_96, decode (ma_b 96) q.1 = .ok (q.2.1, q.2.2.1) ∧ ma_ck 96 q.2.1 q.2.2.1 q.2.2.2 = true := by decide +kernel
theorem mk_97 : ∀ q ∈ mt_97, decode (ma_b 97) q.1 = .ok (q.2.1, q.2.2.1) ∧ ma_ck 97 q.2.1 q.2.2.1 q.2.2.2 = true := by decide +kernel
theorem mk_98 : ∀ q ∈ mt_98, decode (ma_b 98) q.1 = .ok (q.2.1, q.2.2.1) ∧ ma_ck 98 q.2.1 q.2.2.1 q.2.2.2 = true := by decide +kernel
theorem mk_99 : ∀ q ∈ mt_99, decode (ma_b 99) q.1 = .ok (q.2.1, q.2.2.1) ∧ ma_ck 99 q.2.1 q.2.2.1 q.2.2.2 = true := by decide +kernel
theorem mk_100 : ∀ q ∈ mt_100, decode (ma_b 100) q.1 = .ok (q.2.1, q.2.2.1) ∧ ma_ck 100 q.2.1 q.2.2.1 q.2.2.2 = true := by decide +kernel
theorem mk_101 : ∀ q ∈ mt_101, decode (ma_b 101) q.1 = .ok (q.2.1, q.2.2.1) ∧ ma_ck 101 q.2.1 q.2.2.1 q.2.2.2 = true := by decide +kernel
theorem mk_102 : ∀ q ∈ mt_102, decode (ma_b 102) q.1 = .ok (q.2.1, q.2.2.1) ∧ ma_ck 102 q.2.1 q.2.2.1 q.2.2.2 = true := by decide +kernel
theorem mk_103 : ∀ q ∈ mt_103, decode (ma_b 103) q.1 = .ok (q.2.1, q.2.2.1) ∧ ma_ck 103 q.2.1 q.2.2.1 q.2.2.2 = true := by decide +kernel
theorem mk_104 : ∀ q ∈ mt_104, decode (ma_b 104) q.1 = .ok (q.2.1, q.2.2.1) ∧ ma_ck 104 q.2.1 q.2.2.1 q.2.2.2 = true := by decide +kernel
theorem mk_105 : ∀ q ∈ mt_105, decode (ma_b 105) q.1 = .ok (q.2.1, q.2.2.1) ∧ ma_ck 105 q.2.1 q.2.2.1 q.2.2.2 = true := by decide +kernel
theorem mk_106 : ∀ q ∈ mt_106, decode (ma_b 106) q.1 = .ok (q.2.1, q.2.2.1) ∧ ma_ck 106 q.2.1 q.2.2.1 q.2.2.2 = true := by decide +kernel
theorem mk_107 : ∀ q ∈ mt_107, decode (ma_b 107) q.1 = .ok (q.2.1, q.2.2.1) ∧ ma_ck 107 q.2.1 q.2.2.1 q.2.2.2 = true := by decide +kernel
theorem mk_108 : ∀ q ∈ mt_108, decode (ma_b 108) q.1 = .ok (q.2.1, q.2.2.1) ∧ ma_ck 108 q.2.1 q.2.2.1 q.2.2.2 = true := by decide +kernel
theorem mk_109 : ∀ q ∈ mt_109, decode (ma_b 109) q.1 = .ok (q.2.1, q.2.2.1) ∧ ma_ck 109 q.2.1 q.2.2.1 q.2.2.2 = true := by decide +kernel
theorem mk_110 : ∀ q ∈ mt_110, decode (ma_b 110) q.1 = .ok (q.2.1, q.2.2.1) ∧ ma_ck 110 q.2.1 q.2.2.1 q.2.2.2 = true := by decide +kernel
theorem mk_111 : ∀ q ∈ mt_111, decode (ma_b 111) q.1 = .ok (q.2.1, q.2.2.1) ∧ ma_ck 111 q.2.1 q.2.2.1 q.2.2.2 = true := by decide +kernel
theorem mk_112 : ∀ q ∈ mt_112, decode (ma_b 112) q.1 = .ok (q.2.1, q.2.2.1) ∧ ma_ck 112 q.2.1 q.2.2.1 q.2.2.2 = true := by decide +kernel
theorem mk_113 : ∀ q ∈ mt_113, decode (ma_b 113) q.1 = .ok (q.2.1, q.2.2.1) ∧ ma_ck 113 q.2.1 q.2.2.1 q.2.2.2 = true := by decide +kernel
theorem mk_114 : ∀ q ∈ mt_114, decode (ma_b 114) q.1 = .ok (q.2.1, q.2.2.1) ∧ ma_ck 114 q.2.1 q.2.2.1 q.2.2.2 = true := by decide +kernel
theorem ma_tb_ok (mid : Nat) : ∀ q ∈ ma_tb mid, decode (ma_b mid) q.1 = .ok (q.2.1, q.2.2.1) ∧ ma_ck mid q.2.1 q.2.2.1 q.2.2.2 = true := by
  unfold ma_tb
  split
  · exact mk_0
  · exact mk_1
  · exact mk_2
  · exact mk_3
  · exact mk_4
  · exact mk_5
  · exact mk_6
  · exact mk_7
  · exact mk_8
  · exact mk_9
  · exact mk_10
  · exact mk_11
  · exact mk_12
  · exact mk_13
  · exact mk_14
  · exact mk_15
  · exact mk_16
  · exact mk_17
  · exact mk_18
  · exact mk_19
  · exact mk_20
  · exact mk_21
  · exact mk_22
  · exact mk_23
  · exact mk_24
  · exact mk_25
  · exact mk_26
  · exact mk_27
  · exact mk_28
  · exact mk_29
  · exact mk_30
  · exact mk_31
  · exact mk_32
  · exact mk_33
  · exact mk_34
  · exact mk_35
  · exact mk_36
  · exact mk_37
  · exact mk_38
  · exact mk_39
  · exact mk_40
  · exact mk_41
  · exact mk_42
  · exact mk_43
  · exact mk_44
  · exact mk_45
  · exact mk_46
  · exact mk_47
  · exact mk_48
  · exact mk_49
  · exact mk_50
  · exact mk_51
  · exact mk_52
  · exact mk_53
  · exact mk_54
  · exact mk_55
  · exact mk_56
  · exact mk_57
  · exact mk_58
  · exact mk_59
  · exact mk_60
  · exact mk_61
  · exact mk_62
  · exact mk_63
  · exact mk_64
  · exact mk_65
  · exact mk_66
  · exact mk_67
  · exact mk_68
  · exact mk_69
  · exact mk_70
  · exact mk_71
  · exact mk_72
  · exact mk_73
  · exact mk_74
  · exact mk_75
  · exact mk_76
  · exact mk_77
  · exact mk_78
  · exact mk_79
  · exact mk_80
  · exact mk_81
  · exact mk_82
  · exact mk_83
  · exact mk_84
  · exact mk_85
  · exact mk_86
  · exact mk_87
  · exact mk_88
  · exact mk_89
  · exact mk_90
  · exact mk_91
  · exact mk_92
  · exact mk_93
  · exact mk_94
  · exact mk_95
  · exact mk_96
  · exact mk_97
  · exact mk_98
  · exact mk_99
  · exact mk_100
  · exact mk_101
  · exact mk_102
  · exact mk_103
  · exact mk_104
  · exact mk_105
  · exact mk_106
  · exact mk_107
  · exact mk_108
  · exact mk_109
  · exact mk_110
  · exact mk_111
  · exact mk_112
  · exact mk_113
  · exact mk_114
  · intro q hq; cases hq
theorem ma_dec {mid pc len : Nat} {ins : Instr} {lk : List Int} (h : ma_lk mid pc = some (ins, len, lk)) : decode (ma_b mid) pc = .ok (ins, len) ∧ ma_ck mid ins len lk = true := by
  unfold ma_lk at h
  cases hf : (ma_tb mid).find? (fun q => q.1 == pc) with
  | none => rw [hf] at h; cases h
  | some q =>
    rw [hf] at h
    obtain ⟨pc', ins', len', lk'⟩ := q
    cases h
    have h1 := List.find?_some hf
    have h2 := ma_tb_ok mid _ (List.mem_of_find?_eq_some hf)
    have e : pc' = pc := beq_iff_eq.mp h1
    subst e
    exact h2
