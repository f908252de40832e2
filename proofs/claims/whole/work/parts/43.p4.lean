set_option maxHeartbeats 4000000 in
theorem mp_point : mr_p2 45 82 := by
  intro M a b hI ha hb
  obtain ⟨hF, ⟨⟨n1, n2, n3⟩, ⟨i1, i2, i3⟩, ⟨o1, o2, o3⟩⟩, hnd, hfr, hin, hnum, hout, hmar, hsn⟩ := id hI
  unfold mr_pair
  by_cases h1 : a < 0
  · exact ⟨0, by simp (disch := (first | assumption | omega | ((repeat (refine mr_FIX_up ?_ (by unfold mr_nst; omega))); assumption))) [x45, s45_0, s45_1, x45_4, s45_5, x45_8, x45_11, x45_12, s45_13, s45_14, x45_17, x45_18, x45_19, x45_20, s45_23, x45_24, x45_25, x6, x6_0, x6_1, x6_4, s6_5, s6_6, x6_9, x6_12, x6_13, x6_16, x6_17, x82, s82_0, x82_1, s82_2, x82_5, x82_8, x82_9, s82_10, s82_11, x82_14, x82_15, x82_16, s82_19, x82_20, x82_21, x75, x75_0, x75_1, x75_4, s75_5, s75_6, x75_9, x75_12, x75_13, x75_16, x75_17, i3, h1, hI]⟩
  · by_cases h2 : M 1 1 ≤ a
    · have h2b : ¬ a < M 1 1 := by omega
      exact ⟨0, by simp (disch := (first | assumption | omega | ((repeat (refine mr_FIX_up ?_ (by unfold mr_nst; omega))); assumption))) [x45, s45_0, s45_1, x45_4, s45_5, x45_8, x45_11, x45_12, s45_13, s45_14, x45_17, x45_18, x45_19, x45_20, s45_23, x45_24, x45_25, x6, x6_0, x6_1, x6_4, s6_5, s6_6, x6_9, x6_12, x6_13, x6_16, x6_17, x82, s82_0, x82_1, s82_2, x82_5, x82_8, x82_9, s82_10, s82_11, x82_14, x82_15, x82_16, s82_19, x82_20, x82_21, x75, x75_0, x75_1, x75_4, s75_5, s75_6, x75_9, x75_12, x75_13, x75_16, x75_17, i3, h1, h2, h2b, hI]⟩
    · have h2b : a < M 1 1 := by omega
      refine ⟨1, ?_⟩
      simp (disch := (first | assumption | omega | ((repeat (refine mr_FIX_up ?_ (by unfold mr_nst; omega))); assumption))) [x45, s45_0, s45_1, x45_4, s45_5, x45_8, x45_11, x45_12, s45_13, s45_14, x45_17, x45_18, x45_19, x45_20, s45_23, x45_24, x45_25, x6, x6_0, x6_1, x6_4, s6_5, s6_6, x6_9, x6_12, x6_13, x6_16, x6_17, x82, s82_0, x82_1, s82_2, x82_5, x82_8, x82_9, s82_10, s82_11, x82_14, x82_15, x82_16, s82_19, x82_20, x82_21, x75, x75_0, x75_1, x75_4, s75_5, s75_6, x75_9, x75_12, x75_13, x75_16, x75_17, i3, h1, h2, h2b, mr_standFor, mr_number, ma_up]
      repeat (refine ⟨by omega, ?_⟩)
      have e42 : ∀ c i, c ≠ 50 → c ≠ 86 → ma_up (ma_up M 50 a (b % 65521)) 86 a (b % 65521) c i = M c i := fun c i g1 g2 => by rw [ma_up_ne g2, ma_up_ne g1]
      refine mr_INV_gen hI (mr_FIX_eq hF (fun c i hn => e42 c i (by unfold mr_nst at hn; omega) (by unfold mr_nst at hn; omega))) (fun c i hc => e42 c i (by omega) (by omega)) ⟨e42 80 0 (by omega) (by omega), e42 80 5 (by omega) (by omega)⟩ ?_ (fun v k h4 h5 h6 h7 h8 => e42 _ _ (by omega) (by omega)) (fun j h4 h5 => ?_) (fun j h4 h5 => ?_) ⟨?_, fun j h4 h5 => ?_⟩ ?_
      · rw [e42 0 11 (by omega) (by omega), e42 80 9 (by omega) (by omega)]
        omega
      · have := hnum j h4 h5
        by_cases e : j = a
        · subst e
          simp [ma_up]
          omega
        · simpa [ma_up, e] using this
      · rw [e42 0 11 (by omega) (by omega)] at h5
        rw [e42 88 _ (by omega) (by omega), e42 54 _ (by omega) (by omega), e42 1 _ (by omega) (by omega)]
        exact hout j h4 h5
      · rw [e42 0 15 (by omega) (by omega), e42 80 22 (by omega) (by omega)]
        exact hmar.1
      · rw [e42 0 15 (by omega) (by omega)] at h5
        rw [e42 100 _ (by omega) (by omega), e42 78 _ (by omega) (by omega), e42 101 _ (by omega) (by omega), e42 79 _ (by omega) (by omega)]
        exact hmar.2 j h4 h5
      · unfold mr_snp at hsn ⊢
        rw [e42 42 1 (by omega) (by omega)]
        rcases hsn with ⟨q1, q2⟩ | ⟨q1, q2⟩
        · exact Or.inl ⟨q1, fun s n g1 g2 g3 g4 => (e42 _ _ (by omega) (by omega)).trans (q2 s n g1 g2 g3 g4)⟩
        · exact Or.inr ⟨q1, fun s n g1 g2 g3 g4 => (e42 _ _ (by omega) (by omega)).trans (q2 s n g1 g2 g3 g4)⟩
set_option maxHeartbeats 4000000 in
theorem mp_direction : mr_p2 46 83 := by
  intro M a b hI ha hb
  obtain ⟨hF, ⟨⟨n1, n2, n3⟩, ⟨i1, i2, i3⟩, ⟨o1, o2, o3⟩⟩, hnd, hfr, hin, hnum, hout, hmar, hsn⟩ := id hI
  unfold mr_pair
  by_cases h1 : a < 0
  · exact ⟨0, by simp (disch := (first | assumption | omega | ((repeat (refine mr_FIX_up ?_ (by unfold mr_nst; omega))); assumption))) [x46, s46_0, s46_1, x46_4, s46_5, x46_8, x46_11, x46_12, s46_13, s46_14, x46_17, x46_18, x46_19, x46_20, s46_23, x46_24, x46_25, x6, x6_0, x6_1, x6_4, s6_5, s6_6, x6_9, x6_12, x6_13, x6_16, x6_17, x83, s83_0, x83_1, s83_2, x83_5, x83_8, x83_9, s83_10, s83_11, x83_14, x83_15, x83_16, s83_19, x83_20, x83_21, x75, x75_0, x75_1, x75_4, s75_5, s75_6, x75_9, x75_12, x75_13, x75_16, x75_17, i3, h1, hI]⟩
  · by_cases h2 : M 1 1 ≤ a
    · have h2b : ¬ a < M 1 1 := by omega
      exact ⟨0, by simp (disch := (first | assumption | omega | ((repeat (refine mr_FIX_up ?_ (by unfold mr_nst; omega))); assumption))) [x46, s46_0, s46_1, x46_4, s46_5, x46_8, x46_11, x46_12, s46_13, s46_14, x46_17, x46_18, x46_19, x46_20, s46_23, x46_24, x46_25, x6, x6_0, x6_1, x6_4, s6_5, s6_6, x6_9, x6_12, x6_13, x6_16, x6_17, x83, s83_0, x83_1, s83_2, x83_5, x83_8, x83_9, s83_10, s83_11, x83_14, x83_15, x83_16, s83_19, x83_20, x83_21, x75, x75_0, x75_1, x75_4, s75_5, s75_6, x75_9, x75_12, x75_13, x75_16, x75_17, i3, h1, h2, h2b, hI]⟩
    · have h2b : a < M 1 1 := by omega
      refine ⟨1, ?_⟩
      simp (disch := (first | assumption | omega | ((repeat (refine mr_FIX_up ?_ (by unfold mr_nst; omega))); assumption))) [x46, s46_0, s46_1, x46_4, s46_5, x46_8, x46_11, x46_12, s46_13, s46_14, x46_17, x46_18, x46_19, x46_20, s46_23, x46_24, x46_25, x6, x6_0, x6_1, x6_4, s6_5, s6_6, x6_9, x6_12, x6_13, x6_16, x6_17, x83, s83_0, x83_1, s83_2, x83_5, x83_8, x83_9, s83_10, s83_11, x83_14, x83_15, x83_16, s83_19, x83_20, x83_21, x75, x75_0, x75_1, x75_4, s75_5, s75_6, x75_9, x75_12, x75_13, x75_16, x75_17, i3, h1, h2, h2b, mr_standFor, mr_number, ma_up]
      repeat (refine ⟨by omega, ?_⟩)
      have e42 : ∀ c i, c ≠ 51 → c ≠ 87 → ma_up (ma_up M 51 a (b % 65521)) 87 a (b % 65521) c i = M c i := fun c i g1 g2 => by rw [ma_up_ne g2, ma_up_ne g1]
      refine mr_INV_gen hI (mr_FIX_eq hF (fun c i hn => e42 c i (by unfold mr_nst at hn; omega) (by unfold mr_nst at hn; omega))) (fun c i hc => e42 c i (by omega) (by omega)) ⟨e42 80 0 (by omega) (by omega), e42 80 5 (by omega) (by omega)⟩ ?_ (fun v k h4 h5 h6 h7 h8 => e42 _ _ (by omega) (by omega)) (fun j h4 h5 => ?_) (fun j h4 h5 => ?_) ⟨?_, fun j h4 h5 => ?_⟩ ?_
      · rw [e42 0 11 (by omega) (by omega), e42 80 9 (by omega) (by omega)]
        omega
      · have := hnum j h4 h5
        by_cases e : j = a
        · subst e
          simp [ma_up]
          omega
        · simpa [ma_up, e] using this
      · rw [e42 0 11 (by omega) (by omega)] at h5
        rw [e42 88 _ (by omega) (by omega), e42 54 _ (by omega) (by omega), e42 1 _ (by omega) (by omega)]
        exact hout j h4 h5
      · rw [e42 0 15 (by omega) (by omega), e42 80 22 (by omega) (by omega)]
        exact hmar.1
      · rw [e42 0 15 (by omega) (by omega)] at h5
        rw [e42 100 _ (by omega) (by omega), e42 78 _ (by omega) (by omega), e42 101 _ (by omega) (by omega), e42 79 _ (by omega) (by omega)]
        exact hmar.2 j h4 h5
      · unfold mr_snp at hsn ⊢
        rw [e42 42 1 (by omega) (by omega)]
        rcases hsn with ⟨q1, q2⟩ | ⟨q1, q2⟩
        · exact Or.inl ⟨q1, fun s n g1 g2 g3 g4 => (e42 _ _ (by omega) (by omega)).trans (q2 s n g1 g2 g3 g4)⟩
        · exact Or.inr ⟨q1, fun s n g1 g2 g3 g4 => (e42 _ _ (by omega) (by omega)).trans (q2 s n g1 g2 g3 g4)⟩
set_option maxHeartbeats 4000000 in
theorem mp_weight : mr_p2 47 84 := by
  intro M a b hI ha hb
  obtain ⟨hF, ⟨⟨n1, n2, n3⟩, ⟨i1, i2, i3⟩, ⟨o1, o2, o3⟩⟩, hnd, hfr, hin, hnum, hout, hmar, hsn⟩ := id hI
  unfold mr_pair
  by_cases h1 : a < 0
  · exact ⟨0, by simp (disch := (first | assumption | omega | ((repeat (refine mr_FIX_up ?_ (by unfold mr_nst; omega))); assumption))) [x47, s47_0, x47_1, s47_2, x47_5, x47_8, x47_9, s47_10, s47_11, x47_14, x47_15, x47_16, x47_17, s47_20, x47_21, x47_22, x61, x61_0, x61_1, x61_4, s61_5, s61_6, x61_9, x61_12, x61_13, x61_16, x61_17, x84, s84_0, x84_1, s84_2, x84_5, x84_8, x84_9, s84_10, s84_11, x84_14, x84_15, x84_16, s84_19, x84_20, x84_21, x76, x76_0, x76_1, x76_4, s76_5, s76_6, x76_9, x76_12, x76_13, x76_16, x76_17, o3, h1, hI]⟩
  · by_cases h2 : M 0 11 ≤ a
    · have h2b : ¬ a < M 0 11 := by omega
      exact ⟨0, by simp (disch := (first | assumption | omega | ((repeat (refine mr_FIX_up ?_ (by unfold mr_nst; omega))); assumption))) [x47, s47_0, x47_1, s47_2, x47_5, x47_8, x47_9, s47_10, s47_11, x47_14, x47_15, x47_16, x47_17, s47_20, x47_21, x47_22, x61, x61_0, x61_1, x61_4, s61_5, s61_6, x61_9, x61_12, x61_13, x61_16, x61_17, x84, s84_0, x84_1, s84_2, x84_5, x84_8, x84_9, s84_10, s84_11, x84_14, x84_15, x84_16, s84_19, x84_20, x84_21, x76, x76_0, x76_1, x76_4, s76_5, s76_6, x76_9, x76_12, x76_13, x76_16, x76_17, o3, h1, h2, h2b, hI]⟩
    · have h2b : a < M 0 11 := by omega
      refine ⟨1, ?_⟩
      simp (disch := (first | assumption | omega | ((repeat (refine mr_FIX_up ?_ (by unfold mr_nst; omega))); assumption))) [x47, s47_0, x47_1, s47_2, x47_5, x47_8, x47_9, s47_10, s47_11, x47_14, x47_15, x47_16, x47_17, s47_20, x47_21, x47_22, x61, x61_0, x61_1, x61_4, s61_5, s61_6, x61_9, x61_12, x61_13, x61_16, x61_17, x84, s84_0, x84_1, s84_2, x84_5, x84_8, x84_9, s84_10, s84_11, x84_14, x84_15, x84_16, s84_19, x84_20, x84_21, x76, x76_0, x76_1, x76_4, s76_5, s76_6, x76_9, x76_12, x76_13, x76_16, x76_17, o3, h1, h2, h2b, mr_standFor, mr_number, ma_up]
      repeat (refine ⟨by omega, ?_⟩)
      have e42 : ∀ c i, c ≠ 55 → c ≠ 89 → ma_up (ma_up M 55 a (b % 65521)) 89 a (b % 65521) c i = M c i := fun c i g1 g2 => by rw [ma_up_ne g2, ma_up_ne g1]
      refine mr_INV_gen hI (mr_FIX_eq hF (fun c i hn => e42 c i (by unfold mr_nst at hn; omega) (by unfold mr_nst at hn; omega))) (fun c i hc => e42 c i (by omega) (by omega)) ⟨e42 80 0 (by omega) (by omega), e42 80 5 (by omega) (by omega)⟩ ?_ (fun v k h4 h5 h6 h7 h8 => e42 _ _ (by omega) (by omega)) (fun j h4 h5 => ?_) (fun j h4 h5 => ?_) ⟨?_, fun j h4 h5 => ?_⟩ ?_
      · rw [e42 0 11 (by omega) (by omega), e42 80 9 (by omega) (by omega)]
        omega
      · have := hnum j h4 h5
        by_cases e : j = a
        · subst e
          simp [ma_up]
          omega
        · simpa [ma_up, e] using this
      · rw [e42 0 11 (by omega) (by omega)] at h5
        rw [e42 88 _ (by omega) (by omega), e42 54 _ (by omega) (by omega), e42 1 _ (by omega) (by omega)]
        exact hout j h4 h5
      · rw [e42 0 15 (by omega) (by omega), e42 80 22 (by omega) (by omega)]
        exact hmar.1
      · rw [e42 0 15 (by omega) (by omega)] at h5
        rw [e42 100 _ (by omega) (by omega), e42 78 _ (by omega) (by omega), e42 101 _ (by omega) (by omega), e42 79 _ (by omega) (by omega)]
        exact hmar.2 j h4 h5
      · unfold mr_snp at hsn ⊢
        rw [e42 42 1 (by omega) (by omega)]
        rcases hsn with ⟨q1, q2⟩ | ⟨q1, q2⟩
        · exact Or.inl ⟨q1, fun s n g1 g2 g3 g4 => (e42 _ _ (by omega) (by omega)).trans (q2 s n g1 g2 g3 g4)⟩
        · exact Or.inr ⟨q1, fun s n g1 g2 g3 g4 => (e42 _ _ (by omega) (by omega)).trans (q2 s n g1 g2 g3 g4)⟩
set_option maxHeartbeats 8000000 in
theorem mp_operation : mr_p3 43 80 := by
  intro M k a b hI hk ha hb
  obtain ⟨hF, ⟨⟨n1, n2, n3⟩, ⟨i1, i2, i3⟩, ⟨o1, o2, o3⟩⟩, hnd, hfr, hin, hnum, hout, hmar, hsn⟩ := id hI
  unfold mr_pair
  have w1 : ma_32 (M 1 0 + 1) = M 1 0 + 1 := ma_32i (by omega) (by omega)
  have w5 : ma_32 (M 1 0) = M 1 0 := ma_32i (by omega) (by omega)
  by_cases c1 : k < 0
  · exact ⟨-3, by simp (disch := (first | assumption | omega | ((repeat (refine mr_FIX_up ?_ (by unfold mr_nst; omega))); assumption))) [x43, x43_0, x43_1, x43_4, x43_5, x43_7, s43_10, s43_11, x43_14, s43_15, x43_18, s43_21, s43_22, s43_25, x43_28, x43_31, x43_33, x43_34, x43_35, x43_37, x43_40, x43_41, x43_44, x43_45, x43_47, x43_50, x43_52, s43_55, s43_56, x43_59, x43_61, x43_62, x43_63, s43_64, x43_67, s43_68, s43_69, x43_72, s43_73, x43_76, s43_79, s43_80, x43_83, x43_84, x43_85, x43_86, s43_87, x43_90, x43_93, x43_95, x4, s4_0, s4_1, x4_4, x4_6, x4_9, x4_10, x4_13, x4_14, x5, x5_0, x5_1, x5_4, s5_5, s5_6, x5_9, x5_12, x5_13, x5_16, x5_17, x80, x80_0, x80_1, x80_3, x80_6, x80_7, x80_10, x80_11, x80_13, x80_16, x80_17, x80_20, x80_21, s80_24, x80_25, s80_26, x80_29, x80_31, x80_32, x80_35, x80_36, x80_38, s80_41, x80_42, s80_43, x80_46, x80_49, x80_51, s80_54, s80_55, x80_58, x80_60, x80_63, x80_65, s80_66, x80_67, x80_68, x80_69, x80_70, s80_71, x80_74, x74, x74_0, x74_1, x74_4, s74_5, s74_6, x74_9, x74_12, x74_13, x74_16, x74_17, n3, c1, hI]⟩
  · by_cases c2 : 6 < k
    · have c2b : ¬ k ≤ 6 := by omega
      exact ⟨-3, by simp (disch := (first | assumption | omega | ((repeat (refine mr_FIX_up ?_ (by unfold mr_nst; omega))); assumption))) [x43, x43_0, x43_1, x43_4, x43_5, x43_7, s43_10, s43_11, x43_14, s43_15, x43_18, s43_21, s43_22, s43_25, x43_28, x43_31, x43_33, x43_34, x43_35, x43_37, x43_40, x43_41, x43_44, x43_45, x43_47, x43_50, x43_52, s43_55, s43_56, x43_59, x43_61, x43_62, x43_63, s43_64, x43_67, s43_68, s43_69, x43_72, s43_73, x43_76, s43_79, s43_80, x43_83, x43_84, x43_85, x43_86, s43_87, x43_90, x43_93, x43_95, x4, s4_0, s4_1, x4_4, x4_6, x4_9, x4_10, x4_13, x4_14, x5, x5_0, x5_1, x5_4, s5_5, s5_6, x5_9, x5_12, x5_13, x5_16, x5_17, x80, x80_0, x80_1, x80_3, x80_6, x80_7, x80_10, x80_11, x80_13, x80_16, x80_17, x80_20, x80_21, s80_24, x80_25, s80_26, x80_29, x80_31, x80_32, x80_35, x80_36, x80_38, s80_41, x80_42, s80_43, x80_46, x80_49, x80_51, s80_54, s80_55, x80_58, x80_60, x80_63, x80_65, s80_66, x80_67, x80_68, x80_69, x80_70, s80_71, x80_74, x74, x74_0, x74_1, x74_4, s74_5, s74_6, x74_9, x74_12, x74_13, x74_16, x74_17, n3, c1, c2, c2b, hI]⟩
    · have c2b : k ≤ 6 := by omega
      by_cases c3 : a < 0
      · exact ⟨-3, by simp (disch := (first | assumption | omega | ((repeat (refine mr_FIX_up ?_ (by unfold mr_nst; omega))); assumption))) [x43, x43_0, x43_1, x43_4, x43_5, x43_7, s43_10, s43_11, x43_14, s43_15, x43_18, s43_21, s43_22, s43_25, x43_28, x43_31, x43_33, x43_34, x43_35, x43_37, x43_40, x43_41, x43_44, x43_45, x43_47, x43_50, x43_52, s43_55, s43_56, x43_59, x43_61, x43_62, x43_63, s43_64, x43_67, s43_68, s43_69, x43_72, s43_73, x43_76, s43_79, s43_80, x43_83, x43_84, x43_85, x43_86, s43_87, x43_90, x43_93, x43_95, x4, s4_0, s4_1, x4_4, x4_6, x4_9, x4_10, x4_13, x4_14, x5, x5_0, x5_1, x5_4, s5_5, s5_6, x5_9, x5_12, x5_13, x5_16, x5_17, x80, x80_0, x80_1, x80_3, x80_6, x80_7, x80_10, x80_11, x80_13, x80_16, x80_17, x80_20, x80_21, s80_24, x80_25, s80_26, x80_29, x80_31, x80_32, x80_35, x80_36, x80_38, s80_41, x80_42, s80_43, x80_46, x80_49, x80_51, s80_54, s80_55, x80_58, x80_60, x80_63, x80_65, s80_66, x80_67, x80_68, x80_69, x80_70, s80_71, x80_74, x74, x74_0, x74_1, x74_4, s74_5, s74_6, x74_9, x74_12, x74_13, x74_16, x74_17, n3, c1, c2, c2b, c3, hI]⟩
      · by_cases c4 : M 1 0 ≤ a
        · have c4b : ¬ a < M 1 0 := by omega
          exact ⟨-3, by simp (disch := (first | assumption | omega | ((repeat (refine mr_FIX_up ?_ (by unfold mr_nst; omega))); assumption))) [x43, x43_0, x43_1, x43_4, x43_5, x43_7, s43_10, s43_11, x43_14, s43_15, x43_18, s43_21, s43_22, s43_25, x43_28, x43_31, x43_33, x43_34, x43_35, x43_37, x43_40, x43_41, x43_44, x43_45, x43_47, x43_50, x43_52, s43_55, s43_56, x43_59, x43_61, x43_62, x43_63, s43_64, x43_67, s43_68, s43_69, x43_72, s43_73, x43_76, s43_79, s43_80, x43_83, x43_84, x43_85, x43_86, s43_87, x43_90, x43_93, x43_95, x4, s4_0, s4_1, x4_4, x4_6, x4_9, x4_10, x4_13, x4_14, x5, x5_0, x5_1, x5_4, s5_5, s5_6, x5_9, x5_12, x5_13, x5_16, x5_17, x80, x80_0, x80_1, x80_3, x80_6, x80_7, x80_10, x80_11, x80_13, x80_16, x80_17, x80_20, x80_21, s80_24, x80_25, s80_26, x80_29, x80_31, x80_32, x80_35, x80_36, x80_38, s80_41, x80_42, s80_43, x80_46, x80_49, x80_51, s80_54, s80_55, x80_58, x80_60, x80_63, x80_65, s80_66, x80_67, x80_68, x80_69, x80_70, s80_71, x80_74, x74, x74_0, x74_1, x74_4, s74_5, s74_6, x74_9, x74_12, x74_13, x74_16, x74_17, n3, c1, c2, c2b, c3, c4, c4b, hI]⟩
        · have c4b : a < M 1 0 := by omega
          by_cases c5 : M 1 0 = 24
          · exact ⟨-3, by simp (disch := (first | assumption | omega | ((repeat (refine mr_FIX_up ?_ (by unfold mr_nst; omega))); assumption))) [x43, x43_0, x43_1, x43_4, x43_5, x43_7, s43_10, s43_11, x43_14, s43_15, x43_18, s43_21, s43_22, s43_25, x43_28, x43_31, x43_33, x43_34, x43_35, x43_37, x43_40, x43_41, x43_44, x43_45, x43_47, x43_50, x43_52, s43_55, s43_56, x43_59, x43_61, x43_62, x43_63, s43_64, x43_67, s43_68, s43_69, x43_72, s43_73, x43_76, s43_79, s43_80, x43_83, x43_84, x43_85, x43_86, s43_87, x43_90, x43_93, x43_95, x4, s4_0, s4_1, x4_4, x4_6, x4_9, x4_10, x4_13, x4_14, x5, x5_0, x5_1, x5_4, s5_5, s5_6, x5_9, x5_12, x5_13, x5_16, x5_17, x80, x80_0, x80_1, x80_3, x80_6, x80_7, x80_10, x80_11, x80_13, x80_16, x80_17, x80_20, x80_21, s80_24, x80_25, s80_26, x80_29, x80_31, x80_32, x80_35, x80_36, x80_38, s80_41, x80_42, s80_43, x80_46, x80_49, x80_51, s80_54, s80_55, x80_58, x80_60, x80_63, x80_65, s80_66, x80_67, x80_68, x80_69, x80_70, s80_71, x80_74, x74, x74_0, x74_1, x74_4, s74_5, s74_6, x74_9, x74_12, x74_13, x74_16, x74_17, n3, c1, c2, c2b, c3, c4, c4b, c5, hI]⟩
          · have hz := hfr (M 1 0) (by omega) (by omega)
            have ea : ¬ a = M 1 0 := by omega
            by_cases c6 : k = 6
            · subst c6
              by_cases c7 : b < 0
              · exact ⟨-3, by simp (disch := (first | assumption | omega | ((repeat (refine mr_FIX_up ?_ (by unfold mr_nst; omega))); assumption))) [x43, x43_0, x43_1, x43_4, x43_5, x43_7, s43_10, s43_11, x43_14, s43_15, x43_18, s43_21, s43_22, s43_25, x43_28, x43_31, x43_33, x43_34, x43_35, x43_37, x43_40, x43_41, x43_44, x43_45, x43_47, x43_50, x43_52, s43_55, s43_56, x43_59, x43_61, x43_62, x43_63, s43_64, x43_67, s43_68, s43_69, x43_72, s43_73, x43_76, s43_79, s43_80, x43_83, x43_84, x43_85, x43_86, s43_87, x43_90, x43_93, x43_95, x4, s4_0, s4_1, x4_4, x4_6, x4_9, x4_10, x4_13, x4_14, x5, x5_0, x5_1, x5_4, s5_5, s5_6, x5_9, x5_12, x5_13, x5_16, x5_17, x80, x80_0, x80_1, x80_3, x80_6, x80_7, x80_10, x80_11, x80_13, x80_16, x80_17, x80_20, x80_21, s80_24, x80_25, s80_26, x80_29, x80_31, x80_32, x80_35, x80_36, x80_38, s80_41, x80_42, s80_43, x80_46, x80_49, x80_51, s80_54, s80_55, x80_58, x80_60, x80_63, x80_65, s80_66, x80_67, x80_68, x80_69, x80_70, s80_71, x80_74, x74, x74_0, x74_1, x74_4, s74_5, s74_6, x74_9, x74_12, x74_13, x74_16, x74_17, n3, c3, c4, c4b, c5, c7, hI]⟩
              · by_cases c8 : 9 < b
                · have c8b : ¬ b ≤ 9 := by omega
                  exact ⟨-3, by simp (disch := (first | assumption | omega | ((repeat (refine mr_FIX_up ?_ (by unfold mr_nst; omega))); assumption))) [x43, x43_0, x43_1, x43_4, x43_5, x43_7, s43_10, s43_11, x43_14, s43_15, x43_18, s43_21, s43_22, s43_25, x43_28, x43_31, x43_33, x43_34, x43_35, x43_37, x43_40, x43_41, x43_44, x43_45, x43_47, x43_50, x43_52, s43_55, s43_56, x43_59, x43_61, x43_62, x43_63, s43_64, x43_67, s43_68, s43_69, x43_72, s43_73, x43_76, s43_79, s43_80, x43_83, x43_84, x43_85, x43_86, s43_87, x43_90, x43_93, x43_95, x4, s4_0, s4_1, x4_4, x4_6, x4_9, x4_10, x4_13, x4_14, x5, x5_0, x5_1, x5_4, s5_5, s5_6, x5_9, x5_12, x5_13, x5_16, x5_17, x80, x80_0, x80_1, x80_3, x80_6, x80_7, x80_10, x80_11, x80_13, x80_16, x80_17, x80_20, x80_21, s80_24, x80_25, s80_26, x80_29, x80_31, x80_32, x80_35, x80_36, x80_38, s80_41, x80_42, s80_43, x80_46, x80_49, x80_51, s80_54, s80_55, x80_58, x80_60, x80_63, x80_65, s80_66, x80_67, x80_68, x80_69, x80_70, s80_71, x80_74, x74, x74_0, x74_1, x74_4, s74_5, s74_6, x74_9, x74_12, x74_13, x74_16, x74_17, n3, c3, c4, c4b, c5, c7, c8, c8b, hI]⟩
                · have c8b : b ≤ 9 := by omega
                  have eb : ¬ a = M 1 0 := by omega
                  refine ⟨M 1 0, ?_⟩
                  by_cases c9 : b = 0
                  · subst c9
                    simp (disch := (first | assumption | omega | ((repeat (refine mr_FIX_up ?_ (by unfold mr_nst; omega))); assumption))) [x43, x43_0, x43_1, x43_4, x43_5, x43_7, s43_10, s43_11, x43_14, s43_15, x43_18, s43_21, s43_22, s43_25, x43_28, x43_31, x43_33, x43_34, x43_35, x43_37, x43_40, x43_41, x43_44, x43_45, x43_47, x43_50, x43_52, s43_55, s43_56, x43_59, x43_61, x43_62, x43_63, s43_64, x43_67, s43_68, s43_69, x43_72, s43_73, x43_76, s43_79, s43_80, x43_83, x43_84, x43_85, x43_86, s43_87, x43_90, x43_93, x43_95, x4, s4_0, s4_1, x4_4, x4_6, x4_9, x4_10, x4_13, x4_14, x5, x5_0, x5_1, x5_4, s5_5, s5_6, x5_9, x5_12, x5_13, x5_16, x5_17, x11, s11_0, x11_1, x11_2, s11_4, x11_7, s11_9, s11_10, x11_13, x11_15, s11_16, s11_17, s11_18, x11_21, x11_23, s11_24, x11_25, x11_26, x11_28, x11_31, x11_33, x11_36, x11_37, x11_40, x11_41, s11_43, s11_44, x11_47, x11_49, x11_51, x11_54, x11_55, s11_58, s11_59, x11_62, s11_63, s11_64, s11_65, x11_68, s11_69, x11_70, s11_71, x11_72, x11_74, x12, s12_0, s12_1, s12_4, s12_5, x12_8, s12_9, s12_10, s12_11, s12_14, s12_15, x12_18, s12_19, s12_20, x12_21, s12_22, x12_25, x12_26, s12_27, s12_30, s12_31, x12_34, x12_35, x12_36, x80, x80_0, x80_1, x80_3, x80_6, x80_7, x80_10, x80_11, x80_13, x80_16, x80_17, x80_20, x80_21, s80_24, x80_25, s80_26, x80_29, x80_31, x80_32, x80_35, x80_36, x80_38, s80_41, x80_42, s80_43, x80_46, x80_49, x80_51, s80_54, s80_55, x80_58, x80_60, x80_63, x80_65, s80_66, x80_67, x80_68, x80_69, x80_70, s80_71, x80_74, x74, x74_0, x74_1, x74_4, s74_5, s74_6, x74_9, x74_12, x74_13, x74_16, x74_17, x77, s77_0, s77_1, s77_4, s77_5, x77_8, s77_9, s77_10, s77_11, s77_14, s77_15, x77_18, s77_19, s77_20, s77_21, s77_24, s77_25, x77_28, s77_29, s77_30, s77_31, s77_34, s77_35, x77_38, s77_40, s77_41, x77_42, s77_43, x77_46, x77_47, s77_48, s77_51, s77_52, x77_55, x77_56, x77_57, n3, c3, c4, c4b, c5, w1, w5, ma_up]
                    repeat (refine ⟨by omega, ?_⟩)
                    refine mr_INV_add hI (by omega) ?_ ?_ ?_ (fun c i hc hi => ?_) (fun c i hc => ?_) ?_ (Or.inl ?_) ?_
                    · repeat (refine mr_FIX_up ?_ (by unfold mr_nst; omega))
                      exact hF
                    · simp [ma_up]
                    · simp [ma_up]
                    · repeat (first | rw [ma_up_ne (by omega)] | rw [ma_up_ne2 (by omega)])
                    · repeat (rw [ma_up_ne (by omega)])
                    · simp [ma_up]
                    · simp [ma_up]
                      omega
                    · unfold mr_nd0
                      simp [ma_up, hz.1, ea, eb]
                      omega
                  · simp (disch := (first | assumption | omega | ((repeat (refine mr_FIX_up ?_ (by unfold mr_nst; omega))); assumption))) [x43, x43_0, x43_1, x43_4, x43_5, x43_7, s43_10, s43_11, x43_14, s43_15, x43_18, s43_21, s43_22, s43_25, x43_28, x43_31, x43_33, x43_34, x43_35, x43_37, x43_40, x43_41, x43_44, x43_45, x43_47, x43_50, x43_52, s43_55, s43_56, x43_59, x43_61, x43_62, x43_63, s43_64, x43_67, s43_68, s43_69, x43_72, s43_73, x43_76, s43_79, s43_80, x43_83, x43_84, x43_85, x43_86, s43_87, x43_90, x43_93, x43_95, x4, s4_0, s4_1, x4_4, x4_6, x4_9, x4_10, x4_13, x4_14, x5, x5_0, x5_1, x5_4, s5_5, s5_6, x5_9, x5_12, x5_13, x5_16, x5_17, x11, s11_0, x11_1, x11_2, s11_4, x11_7, s11_9, s11_10, x11_13, x11_15, s11_16, s11_17, s11_18, x11_21, x11_23, s11_24, x11_25, x11_26, x11_28, x11_31, x11_33, x11_36, x11_37, x11_40, x11_41, s11_43, s11_44, x11_47, x11_49, x11_51, x11_54, x11_55, s11_58, s11_59, x11_62, s11_63, s11_64, s11_65, x11_68, s11_69, x11_70, s11_71, x11_72, x11_74, x12, s12_0, s12_1, s12_4, s12_5, x12_8, s12_9, s12_10, s12_11, s12_14, s12_15, x12_18, s12_19, s12_20, x12_21, s12_22, x12_25, x12_26, s12_27, s12_30, s12_31, x12_34, x12_35, x12_36, x80, x80_0, x80_1, x80_3, x80_6, x80_7, x80_10, x80_11, x80_13, x80_16, x80_17, x80_20, x80_21, s80_24, x80_25, s80_26, x80_29, x80_31, x80_32, x80_35, x80_36, x80_38, s80_41, x80_42, s80_43, x80_46, x80_49, x80_51, s80_54, s80_55, x80_58, x80_60, x80_63, x80_65, s80_66, x80_67, x80_68, x80_69, x80_70, s80_71, x80_74, x74, x74_0, x74_1, x74_4, s74_5, s74_6, x74_9, x74_12, x74_13, x74_16, x74_17, x77, s77_0, s77_1, s77_4, s77_5, x77_8, s77_9, s77_10, s77_11, s77_14, s77_15, x77_18, s77_19, s77_20, s77_21, s77_24, s77_25, x77_28, s77_29, s77_30, s77_31, s77_34, s77_35, x77_38, s77_40, s77_41, x77_42, s77_43, x77_46, x77_47, s77_48, s77_51, s77_52, x77_55, x77_56, x77_57, n3, c3, c4, c4b, c5, c7, c8, c8b, c9, w1, w5, ma_up]
                    repeat (refine ⟨by omega, ?_⟩)
                    refine mr_INV_add hI (by omega) ?_ ?_ ?_ (fun c i hc hi => ?_) (fun c i hc => ?_) ?_ (Or.inl ?_) ?_
                    · repeat (refine mr_FIX_up ?_ (by unfold mr_nst; omega))
                      exact hF
                    · simp [ma_up]
                    · simp [ma_up]
                    · repeat (first | rw [ma_up_ne (by omega)] | rw [ma_up_ne2 (by omega)])
                    · repeat (rw [ma_up_ne (by omega)])
                    · simp [ma_up]
                    · simp [ma_up]
                      omega
                    · unfold mr_nd0
                      simp [ma_up, hz.1, ea, eb, c9]
                      omega
            · by_cases c7 : b < 0
              · exact ⟨-3, by simp (disch := (first | assumption | omega | ((repeat (refine mr_FIX_up ?_ (by unfold mr_nst; omega))); assumption))) [x43, x43_0, x43_1, x43_4, x43_5, x43_7, s43_10, s43_11, x43_14, s43_15, x43_18, s43_21, s43_22, s43_25, x43_28, x43_31, x43_33, x43_34, x43_35, x43_37, x43_40, x43_41, x43_44, x43_45, x43_47, x43_50, x43_52, s43_55, s43_56, x43_59, x43_61, x43_62, x43_63, s43_64, x43_67, s43_68, s43_69, x43_72, s43_73, x43_76, s43_79, s43_80, x43_83, x43_84, x43_85, x43_86, s43_87, x43_90, x43_93, x43_95, x4, s4_0, s4_1, x4_4, x4_6, x4_9, x4_10, x4_13, x4_14, x5, x5_0, x5_1, x5_4, s5_5, s5_6, x5_9, x5_12, x5_13, x5_16, x5_17, x80, x80_0, x80_1, x80_3, x80_6, x80_7, x80_10, x80_11, x80_13, x80_16, x80_17, x80_20, x80_21, s80_24, x80_25, s80_26, x80_29, x80_31, x80_32, x80_35, x80_36, x80_38, s80_41, x80_42, s80_43, x80_46, x80_49, x80_51, s80_54, s80_55, x80_58, x80_60, x80_63, x80_65, s80_66, x80_67, x80_68, x80_69, x80_70, s80_71, x80_74, x74, x74_0, x74_1, x74_4, s74_5, s74_6, x74_9, x74_12, x74_13, x74_16, x74_17, n3, c1, c2, c2b, c3, c4, c4b, c5, c6, c7, hI]⟩
              · by_cases c8 : M 1 0 ≤ b
                · have c8b : ¬ b < M 1 0 := by omega
                  exact ⟨-3, by simp (disch := (first | assumption | omega | ((repeat (refine mr_FIX_up ?_ (by unfold mr_nst; omega))); assumption))) [x43, x43_0, x43_1, x43_4, x43_5, x43_7, s43_10, s43_11, x43_14, s43_15, x43_18, s43_21, s43_22, s43_25, x43_28, x43_31, x43_33, x43_34, x43_35, x43_37, x43_40, x43_41, x43_44, x43_45, x43_47, x43_50, x43_52, s43_55, s43_56, x43_59, x43_61, x43_62, x43_63, s43_64, x43_67, s43_68, s43_69, x43_72, s43_73, x43_76, s43_79, s43_80, x43_83, x43_84, x43_85, x43_86, s43_87, x43_90, x43_93, x43_95, x4, s4_0, s4_1, x4_4, x4_6, x4_9, x4_10, x4_13, x4_14, x5, x5_0, x5_1, x5_4, s5_5, s5_6, x5_9, x5_12, x5_13, x5_16, x5_17, x80, x80_0, x80_1, x80_3, x80_6, x80_7, x80_10, x80_11, x80_13, x80_16, x80_17, x80_20, x80_21, s80_24, x80_25, s80_26, x80_29, x80_31, x80_32, x80_35, x80_36, x80_38, s80_41, x80_42, s80_43, x80_46, x80_49, x80_51, s80_54, s80_55, x80_58, x80_60, x80_63, x80_65, s80_66, x80_67, x80_68, x80_69, x80_70, s80_71, x80_74, x74, x74_0, x74_1, x74_4, s74_5, s74_6, x74_9, x74_12, x74_13, x74_16, x74_17, n3, c1, c2, c2b, c3, c4, c4b, c5, c6, c7, c8, c8b, hI]⟩
                · have c8b : b < M 1 0 := by omega
                  have eb : ¬ b = M 1 0 := by omega
                  refine ⟨M 1 0, ?_⟩
                  simp (disch := (first | assumption | omega | ((repeat (refine mr_FIX_up ?_ (by unfold mr_nst; omega))); assumption))) [x43, x43_0, x43_1, x43_4, x43_5, x43_7, s43_10, s43_11, x43_14, s43_15, x43_18, s43_21, s43_22, s43_25, x43_28, x43_31, x43_33, x43_34, x43_35, x43_37, x43_40, x43_41, x43_44, x43_45, x43_47, x43_50, x43_52, s43_55, s43_56, x43_59, x43_61, x43_62, x43_63, s43_64, x43_67, s43_68, s43_69, x43_72, s43_73, x43_76, s43_79, s43_80, x43_83, x43_84, x43_85, x43_86, s43_87, x43_90, x43_93, x43_95, x4, s4_0, s4_1, x4_4, x4_6, x4_9, x4_10, x4_13, x4_14, x5, x5_0, x5_1, x5_4, s5_5, s5_6, x5_9, x5_12, x5_13, x5_16, x5_17, x11, s11_0, x11_1, x11_2, s11_4, x11_7, s11_9, s11_10, x11_13, x11_15, s11_16, s11_17, s11_18, x11_21, x11_23, s11_24, x11_25, x11_26, x11_28, x11_31, x11_33, x11_36, x11_37, x11_40, x11_41, s11_43, s11_44, x11_47, x11_49, x11_51, x11_54, x11_55, s11_58, s11_59, x11_62, s11_63, s11_64, s11_65, x11_68, s11_69, x11_70, s11_71, x11_72, x11_74, x12, s12_0, s12_1, s12_4, s12_5, x12_8, s12_9, s12_10, s12_11, s12_14, s12_15, x12_18, s12_19, s12_20, x12_21, s12_22, x12_25, x12_26, s12_27, s12_30, s12_31, x12_34, x12_35, x12_36, x80, x80_0, x80_1, x80_3, x80_6, x80_7, x80_10, x80_11, x80_13, x80_16, x80_17, x80_20, x80_21, s80_24, x80_25, s80_26, x80_29, x80_31, x80_32, x80_35, x80_36, x80_38, s80_41, x80_42, s80_43, x80_46, x80_49, x80_51, s80_54, s80_55, x80_58, x80_60, x80_63, x80_65, s80_66, x80_67, x80_68, x80_69, x80_70, s80_71, x80_74, x74, x74_0, x74_1, x74_4, s74_5, s74_6, x74_9, x74_12, x74_13, x74_16, x74_17, x77, s77_0, s77_1, s77_4, s77_5, x77_8, s77_9, s77_10, s77_11, s77_14, s77_15, x77_18, s77_19, s77_20, s77_21, s77_24, s77_25, x77_28, s77_29, s77_30, s77_31, s77_34, s77_35, x77_38, s77_40, s77_41, x77_42, s77_43, x77_46, x77_47, s77_48, s77_51, s77_52, x77_55, x77_56, x77_57, n3, c1, c2, c2b, c3, c4, c4b, c5, c6, c7, c8, c8b, w1, w5, ma_up]
                  repeat (refine ⟨by omega, ?_⟩)
                  refine mr_INV_add hI (by omega) ?_ ?_ ?_ (fun c i hc hi => ?_) (fun c i hc => ?_) ?_ (Or.inl ?_) ?_
                  · repeat (refine mr_FIX_up ?_ (by unfold mr_nst; omega))
                    exact hF
                  · simp [ma_up]
                  · simp [ma_up]
                  · repeat (first | rw [ma_up_ne (by omega)] | rw [ma_up_ne2 (by omega)])
                  · repeat (rw [ma_up_ne (by omega)])
                  · simp [ma_up]
                  · simp [ma_up]
                    omega
                  · unfold mr_nd0
                    simp [ma_up, hz.1, ea, eb, c6]
                    omega
