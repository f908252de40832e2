set_option maxHeartbeats 4000000 in
theorem mp_point : mr_p2 45 82 := by
  intro M a b hI ha hb
  obtain ⟨hF, ⟨⟨n1, n2, n3⟩, ⟨i1, i2, i3⟩, ⟨o1, o2, o3⟩⟩, hnd, hfr, hin, hnum, hout, hmar, hsn⟩ := id hI
  unfold mr_pair
  by_cases h1 : a < 0
  · exact ⟨0, by simp (disch := (first | assumption | omega | ((repeat (refine mr_FIX_up ?_ (by unfold mr_nst; omega))); assumption))) [x45, s45_0, s45_1, x45_4, s45_5, x45_8, x45_11, x45_12, s45_13, s45_14, x45_17, x45_18, x45_19, x45_20, s45_23, x45_24, x45_25, x6, x6_0, x6_1, x6_4, s6_5, s6_6, x6_9, x6_12, x6_13, x6_16, x6_17, x82, s82_0, x82_1, s82_2, x82_5, x82_8, x82_9, s82_10, s82_11, x82_14, x82_15, x82_16, s82_19, x82_20, x82_21, x75, x75_0, x75_1, x75_4, s75_5, s75_6, x75_9, x75_12, x75_13, x75_16, x75_17, i3, h1, hI]⟩
  · by_cases h2 : M 1 1 ≤ a
    · have h2b : ¬ a < M 1 1 := by omega
      exact ⟨0, by simp (disch := (first | assumption | omega | ((repeat (refine mr_FIX_up ?_ (by unfold mr_nst; omega))); assumption))) [x45, s45_0, s45_1, x45_4, s45_5, x45_8, x45_11, x45_12, s45_13, s45_14, x45_17, x45_18, x45_19, x45_20, s45_23, x45_24, x45_25, x6, x6_0, x6_1, x6_4, s6_5, s6_6, x6_9, x6_12, x6_13, x6_16, x6_17, x82, s82_0, x82_1, s82_2, x82_5, x82_8, x82_9, s82_10, s82_11, x82_14, x82_15, x82_16, s82_19, x82_20, x82_21, x75, x75_0, x75_1, x75_4, s75_5, s75_6, x75_9, x75_12, x75_13, x75_16, x75_17, i3, h1, h2, h2b, hI]⟩
    · have h2b : a < M 1 1 := by omega
      refine ⟨1, ?_⟩
      simp (disch := (first | assumption | omega | ((repeat (refine mr_FIX_up ?_ (by unfold mr_nst; omega))); assumption))) [x45, s45_0, s45_1, x45_4, s45_5, x45_8, x45_11, x45_12, s45_13, s45_14, x45_17, x45_18, x45_19, x45_20, s45_23, x45_24, x45_25, x6, x6_0, x6_1, x6_4, s6_5, s6_6, x6_9, x6_12, x6_13, x6_16, x6_17, x82, s82_0, x82_1, s82_2, x82_5, x82_8, x82_9, s82_10, s82_11, x82_14, x82_15, x82_16, s82_19, x82_20, x82_21, x75, x75_0, x75_1, x75_4, s75_5, s75_6, x75_9, x75_12, x75_13, x75_16, x75_17, i3, h1, h2, h2b, mr_standFor, mr_number, ma_up]
      repeat (refine ⟨by omega, ?_⟩)
      have e42 : ∀ c i, c ≠ 50 → c ≠ 86 → ma_up (ma_up M 50 a (b % 65521)) 86 a (b % 65521) c i = M c i := fun c i g1 g2 => by rw [ma_up_ne g2, ma_up_ne g1]
      refine mr_INV_gen hI (mr_FIX_eq hF (fun c i hn => e42 c i (by unfold mr_nst at hn; omega) (by unfold mr_nst at hn; omega))) (fun c i hc => e42 c i (by omega) (by omega)) ⟨e42 80 0 (by omega) (by omega), e42 80 5 (by omega) (by omega)⟩ ?_ (fun v k h4 h5 h6 h7 h8 => e42 _ _ (by omega) (by omega)) (fun j h4 h5 => ?_) (fun j h4 h5 => ?_) ⟨?_, fun j h4 h5 => ?_⟩ ?_
      · rw [e42 0 11 (by omega) (by omega), e42 80 9 (by omega) (by omega)]
        omega
      · have := hnum j h4 h5
        by_cases e : j = a
        · subst e
          simp [ma_up]
          omega
        · simpa [ma_up, e] using this
      · rw [e42 0 11 (by omega) (by omega)] at h5
        rw [e42 88 _ (by omega) (by omega), e42 54 _ (by omega) (by omega), e42 1 _ (by omega) (by omega)]
        exact hout j h4 h5
      · rw [e42 0 15 (by omega) (by omega), e42 80 22 (by omega) (by omega)]
        exact hmar.1
      · rw [e42 0 15 (by omega) (by omega)] at h5
        rw [e42 100 _ (by omega) (by omega), e42 78 _ (by omega) (by omega), e42 101 _ (by omega) (by omega), e42 79 _ (by omega) (by omega)]
        exact hmar.2 j h4 h5
      · unfold mr_snp at hsn ⊢
        rw [e42 42 1 (by omega) (by omega)]
        rcases hsn with ⟨q1, q2⟩ | ⟨q1, q2⟩
        · exact Or.inl ⟨q1, fun s n g1 g2 g3 g4 => (e42 _ _ (by omega) (by omega)).trans (q2 s n g1 g2 g3 g4)⟩
        · exact Or.inr ⟨q1, fun s n g1 g2 g3 g4 => (e42 _ _ (by omega) (by omega)).trans (q2 s n g1 g2 g3 g4)⟩
set_option maxHeartbeats 4000000 in
theorem mp_direction : mr_p2 46 83 := by
  intro M a b hI ha hb
  obtain ⟨hF, ⟨⟨n1, n2, n3⟩, ⟨i1, i2, i3⟩, ⟨o1, o2, o3⟩⟩, hnd, hfr, hin, hnum, hout, hmar, hsn⟩ := id hI
  unfold mr_pair
  by_cases h1 : a < 0
  · exact ⟨0, by simp (disch := (first | assumption | omega | ((repeat (refine mr_FIX_up ?_ (by unfold mr_nst; omega))); assumption))) [x46, s46_0, s46_1, x46_4, s46_5, x46_8, x46_11, x46_12, s46_13, s46_14, x46_17, x46_18, x46_19, x46_20, s46_23, x46_24, x46_25, x6, x6_0, x6_1, x6_4, s6_5, s6_6, x6_9, x6_12, x6_13, x6_16, x6_17, x83, s83_0, x83_1, s83_2, x83_5, x83_8, x83_9, s83_10, s83_11, x83_14, x83_15, x83_16, s83_19, x83_20, x83_21, x75, x75_0, x75_1, x75_4, s75_5, s75_6, x75_9, x75_12, x75_13, x75_16, x75_17, i3, h1, hI]⟩
  · by_cases h2 : M 1 1 ≤ a
    · have h2b : ¬ a < M 1 1 := by omega
      exact ⟨0, by simp (disch := (first | assumption | omega | ((repeat (refine mr_FIX_up ?_ (by unfold mr_nst; omega))); assumption))) [x46, s46_0, s46_1, x46_4, s46_5, x46_8, x46_11, x46_12, s46_13, s46_14, x46_17, x46_18, x46_19, x46_20, s46_23, x46_24, x46_25, x6, x6_0, x6_1, x6_4, s6_5, s6_6, x6_9, x6_12, x6_13, x6_16, x6_17, x83, s83_0, x83_1, s83_2, x83_5, x83_8, x83_9, s83_10, s83_11, x83_14, x83_15, x83_16, s83_19, x83_20, x83_21, x75, x75_0, x75_1, x75_4, s75_5, s75_6, x75_9, x75_12, x75_13, x75_16, x75_17, i3, h1, h2, h2b, hI]⟩
    · have h2b : a < M 1 1 := by omega
      refine ⟨1, ?_⟩
      simp (disch := (first | assumption | omega | ((repeat (refine mr_FIX_up ?_ (by unfold mr_nst; omega))); assumption))) [x46, s46_0, s46_1, x46_4, s46_5, x46_8, x46_11, x46_12, s46_13, s46_14, x46_17, x46_18, x46_19, x46_20, s46_23, x46_24, x46_25, x6, x6_0, x6_1, x6_4, s6_5, s6_6, x6_9, x6_12, x6_13, x6_16, x6_17, x83, s83_0, x83_1, s83_2, x83_5, x83_8, x83_9, s83_10, s83_11, x83_14, x83_15, x83_16, s83_19, x83_20, x83_21, x75, x75_0, x75_1, x75_4, s75_5, s75_6, x75_9, x75_12, x75_13, x75_16, x75_17, i3, h1, h2, h2b, mr_standFor, mr_number, ma_up]
      repeat (refine ⟨by omega, ?_⟩)
      have e42 : ∀ c i, c ≠ 51 → c ≠ 87 → ma_up (ma_up M 51 a (b % 65521)) 87 a (b % 65521) c i = M c i := fun c i g1 g2 => by rw [ma_up_ne g2, ma_up_ne g1]
      refine mr_INV_gen hI (mr_FIX_eq hF (fun c i hn => e42 c i (by unfold mr_nst at hn; omega) (by unfold mr_nst at hn; omega))) (fun c i hc => e42 c i (by omega) (by omega)) ⟨e42 80 0 (by omega) (by omega), e42 80 5 (by omega) (by omega)⟩ ?_ (fun v k h4 h5 h6 h7 h8 => e42 _ _ (by omega) (by omega)) (fun j h4 h5 => ?_) (fun j h4 h5 => ?_) ⟨?_, fun j h4 h5 => ?_⟩ ?_
      · rw [e42 0 11 (by omega) (by omega), e42 80 9 (by omega) (by omega)]
        omega
      · have := hnum j h4 h5
        by_cases e : j = a
        · subst e
          simp [ma_up]
          omega
        · simpa [ma_up, e] using this
      · rw [e42 0 11 (by omega) (by omega)] at h5
        rw [e42 88 _ (by omega) (by omega), e42 54 _ (by omega) (by omega), e42 1 _ (by omega) (by omega)]
        exact hout j h4 h5
      · rw [e42 0 15 (by omega) (by omega), e42 80 22 (by omega) (by omega)]
        exact hmar.1
      · rw [e42 0 15 (by omega) (by omega)] at h5
        rw [e42 100 _ (by omega) (by omega), e42 78 _ (by omega) (by omega), e42 101 _ (by omega) (by omega), e42 79 _ (by omega) (by omega)]
        exact hmar.2 j h4 h5
      · unfold mr_snp at hsn ⊢
        rw [e42 42 1 (by omega) (by omega)]
        rcases hsn with ⟨q1, q2⟩ | ⟨q1, q2⟩
        · exact Or.inl ⟨q1, fun s n g1 g2 g3 g4 => (e42 _ _ (by omega) (by omega)).trans (q2 s n g1 g2 g3 g4)⟩
        · exact Or.inr ⟨q1, fun s n g1 g2 g3 g4 => (e42 _ _ (by omega) (by omega)).trans (q2 s n g1 g2 g3 g4)⟩
set_option maxHeartbeats 4000000 in
theorem mp_weight : mr_p2 47 84 := by
  intro M a b hI ha hb
  obtain ⟨hF, ⟨⟨n1, n2, n3⟩, ⟨i1, i2, i3⟩, ⟨o1, o2, o3⟩⟩, hnd, hfr, hin, hnum, hout, hmar, hsn⟩ := id hI
  unfold mr_pair
  by_cases h1 : a < 0
  · exact ⟨0, by simp (disch := (first | assumption | omega | ((repeat (refine mr_FIX_up ?_ (by unfold mr_nst; omega))); assumption))) [x47, s47_0, x47_1, s47_2, x47_5, x47_8, x47_9, s47_10, s47_11, x47_14, x47_15, x47_16, x47_17, s47_20, x47_21, x47_22, x61, x61_0, x61_1, x61_4, s61_5, s61_6, x61_9, x61_12, x61_13, x61_16, x61_17, x84, s84_0, x84_1, s84_2, x84_5, x84_8, x84_9, s84_10, s84_11, x84_14, x84_15, x84_16, s84_19, x84_20, x84_21, x76, x76_0, x76_1, x76_4, s76_5, s76_6, x76_9, x76_12, x76_13, x76_16, x76_17, o3, h1, hI]⟩
  · by_cases h2 : M 0 11 ≤ a
    · have h2b : ¬ a < M 0 11 := by omega
      exact ⟨0, by simp (disch := (first | assumption | omega | ((repeat (refine mr_FIX_up ?_ (by unfold mr_nst; omega))); assumption))) [x47, s47_0, x47_1, s47_2, x47_5, x47_8, x47_9, s47_10, s47_11, x47_14, x47_15, x47_16, x47_17, s47_20, x47_21, x47_22, x61, x61_0, x61_1, x61_4, s61_5, s61_6, x61_9, x61_12, x61_13, x61_16, x61_17, x84, s84_0, x84_1, s84_2, x84_5, x84_8, x84_9, s84_10, s84_11, x84_14, x84_15, x84_16, s84_19, x84_20, x84_21, x76, x76_0, x76_1, x76_4, s76_5, s76_6, x76_9, x76_12, x76_13, x76_16, x76_17, o3, h1, h2, h2b, hI]⟩
    · have h2b : a < M 0 11 := by omega
      refine ⟨1, ?_⟩
      simp (disch := (first | assumption | omega | ((repeat (refine mr_FIX_up ?_ (by unfold mr_nst; omega))); assumption))) [x47, s47_0, x47_1, s47_2, x47_5, x47_8, x47_9, s47_10, s47_11, x47_14, x47_15, x47_16, x47_17, s47_20, x47_21, x47_22, x61, x61_0, x61_1, x61_4, s61_5, s61_6, x61_9, x61_12, x61_13, x61_16, x61_17, x84, s84_0, x84_1, s84_2, x84_5, x84_8, x84_9, s84_10, s84_11, x84_14, x84_15, x84_16, s84_19, x84_20, x84_21, x76, x76_0, x76_1, x76_4, s76_5, s76_6, x76_9, x76_12, x76_13, x76_16, x76_17, o3, h1, h2, h2b, mr_standFor, mr_number, ma_up]
      repeat (refine ⟨by omega, ?_⟩)
      have e42 : ∀ c i, c ≠ 55 → c ≠ 89 → ma_up (ma_up M 55 a (b % 65521)) 89 a (b % 65521) c i = M c i := fun c i g1 g2 => by rw [ma_up_ne g2, ma_up_ne g1]
      refine mr_INV_gen hI (mr_FIX_eq hF (fun c i hn => e42 c i (by unfold mr_nst at hn; omega) (by unfold mr_nst at hn; omega))) (fun c i hc => e42 c i (by omega) (by omega)) ⟨e42 80 0 (by omega) (by omega), e42 80 5 (by omega) (by omega)⟩ ?_ (fun v k h4 h5 h6 h7 h8 => e42 _ _ (by omega) (by omega)) (fun j h4 h5 => ?_) (fun j h4 h5 => ?_) ⟨?_, fun j h4 h5 => ?_⟩ ?_
      · rw [e42 0 11 (by omega) (by omega), e42 80 9 (by omega) (by omega)]
        omega
      · have := hnum j h4 h5
        by_cases e : j = a
        · subst e
          simp [ma_up]
          omega
        · simpa [ma_up, e] using this
      · rw [e42 0 11 (by omega) (by omega)] at h5
        rw [e42 88 _ (by omega) (by omega), e42 54 _ (by omega) (by omega), e42 1 _ (by omega) (by omega)]
        exact hout j h4 h5
      · rw [e42 0 15 (by omega) (by omega), e42 80 22 (by omega) (by omega)]
        exact hmar.1
      · rw [e42 0 15 (by omega) (by omega)] at h5
        rw [e42 100 _ (by omega) (by omega), e42 78 _ (by omega) (by omega), e42 101 _ (by omega) (by omega), e42 79 _ (by omega) (by omega)]
        exact hmar.2 j h4 h5
      · unfold mr_snp at hsn ⊢
        rw [e42 42 1 (by omega) (by omega)]
        rcases hsn with ⟨q1, q2⟩ | ⟨q1, q2⟩
        · exact Or.inl ⟨q1, fun s n g1 g2 g3 g4 => (e42 _ _ (by omega) (by omega)).trans (q2 s n g1 g2 g3 g4)⟩
        · exact Or.inr ⟨q1, fun s n g1 g2 g3 g4 => (e42 _ _ (by omega) (by omega)).trans (q2 s n g1 g2 g3 g4)⟩
set_option maxHeartbeats 8000000 in
theorem mp_operation : mr_p3 43 80 := by
  intro M k a b hI hk ha hb
  obtain ⟨hF, ⟨⟨n1, n2, n3⟩, ⟨i1, i2, i3⟩, ⟨o1, o2, o3⟩⟩, hnd, hfr, hin, hnum, hout, hmar, hsn⟩ := id hI
  unfold mr_pair
  have w1 : ma_32 (M 1 0 + 1) = M 1 0 + 1 := ma_32i (by omega) (by omega)
  have w5 : ma_32 (M 1 0) = M 1 0 := ma_32i (by omega) (by omega)
  by_cases h1 : (0 ≤ k ∧ k ≤ 6) ∧ (0 ≤ a ∧ a < M 1 0) ∧ (k = 6 ∧ 0 ≤ b ∧ b ≤ 9 ∨ k ≠ 6 ∧ 0 ≤ b ∧ b < M 1 0) ∧ M 1 0 ≠ 24
  · sorry
  · sorry
