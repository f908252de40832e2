theorem mr_INV_gen {M M' : ma_M} (hI : mr_INV M) (hF' : mr_FIX M') (hc : ∀ c i, (1 ≤ c ∧ c ≤ 7) ∨ (81 ≤ c ∧ c ≤ 85) → M' c i = M c i) (h80 : M' 80 0 = M 80 0 ∧ M' 80 5 = M 80 5) (hO : 0 ≤ M' 0 11 ∧ M' 0 11 ≤ 5 ∧ M' 80 9 = M' 0 11) (hrow : ∀ v k, 0 ≤ v → v < 24 → 0 ≤ k → k ≤ 8 → M 1 0 ≤ v ∨ (M 2 v = 7 ∧ 2 ≤ k) ∨ (M 2 v = 8 ∧ 1 ≤ k) → M' (10 + v) k = M (10 + v) k) (hnum' : mr_num M') (hout' : mr_outs M') (hmar' : mr_mar M') (hsn' : mr_snp M') : mr_INV M' := by
  obtain ⟨hF, hcnt, hnd, hfr, hin, hnum, hout, hmar, hsn⟩ := hI
  have hcn := hcnt
  unfold mr_cnt at hcn
  refine ⟨hF', ?_, fun v h0 hv => ?_, fun v h0 hv => ?_, fun j h0 hj => ?_, hnum', hout', hmar', hsn'⟩
  · unfold mr_cnt
    rw [hc 1 0 (by omega), hc 1 1 (by omega), h80.1, h80.2]
    omega
  · rw [hc 1 0 (by omega)] at hv
    exact mr_nd_eq (hnd v h0 hv) h0 (by omega) (hc 2 v (by omega)) (hc 3 v (by omega)) (hc 4 v (by omega)) (hc 5 v (by omega)) (fun u _ _ => hc 6 u (by omega)) (hc 81 v (by omega)) (hc 82 v (by omega)) (hc 83 v (by omega)) (hc 84 v (by omega)) (by rw [hc 1 1 (by omega)]; omega) (fun j _ _ => hc 7 j (by omega)) (fun k h1 h2 h3 => hrow v k h0 (by omega) h1 h2 (Or.inr h3))
  · rw [hc 1 0 (by omega)] at h0
    obtain ⟨a, b⟩ := hfr v h0 hv
    exact ⟨(hc 6 v (by omega)).trans a, fun k h1 h2 => (hrow v k (by omega) hv h1 h2 (Or.inl h0)).trans (b k h1 h2)⟩
  · rw [hc 1 1 (by omega)] at hj
    have a := hin j h0 hj
    rw [hc 7 j (by omega), hc 1 0 (by omega), hc 85 j (by omega), hc 2 (M 7 j) (by omega), hc 5 (M 7 j) (by omega)]
    exact a
set_option maxHeartbeats 4000000 in
theorem mp_constant : mr_p1 42 79 := by
  intro M a hI ha
  obtain ⟨hF, ⟨⟨n1, n2, n3⟩, ⟨i1, i2, i3⟩, ⟨o1, o2, o3⟩⟩, hnd, hfr, hin, hnum, hout, hmar, hsn⟩ := id hI
  unfold mr_pair
  by_cases h1 : M 1 0 = 24
  · exact ⟨-3, by simp (disch := (first | assumption | omega | ((repeat (refine mr_FIX_up ?_ (by unfold mr_nst; omega))); assumption))) [x42, s42_0, s42_1, s42_4, x42_7, x42_10, x42_12, s42_13, s42_14, x42_17, x42_18, x42_19, s42_22, x42_25, x4, s4_0, s4_1, x4_4, x4_6, x4_9, x4_10, x4_13, x4_14, x79, s79_0, s79_1, x79_4, x79_6, x79_9, x79_11, s79_14, x79_15, x79_17, x79_18, x79_19, x79_20, s79_23, x79_26, n3, h1, hI]⟩
  · refine ⟨M 1 0, ?_⟩
    have w1 : ma_32 (M 1 0 + 1) = M 1 0 + 1 := ma_32i (by omega) (by omega)
    have w5 : ma_32 (M 1 0) = M 1 0 := ma_32i (by omega) (by omega)
    simp (disch := (first | assumption | omega | ((repeat (refine mr_FIX_up ?_ (by unfold mr_nst; omega))); assumption))) [x42, s42_0, s42_1, s42_4, x42_7, x42_10, x42_12, s42_13, s42_14, x42_17, x42_18, x42_19, s42_22, x42_25, x4, s4_0, s4_1, x4_4, x4_6, x4_9, x4_10, x4_13, x4_14, x10, s10_0, x10_1, x10_3, s10_4, x10_7, x12, s12_0, s12_1, s12_4, s12_5, x12_8, s12_9, s12_10, s12_11, s12_14, s12_15, x12_18, s12_19, s12_20, x12_21, s12_22, x12_25, x12_26, s12_27, s12_30, s12_31, x12_34, x12_35, x12_36, x79, s79_0, s79_1, x79_4, x79_6, x79_9, x79_11, s79_14, x79_15, x79_17, x79_18, x79_19, x79_20, s79_23, x79_26, x77, s77_0, s77_1, s77_4, s77_5, x77_8, s77_9, s77_10, s77_11, s77_14, s77_15, x77_18, s77_19, s77_20, s77_21, s77_24, s77_25, x77_28, s77_29, s77_30, s77_31, s77_34, s77_35, x77_38, s77_40, s77_41, x77_42, s77_43, x77_46, x77_47, s77_48, s77_51, s77_52, x77_55, x77_56, x77_57, mr_standFor, mr_number, n3, h1, w1, w5, ma_up]
    repeat (refine ⟨by omega, ?_⟩)
    have hz := hfr (M 1 0) (by omega) (by omega)
    refine mr_INV_add hI (by omega) ?_ ?_ ?_ (fun c i hc hi => ?_) (fun c i hc => ?_) ?_ (Or.inl ?_) ?_
    · repeat (refine mr_FIX_up ?_ (by unfold mr_nst; omega))
      exact hF
    · simp [ma_up]
    · simp [ma_up]
    · repeat (first | rw [ma_up_ne (by omega)] | rw [ma_up_ne2 (by omega)])
    · repeat (rw [ma_up_ne (by omega)])
    · simp [ma_up]
    · simp [ma_up]
      omega
    · unfold mr_nd0
      simp [ma_up, hz.1]
      omega
set_option maxHeartbeats 4000000 in
theorem mp_output : mr_p1 44 81 := by
  intro M a hI ha
  obtain ⟨hF, ⟨⟨n1, n2, n3⟩, ⟨i1, i2, i3⟩, ⟨o1, o2, o3⟩⟩, hnd, hfr, hin, hnum, hout, hmar, hsn⟩ := id hI
  unfold mr_pair
  by_cases h1 : a < 0
  · exact ⟨-3, by simp (disch := (first | assumption | omega | ((repeat (refine mr_FIX_up ?_ (by unfold mr_nst; omega))); assumption))) [x44, s44_0, s44_1, x44_4, s44_5, x44_8, s44_11, s44_12, x44_15, x44_16, x44_19, x44_21, s44_22, s44_23, s44_26, s44_27, x44_30, s44_31, s44_32, x44_33, s44_34, x44_37, x44_38, s44_39, s44_42, s44_43, x44_46, x44_47, x44_48, x5, x5_0, x5_1, x5_4, s5_5, s5_6, x5_9, x5_12, x5_13, x5_16, x5_17, x81, s81_0, x81_1, s81_2, x81_5, s81_8, s81_9, x81_12, x81_13, x81_16, x81_18, s81_19, s81_20, s81_23, s81_24, x81_27, s81_28, s81_29, x81_30, s81_31, x81_34, x81_35, s81_36, s81_39, s81_40, x81_43, x81_44, x81_45, x74, x74_0, x74_1, x74_4, s74_5, s74_6, x74_9, x74_12, x74_13, x74_16, x74_17, n3, h1, hI]⟩
  · by_cases h2 : M 1 0 ≤ a
    · have h2b : ¬ a < M 1 0 := by omega
      exact ⟨-3, by simp (disch := (first | assumption | omega | ((repeat (refine mr_FIX_up ?_ (by unfold mr_nst; omega))); assumption))) [x44, s44_0, s44_1, x44_4, s44_5, x44_8, s44_11, s44_12, x44_15, x44_16, x44_19, x44_21, s44_22, s44_23, s44_26, s44_27, x44_30, s44_31, s44_32, x44_33, s44_34, x44_37, x44_38, s44_39, s44_42, s44_43, x44_46, x44_47, x44_48, x5, x5_0, x5_1, x5_4, s5_5, s5_6, x5_9, x5_12, x5_13, x5_16, x5_17, x81, s81_0, x81_1, s81_2, x81_5, s81_8, s81_9, x81_12, x81_13, x81_16, x81_18, s81_19, s81_20, s81_23, s81_24, x81_27, s81_28, s81_29, x81_30, s81_31, x81_34, x81_35, s81_36, s81_39, s81_40, x81_43, x81_44, x81_45, x74, x74_0, x74_1, x74_4, s74_5, s74_6, x74_9, x74_12, x74_13, x74_16, x74_17, n3, h1, h2, h2b, hI]⟩
    · have h2b : a < M 1 0 := by omega
      by_cases h3 : M 0 11 = 5
      · exact ⟨-3, by simp (disch := (first | assumption | omega | ((repeat (refine mr_FIX_up ?_ (by unfold mr_nst; omega))); assumption))) [x44, s44_0, s44_1, x44_4, s44_5, x44_8, s44_11, s44_12, x44_15, x44_16, x44_19, x44_21, s44_22, s44_23, s44_26, s44_27, x44_30, s44_31, s44_32, x44_33, s44_34, x44_37, x44_38, s44_39, s44_42, s44_43, x44_46, x44_47, x44_48, x5, x5_0, x5_1, x5_4, s5_5, s5_6, x5_9, x5_12, x5_13, x5_16, x5_17, x81, s81_0, x81_1, s81_2, x81_5, s81_8, s81_9, x81_12, x81_13, x81_16, x81_18, s81_19, s81_20, s81_23, s81_24, x81_27, s81_28, s81_29, x81_30, s81_31, x81_34, x81_35, s81_36, s81_39, s81_40, x81_43, x81_44, x81_45, x74, x74_0, x74_1, x74_4, s74_5, s74_6, x74_9, x74_12, x74_13, x74_16, x74_17, n3, o3, h1, h2, h2b, h3, hI]⟩
      · refine ⟨M 0 11, ?_⟩
        have w1 : ma_32 (M 0 11 + 1) = M 0 11 + 1 := ma_32i (by omega) (by omega)
        have w5 : ma_32 (M 0 11) = M 0 11 := ma_32i (by omega) (by omega)
        simp (disch := (first | assumption | omega | ((repeat (refine mr_FIX_up ?_ (by unfold mr_nst; omega))); assumption))) [x44, s44_0, s44_1, x44_4, s44_5, x44_8, s44_11, s44_12, x44_15, x44_16, x44_19, x44_21, s44_22, s44_23, s44_26, s44_27, x44_30, s44_31, s44_32, x44_33, s44_34, x44_37, x44_38, s44_39, s44_42, s44_43, x44_46, x44_47, x44_48, x5, x5_0, x5_1, x5_4, s5_5, s5_6, x5_9, x5_12, x5_13, x5_16, x5_17, x81, s81_0, x81_1, s81_2, x81_5, s81_8, s81_9, x81_12, x81_13, x81_16, x81_18, s81_19, s81_20, s81_23, s81_24, x81_27, s81_28, s81_29, x81_30, s81_31, x81_34, x81_35, s81_36, s81_39, s81_40, x81_43, x81_44, x81_45, x74, x74_0, x74_1, x74_4, s74_5, s74_6, x74_9, x74_12, x74_13, x74_16, x74_17, n3, o3, h1, h2, h2b, h3, w1, w5, ma_up]
        repeat (refine ⟨by omega, ?_⟩)
        refine mr_INV_gen hI ?_ (fun c i hc => ?_) ?_ ?_ (fun v k h4 h5 h6 h7 h8 => ?_) (fun j h4 h5 => ?_) (fun j h4 h5 => ?_) ⟨?_, fun j h4 h5 => ?_⟩ ?_
        · repeat (refine mr_FIX_up ?_ (by unfold mr_nst; omega))
          exact hF
        · repeat (rw [ma_up_ne (by omega)])
        · simp [ma_up]
        · simp [ma_up]
          omega
        · repeat (rw [ma_up_ne (by omega)])
        · have := hnum j h4 h5
          simpa [ma_up] using this
        · simp [ma_up] at h5 ⊢
          by_cases e : j = M 0 11
          · simp [e]
            omega
          · have := hout j h4 (by omega)
            simpa [e] using this
        · simpa [ma_up] using hmar.1
        · simp [ma_up] at h5 ⊢
          exact hmar.2 j h4 h5
        · unfold mr_snp at hsn ⊢
          have e42 : ∀ c i, 42 ≤ c → c ≤ 49 → ma_up (ma_up (ma_up (ma_up M 54 (M 0 11) a) 0 11 (M 0 11 + 1)) 88 (M 0 11) a) 80 9 (M 0 11 + 1) c i = M c i := fun c i g1 g2 => by repeat (rw [ma_up_ne (by omega)])
          rw [e42 42 1 (by omega) (by omega)]
          rcases hsn with ⟨q1, q2⟩ | ⟨q1, q2⟩
          · exact Or.inl ⟨q1, fun s n g1 g2 g3 g4 => (e42 _ _ (by omega) (by omega)).trans (q2 s n g1 g2 g3 g4)⟩
          · exact Or.inr ⟨q1, fun s n g1 g2 g3 g4 => (e42 _ _ (by omega) (by omega)).trans (q2 s n g1 g2 g3 g4)⟩
