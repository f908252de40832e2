set_option maxHeartbeats 4000000 in
theorem mp_input : mr_p0 41 78 := by
  intro M hI
  obtain ⟨hF, ⟨⟨n1, n2, n3⟩, ⟨i1, i2, i3⟩, ⟨o1, o2, o3⟩⟩, hnd, hfr, hin, hnum, hout, hmar, hsn⟩ := id hI
  unfold mr_pair
  by_cases h1 : M 1 0 = 24
  · exact ⟨-3, by simp (disch := (first | assumption | omega | ((repeat (refine mr_FIX_up ?_ (by unfold mr_nst; omega))); assumption))) [x41, s41_0, s41_1, s41_4, x41_7, s41_10, s41_11, s41_14, x41_17, x41_18, x41_21, x41_23, s41_24, s41_25, s41_28, x41_31, x4, s4_0, s4_1, x4_4, x4_6, x4_9, x4_10, x4_13, x4_14, x78, s78_0, s78_1, x78_4, x78_6, s78_9, s78_10, x78_13, x78_14, x78_17, x78_19, s78_20, s78_21, s78_24, s78_25, s78_28, s78_29, s78_32, s78_33, x78_34, s78_35, x78_38, x78_39, s78_40, s78_43, x78_44, s78_46, s78_47, x78_50, x78_51, x78_52, x78_53, s78_54, x78_57, n3, h1, hI]⟩
  · by_cases h2 : M 1 1 = 5
    · exact ⟨-3, by simp (disch := (first | assumption | omega | ((repeat (refine mr_FIX_up ?_ (by unfold mr_nst; omega))); assumption))) [x41, s41_0, s41_1, s41_4, x41_7, s41_10, s41_11, s41_14, x41_17, x41_18, x41_21, x41_23, s41_24, s41_25, s41_28, x41_31, x4, s4_0, s4_1, x4_4, x4_6, x4_9, x4_10, x4_13, x4_14, x78, s78_0, s78_1, x78_4, x78_6, s78_9, s78_10, x78_13, x78_14, x78_17, x78_19, s78_20, s78_21, s78_24, s78_25, s78_28, s78_29, s78_32, s78_33, x78_34, s78_35, x78_38, x78_39, s78_40, s78_43, x78_44, s78_46, s78_47, x78_50, x78_51, x78_52, x78_53, s78_54, x78_57, n3, i3, h1, h2, hI]⟩
    · refine ⟨M 1 0, ?_⟩
      have w1 : ma_32 (M 1 0 + 1) = M 1 0 + 1 := ma_32i (by omega) (by omega)
      have w2 : ma_32 (M 1 1 + 1) = M 1 1 + 1 := ma_32i (by omega) (by omega)
      have w5 : ma_32 (M 1 0) = M 1 0 := ma_32i (by omega) (by omega)
      have w6 : ma_32 (M 1 1) = M 1 1 := ma_32i (by omega) (by omega)
      simp (disch := (first | assumption | omega | ((repeat (refine mr_FIX_up ?_ (by unfold mr_nst; omega))); assumption))) [x41, s41_0, s41_1, s41_4, x41_7, s41_10, s41_11, s41_14, x41_17, x41_18, x41_21, x41_23, s41_24, s41_25, s41_28, x41_31, x4, s4_0, s4_1, x4_4, x4_6, x4_9, x4_10, x4_13, x4_14, x9, s9_0, x9_1, s9_3, s9_4, s9_7, x9_10, s9_11, s9_12, x9_15, x9_16, s9_17, s9_18, x9_21, s9_22, s9_23, s9_24, s9_27, s9_28, x9_31, s9_32, s9_33, x9_34, s9_35, x9_38, x9_39, s9_40, x9_43, x9_44, x12, s12_0, s12_1, s12_4, s12_5, x12_8, s12_9, s12_10, s12_11, s12_14, s12_15, x12_18, s12_19, s12_20, x12_21, s12_22, x12_25, x12_26, s12_27, s12_30, s12_31, x12_34, x12_35, x12_36, x78, s78_0, s78_1, x78_4, x78_6, s78_9, s78_10, x78_13, x78_14, x78_17, x78_19, s78_20, s78_21, s78_24, s78_25, s78_28, s78_29, s78_32, s78_33, x78_34, s78_35, x78_38, x78_39, s78_40, s78_43, x78_44, s78_46, s78_47, x78_50, x78_51, x78_52, x78_53, s78_54, x78_57, x77, s77_0, s77_1, s77_4, s77_5, x77_8, s77_9, s77_10, s77_11, s77_14, s77_15, x77_18, s77_19, s77_20, s77_21, s77_24, s77_25, x77_28, s77_29, s77_30, s77_31, s77_34, s77_35, x77_38, s77_40, s77_41, x77_42, s77_43, x77_46, x77_47, s77_48, s77_51, s77_52, x77_55, x77_56, x77_57, n3, i3, h1, h2, w1, w2, w5, w6, ma_up]
      repeat (refine ⟨by omega, ?_⟩)
      have hz := hfr (M 1 0) (by omega) (by omega)
      refine mr_INV_add hI (by omega) ?_ ?_ ?_ (fun c i hc hi => ?_) (fun c i hc => ?_) ?_ (Or.inr ?_) ?_
      · repeat (refine mr_FIX_up ?_ (by unfold mr_nst; omega))
        exact hF
      · simp [ma_up]
      · simp [ma_up]
      · repeat (first | rw [ma_up_ne (by omega)] | rw [ma_up_ne2 (by omega)])
      · repeat (rw [ma_up_ne (by omega)])
      · simp [ma_up]
      · simp [ma_up]
        exact ⟨by omega, fun j hj => by simp [hj]⟩
      · unfold mr_nd0
        simp [ma_up]
        omega
theorem mr_tm (v : Int) : (0 ≤ v → v.tmod 65521 = v % 65521) ∧ (v < 0 → (v % 65521 = 0 ∧ v.tmod 65521 = 0) ∨ (v % 65521 ≠ 0 ∧ v.tmod 65521 = v % 65521 - 65521)) := by
  constructor
  · intro h
    exact Int.tmod_eq_emod_of_nonneg h
  · intro h
    have h1 : v.tmod 65521 = -((-v) % 65521) := by
      rw [← Int.tmod_eq_emod_of_nonneg (show 0 ≤ -v by omega), Int.neg_tmod, Int.neg_neg]
    omega
theorem mr_sf (v : Int) : ma_32 (ma_64 (v.tmod 65521)) = v.tmod 65521 ∧ -65521 < v.tmod 65521 ∧ v.tmod 65521 < 65521 := by
  have h := mr_tm v
  have h1 : -65521 < v.tmod 65521 ∧ v.tmod 65521 < 65521 := by omega
  exact ⟨by rw [ma_64i (by omega) (by omega), ma_32i (by omega) (by omega)], h1⟩
/-- the number that stands for v -/
theorem mr_standFor (v : Int) (sh : ma_S) (M : ma_M) (Q : Option ma_V → ma_S → ma_M → Prop) : mr_do 0 [(1, v)] sh M Q ↔ Q (some (0, v % 65521)) sh M := by
  obtain ⟨e1, e2, e3⟩ := mr_sf v
  have h := mr_tm v
  by_cases h2 : 0 ≤ v.tmod 65521
  · have e : v.tmod 65521 = v % 65521 := by omega
    simp (disch := (first | assumption | omega | ((repeat (refine mr_FIX_up ?_ (by unfold mr_nst; omega))); assumption))) [x0, x0_0, x0_1, x0_4, x0_5, x0_6, x0_7, x0_8, x0_11, x0_12, x0_14, x0_15, x0_18, x0_19, e1, h2]
    rw [e]
  · have e : ma_32 (v.tmod 65521 + 65521) = v % 65521 := by rw [ma_32i (by omega) (by omega)]; omega
    simp (disch := (first | assumption | omega | ((repeat (refine mr_FIX_up ?_ (by unfold mr_nst; omega))); assumption))) [x0, x0_0, x0_1, x0_4, x0_5, x0_6, x0_7, x0_8, x0_11, x0_12, x0_14, x0_15, x0_18, x0_19, e1, h2, e]
theorem mr_number (v : Int) (hv : mr_r v) (sh : ma_S) (M : ma_M) (Q : Option ma_V → ma_S → ma_M → Prop) : mr_do 73 [(0, v)] sh M Q ↔ Q (some (1, v % 65521)) sh M := by
  unfold mr_r at hv
  have h := mr_tm v
  have h2 := mr_tm (v.tmod 65521 + 65521)
  have e1 : ma_64 (v.tmod 65521) = v.tmod 65521 := ma_64i (by omega) (by omega)
  have e2 : ma_64 (v.tmod 65521 + 65521) = v.tmod 65521 + 65521 := ma_64i (by omega) (by omega)
  have e3 : ma_64 ((v.tmod 65521 + 65521).tmod 65521) = v % 65521 := by rw [ma_64i (by omega) (by omega)]; omega
  simp (disch := (first | assumption | omega | ((repeat (refine mr_FIX_up ?_ (by unfold mr_nst; omega))); assumption))) [x73, x73_0, x73_1, x73_2, x73_5, x73_6, x73_9, x73_10, x73_13, x73_14, e1, e2, e3]
