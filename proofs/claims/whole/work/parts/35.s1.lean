theorem s15_5 (x2 : Int) (x3 : Int) (x4 : Int) (x5 : Int) (y0 : Int) (M : ma_M) (Q : Option ma_V → ma_S → ma_M → Prop) : ma_wp 15 5 [(2, 8), (2, 1), (2, x2), (2, x3), (0, x4), (0, x5)] [(0, y0)] mr_SH M Q ↔ ma_wp 15 6 [(2, 8), (2, 1), (2, x2), (2, x3), (0, x4), (0, x5)] [(2, 1), (0, y0)] mr_SH M Q := by
  rw [x15_5]
  exact ⟨fun h => h.2, fun h => ⟨by decide, h⟩⟩
theorem s15_6 (x2 : Int) (x3 : Int) (x4 : Int) (x5 : Int) (y1 : Int) (M : ma_M) (Q : Option ma_V → ma_S → ma_M → Prop) : ma_wp 15 6 [(2, 8), (2, 1), (2, x2), (2, x3), (0, x4), (0, x5)] [(2, 1), (0, y1)] mr_SH M Q ↔ ma_wp 15 9 [(2, 8), (2, 1), (2, x2), (2, x3), (0, x4), (0, x5)] [(0, M 1 0), (0, y1)] mr_SH M Q := by
  rw [x15_6, ml_1]
  exact ⟨fun h => h.2, fun h => ⟨by decide, h⟩⟩
theorem s15_12 (x2 : Int) (x3 : Int) (x4 : Int) (x5 : Int) (M : ma_M) (Q : Option ma_V → ma_S → ma_M → Prop) : ma_wp 15 12 [(2, 8), (2, 1), (2, x2), (2, x3), (0, x4), (0, x5)] [] mr_SH M Q ↔ ma_wp 15 13 [(2, 8), (2, 1), (2, x2), (2, x3), (0, x4), (0, x5)] [(2, 1)] mr_SH M Q := by
  rw [x15_12]
  exact ⟨fun h => h.2, fun h => ⟨by decide, h⟩⟩
theorem s15_15 (x2 : Int) (x3 : Int) (x4 : Int) (x5 : Int) (y0 : Int) (M : ma_M) (Q : Option ma_V → ma_S → ma_M → Prop) : ma_wp 15 15 [(2, 8), (2, 1), (2, x2), (2, x3), (0, x4), (0, x5)] [(0, y0), (2, 1)] mr_SH M Q ↔ mr_do 7 [(2, 1), (0, y0)] mr_SH M (fun r sh M => ma_wp 15 18 [(2, 8), (2, 1), (2, x2), (2, x3), (0, x4), (0, x5)] (r.toList ++ []) sh M Q) := by
  rw [x15_15, ml_1]
  exact ⟨fun h => h.2, fun h => ⟨by decide, h⟩⟩
theorem s15_21 (x2 : Int) (x3 : Int) (x4 : Int) (x5 : Int) (M : ma_M) (Q : Option ma_V → ma_S → ma_M → Prop) : ma_wp 15 21 [(2, 8), (2, 1), (2, x2), (2, x3), (0, x4), (0, x5)] [] mr_SH M Q ↔ ma_wp 15 22 [(2, 8), (2, 1), (2, x2), (2, x3), (0, x4), (0, x5)] [(2, 8)] mr_SH M Q := by
  rw [x15_21]
  exact ⟨fun h => h.2, fun h => ⟨by decide, h⟩⟩
theorem s15_22 (x2 : Int) (x3 : Int) (x4 : Int) (x5 : Int) (M : ma_M) (Q : Option ma_V → ma_S → ma_M → Prop) (hF : mr_FIX M) : ma_wp 15 22 [(2, 8), (2, 1), (2, x2), (2, x3), (0, x4), (0, x5)] [(2, 8)] mr_SH M Q ↔ ma_wp 15 25 [(2, 8), (2, 1), (2, x2), (2, x3), (0, x4), (0, x5)] [(2, 34)] mr_SH M Q := by
  rw [x15_22, mf_8_1 hF, ml_8]
  exact ⟨fun h => h.2, fun h => ⟨by decide, h⟩⟩
theorem s15_27 (x2 : Int) (x3 : Int) (x4 : Int) (x5 : Int) (y0 : Int) (M : ma_M) (Q : Option ma_V → ma_S → ma_M → Prop) : ma_wp 15 27 [(2, 8), (2, 1), (2, x2), (2, x3), (0, x4), (0, x5)] [(0, y0), (2, 34)] mr_SH M Q ↔ ma_wp 15 28 [(2, 8), (2, 1), (2, x2), (2, x3), (0, x4), (0, x5)] [(2, 8), (0, y0), (2, 34)] mr_SH M Q := by
  rw [x15_27]
  exact ⟨fun h => h.2, fun h => ⟨by decide, h⟩⟩
theorem s15_28 (x2 : Int) (x3 : Int) (x4 : Int) (x5 : Int) (y1 : Int) (M : ma_M) (Q : Option ma_V → ma_S → ma_M → Prop) : ma_wp 15 28 [(2, 8), (2, 1), (2, x2), (2, x3), (0, x4), (0, x5)] [(2, 8), (0, y1), (2, 34)] mr_SH M Q ↔ ma_wp 15 29 [(2, 8), (2, 1), (2, x2), (2, x3), (0, x4), (0, x5)] [(2, 1), (2, 8), (0, y1), (2, 34)] mr_SH M Q := by
  rw [x15_28]
  exact ⟨fun h => h.2, fun h => ⟨by decide, h⟩⟩
theorem s15_31 (x2 : Int) (x3 : Int) (x4 : Int) (x5 : Int) (y0 : Int) (y3 : Int) (M : ma_M) (Q : Option ma_V → ma_S → ma_M → Prop) : ma_wp 15 31 [(2, 8), (2, 1), (2, x2), (2, x3), (0, x4), (0, x5)] [(0, y0), (2, 1), (2, 8), (0, y3), (2, 34)] mr_SH M Q ↔ mr_do 17 [(2, 8), (2, 1), (0, y0)] mr_SH M (fun r sh M => ma_wp 15 34 [(2, 8), (2, 1), (2, x2), (2, x3), (0, x4), (0, x5)] (r.toList ++ [(0, y3), (2, 34)]) sh M Q) := by
  rw [x15_31, ml_8]
  exact ⟨fun h => h.2, fun h => ⟨by decide, h⟩⟩
theorem s15_34 (x2 : Int) (x3 : Int) (x4 : Int) (x5 : Int) (y0 : Int) (y1 : Int) (M : ma_M) (Q : Option ma_V → ma_S → ma_M → Prop) : ma_wp 15 34 [(2, 8), (2, 1), (2, x2), (2, x3), (0, x4), (0, x5)] [(0, y0), (0, y1), (2, 34)] mr_SH M Q ↔ (0 ≤ y1 ∧ y1 < 24) ∧ ma_wp 15 35 [(2, 8), (2, 1), (2, x2), (2, x3), (0, x4), (0, x5)] [] mr_SH (ma_up M 34 y1 y0) Q := by
  rw [x15_34, ml_34]
theorem s15_35 (x2 : Int) (x3 : Int) (x4 : Int) (x5 : Int) (M : ma_M) (Q : Option ma_V → ma_S → ma_M → Prop) : ma_wp 15 35 [(2, 8), (2, 1), (2, x2), (2, x3), (0, x4), (0, x5)] [] mr_SH M Q ↔ ma_wp 15 36 [(2, 8), (2, 1), (2, x2), (2, x3), (0, x4), (0, x5)] [(2, 8)] mr_SH M Q := by
  rw [x15_35]
  exact ⟨fun h => h.2, fun h => ⟨by decide, h⟩⟩
theorem s15_36 (x2 : Int) (x3 : Int) (x4 : Int) (x5 : Int) (M : ma_M) (Q : Option ma_V → ma_S → ma_M → Prop) (hF : mr_FIX M) : ma_wp 15 36 [(2, 8), (2, 1), (2, x2), (2, x3), (0, x4), (0, x5)] [(2, 8)] mr_SH M Q ↔ ma_wp 15 39 [(2, 8), (2, 1), (2, x2), (2, x3), (0, x4), (0, x5)] [(2, 34)] mr_SH M Q := by
  rw [x15_36, mf_8_1 hF, ml_8]
  exact ⟨fun h => h.2, fun h => ⟨by decide, h⟩⟩
theorem s15_41 (x2 : Int) (x3 : Int) (x4 : Int) (x5 : Int) (y0 : Int) (M : ma_M) (Q : Option ma_V → ma_S → ma_M → Prop) : ma_wp 15 41 [(2, 8), (2, 1), (2, x2), (2, x3), (0, x4), (0, x5)] [(0, y0), (2, 34)] mr_SH M Q ↔ (0 ≤ y0 ∧ y0 < 24) ∧ ma_wp 15 42 [(2, 8), (2, 1), (2, x2), (2, x3), (0, x4), (0, x5)] [(0, M 34 y0)] mr_SH M Q := by
  rw [x15_41, ml_34]
theorem s15_46 (x2 : Int) (x3 : Int) (x4 : Int) (x5 : Int) (M : ma_M) (Q : Option ma_V → ma_S → ma_M → Prop) : ma_wp 15 46 [(2, 8), (2, 1), (2, x2), (2, x3), (0, x4), (0, x5)] [] mr_SH M Q ↔ ma_wp 15 47 [(2, 8), (2, 1), (2, x2), (2, x3), (0, x4), (0, x5)] [(2, 8)] mr_SH M Q := by
  rw [x15_46]
  exact ⟨fun h => h.2, fun h => ⟨by decide, h⟩⟩
theorem s15_47 (x2 : Int) (x3 : Int) (x4 : Int) (x5 : Int) (M : ma_M) (Q : Option ma_V → ma_S → ma_M → Prop) : ma_wp 15 47 [(2, 8), (2, 1), (2, x2), (2, x3), (0, x4), (0, x5)] [(2, 8)] mr_SH M Q ↔ ma_wp 15 48 [(2, 8), (2, 1), (2, x2), (2, x3), (0, x4), (0, x5)] [(2, 1), (2, 8)] mr_SH M Q := by
  rw [x15_47]
  exact ⟨fun h => h.2, fun h => ⟨by decide, h⟩⟩
theorem s15_52 (x2 : Int) (x3 : Int) (x4 : Int) (x5 : Int) (y0 : Int) (y1 : Int) (M : ma_M) (Q : Option ma_V → ma_S → ma_M → Prop) : ma_wp 15 52 [(2, 8), (2, 1), (2, x2), (2, x3), (0, x4), (0, x5)] [(0, y0), (0, y1), (2, 1), (2, 8)] mr_SH M Q ↔ mr_do 19 [(2, 8), (2, 1), (0, y1), (0, y0)] mr_SH M (fun r sh M => ma_wp 15 55 [(2, 8), (2, 1), (2, x2), (2, x3), (0, x4), (0, x5)] (r.toList ++ []) sh M Q) := by
  rw [x15_52, ml_8]
  exact ⟨fun h => h.2, fun h => ⟨by decide, h⟩⟩
theorem s15_58 (x2 : Int) (x3 : Int) (x4 : Int) (x5 : Int) (M : ma_M) (Q : Option ma_V → ma_S → ma_M → Prop) : ma_wp 15 58 [(2, 8), (2, 1), (2, x2), (2, x3), (0, x4), (0, x5)] [] mr_SH M Q ↔ ma_wp 15 59 [(2, 8), (2, 1), (2, x2), (2, x3), (0, x4), (0, x5)] [(2, 8)] mr_SH M Q := by
  rw [x15_58]
  exact ⟨fun h => h.2, fun h => ⟨by decide, h⟩⟩
theorem s15_59 (x2 : Int) (x3 : Int) (x4 : Int) (x5 : Int) (M : ma_M) (Q : Option ma_V → ma_S → ma_M → Prop) (hF : mr_FIX M) : ma_wp 15 59 [(2, 8), (2, 1), (2, x2), (2, x3), (0, x4), (0, x5)] [(2, 8)] mr_SH M Q ↔ ma_wp 15 62 [(2, 8), (2, 1), (2, x2), (2, x3), (0, x4), (0, x5)] [(2, 34)] mr_SH M Q := by
  rw [x15_59, mf_8_1 hF, ml_8]
  exact ⟨fun h => h.2, fun h => ⟨by decide, h⟩⟩
theorem s15_65 (x2 : Int) (x3 : Int) (x4 : Int) (x5 : Int) (y0 : Int) (y1 : Int) (M : ma_M) (Q : Option ma_V → ma_S → ma_M → Prop) : ma_wp 15 65 [(2, 8), (2, 1), (2, x2), (2, x3), (0, x4), (0, x5)] [(0, y0), (0, y1), (2, 34)] mr_SH M Q ↔ (0 ≤ y1 ∧ y1 < 24) ∧ ma_wp 15 66 [(2, 8), (2, 1), (2, x2), (2, x3), (0, x4), (0, x5)] [] mr_SH (ma_up M 34 y1 y0) Q := by
  rw [x15_65, ml_34]
theorem s15_66 (x2 : Int) (x3 : Int) (x4 : Int) (x5 : Int) (M : ma_M) (Q : Option ma_V → ma_S → ma_M → Prop) : ma_wp 15 66 [(2, 8), (2, 1), (2, x2), (2, x3), (0, x4), (0, x5)] [] mr_SH M Q ↔ ma_wp 15 67 [(2, 8), (2, 1), (2, x2), (2, x3), (0, x4), (0, x5)] [(2, 8)] mr_SH M Q := by
  rw [x15_66]
  exact ⟨fun h => h.2, fun h => ⟨by decide, h⟩⟩
theorem s15_67 (x2 : Int) (x3 : Int) (x4 : Int) (x5 : Int) (M : ma_M) (Q : Option ma_V → ma_S → ma_M → Prop) : ma_wp 15 67 [(2, 8), (2, 1), (2, x2), (2, x3), (0, x4), (0, x5)] [(2, 8)] mr_SH M Q ↔ ma_wp 15 68 [(2, 8), (2, 1), (2, x2), (2, x3), (0, x4), (0, x5)] [(2, 1), (2, 8)] mr_SH M Q := by
  rw [x15_67]
  exact ⟨fun h => h.2, fun h => ⟨by decide, h⟩⟩
theorem s15_72 (x2 : Int) (x3 : Int) (x4 : Int) (x5 : Int) (y0 : Int) (y1 : Int) (y2 : Int) (M : ma_M) (Q : Option ma_V → ma_S → ma_M → Prop) : ma_wp 15 72 [(2, 8), (2, 1), (2, x2), (2, x3), (0, x4), (0, x5)] [(2, y0), (2, y1), (0, y2), (2, 1), (2, 8)] mr_SH M Q ↔ mr_do 18 [(2, 8), (2, 1), (0, y2), (2, y1), (2, y0)] mr_SH M (fun r sh M => ma_wp 15 75 [(2, 8), (2, 1), (2, x2), (2, x3), (0, x4), (0, x5)] (r.toList ++ []) sh M Q) := by
  rw [x15_72, ml_8]
  exact ⟨fun h => h.2, fun h => ⟨by decide, h⟩⟩
theorem s16_0 (x2 : Int) (x3 : Int) (x4 : Int) (x5 : Int) (M : ma_M) (Q : Option ma_V → ma_S → ma_M → Prop) : ma_wp 16 0 [(2, 8), (2, 1), (0, x2), (3, x3), (3, x4), (3, x5)] [] mr_SH M Q ↔ ma_wp 16 1 [(2, 8), (2, 1), (0, x2), (3, x3), (3, x4), (3, x5)] [(2, 1)] mr_SH M Q := by
  rw [x16_0]
  exact ⟨fun h => h.2, fun h => ⟨by decide, h⟩⟩
theorem s16_1 (x2 : Int) (x3 : Int) (x4 : Int) (x5 : Int) (M : ma_M) (Q : Option ma_V → ma_S → ma_M → Prop) (hF : mr_FIX M) : ma_wp 16 1 [(2, 8), (2, 1), (0, x2), (3, x3), (3, x4), (3, x5)] [(2, 1)] mr_SH M Q ↔ ma_wp 16 4 [(2, 8), (2, 1), (0, x2), (3, x3), (3, x4), (3, x5)] [(2, 3)] mr_SH M Q := by
  rw [x16_1, mf_1_3 hF, ml_1]
  exact ⟨fun h => h.2, fun h => ⟨by decide, h⟩⟩
theorem s16_5 (x2 : Int) (x3 : Int) (x4 : Int) (x5 : Int) (y0 : Int) (M : ma_M) (Q : Option ma_V → ma_S → ma_M → Prop) : ma_wp 16 5 [(2, 8), (2, 1), (0, x2), (3, x3), (3, x4), (3, x5)] [(0, y0), (2, 3)] mr_SH M Q ↔ (0 ≤ y0 ∧ y0 < 24) ∧ ma_wp 16 6 [(2, 8), (2, 1), (0, x2), (3, x3), (3, x4), (3, x5)] [(0, M 3 y0)] mr_SH M Q := by
  rw [x16_5, ml_3]
theorem s16_7 (x2 : Int) (x3 : Int) (x4 : Int) (x5 : Int) (M : ma_M) (Q : Option ma_V → ma_S → ma_M → Prop) : ma_wp 16 7 [(2, 8), (2, 1), (0, x2), (0, x3), (3, x4), (3, x5)] [] mr_SH M Q ↔ ma_wp 16 8 [(2, 8), (2, 1), (0, x2), (0, x3), (3, x4), (3, x5)] [(2, 1)] mr_SH M Q := by
  rw [x16_7]
  exact ⟨fun h => h.2, fun h => ⟨by decide, h⟩⟩
theorem s16_8 (x2 : Int) (x3 : Int) (x4 : Int) (x5 : Int) (M : ma_M) (Q : Option ma_V → ma_S → ma_M → Prop) (hF : mr_FIX M) : ma_wp 16 8 [(2, 8), (2, 1), (0, x2), (0, x3), (3, x4), (3, x5)] [(2, 1)] mr_SH M Q ↔ ma_wp 16 11 [(2, 8), (2, 1), (0, x2), (0, x3), (3, x4), (3, x5)] [(2, 4)] mr_SH M Q := by
  rw [x16_8, mf_1_4 hF, ml_1]
  exact ⟨fun h => h.2, fun h => ⟨by decide, h⟩⟩
theorem s16_12 (x2 : Int) (x3 : Int) (x4 : Int) (x5 : Int) (y0 : Int) (M : ma_M) (Q : Option ma_V → ma_S → ma_M → Prop) : ma_wp 16 12 [(2, 8), (2, 1), (0, x2), (0, x3), (3, x4), (3, x5)] [(0, y0), (2, 4)] mr_SH M Q ↔ (0 ≤ y0 ∧ y0 < 24) ∧ ma_wp 16 13 [(2, 8), (2, 1), (0, x2), (0, x3), (3, x4), (3, x5)] [(0, M 4 y0)] mr_SH M Q := by
  rw [x16_12, ml_4]
theorem s16_15 (x2 : Int) (x3 : Int) (x4 : Int) (x5 : Int) (M : ma_M) (Q : Option ma_V → ma_S → ma_M → Prop) : ma_wp 16 15 [(2, 8), (2, 1), (0, x2), (0, x3), (0, x4), (3, x5)] [] mr_SH M Q ↔ ma_wp 16 16 [(2, 8), (2, 1), (0, x2), (0, x3), (0, x4), (3, x5)] [(2, 8)] mr_SH M Q := by
  rw [x16_15]
  exact ⟨fun h => h.2, fun h => ⟨by decide, h⟩⟩
theorem s16_16 (x2 : Int) (x3 : Int) (x4 : Int) (x5 : Int) (M : ma_M) (Q : Option ma_V → ma_S → ma_M → Prop) (hF : mr_FIX M) : ma_wp 16 16 [(2, 8), (2, 1), (0, x2), (0, x3), (0, x4), (3, x5)] [(2, 8)] mr_SH M Q ↔ ma_wp 16 19 [(2, 8), (2, 1), (0, x2), (0, x3), (0, x4), (3, x5)] [(2, 9)] mr_SH M Q := by
  rw [x16_16, mf_8_0 hF, ml_8]
  exact ⟨fun h => h.2, fun h => ⟨by decide, h⟩⟩
theorem s16_20 (x2 : Int) (x3 : Int) (x4 : Int) (x5 : Int) (y0 : Int) (M : ma_M) (Q : Option ma_V → ma_S → ma_M → Prop) (hF : mr_FIX M) : ma_wp 16 20 [(2, 8), (2, 1), (0, x2), (0, x3), (0, x4), (3, x5)] [(0, y0), (2, 9)] mr_SH M Q ↔ (0 ≤ y0 ∧ y0 < 24) ∧ ma_wp 16 21 [(2, 8), (2, 1), (0, x2), (0, x3), (0, x4), (3, x5)] [(2, 10 + y0)] mr_SH M Q := by
  rw [x16_20, ml_9]
  constructor
  · rintro ⟨h1, h2⟩
    rw [mg_9 hF h1.1 h1.2] at h2
    exact ⟨h1, h2⟩
  · rintro ⟨h1, h2⟩
    rw [mg_9 hF h1.1 h1.2]
    exact ⟨h1, h2⟩
theorem s16_23 (x2 : Int) (x3 : Int) (x4 : Int) (x5 : Int) (y0 : Int) (M : ma_M) (Q : Option ma_V → ma_S → ma_M → Prop) : ma_wp 16 23 [(2, 8), (2, 1), (0, x2), (0, x3), (0, x4), (3, x5)] [(0, y0)] mr_SH M Q ↔ ma_wp 16 24 [(2, 8), (2, 1), (0, x2), (0, x3), (0, x4), (3, x5)] [(2, 8), (0, y0)] mr_SH M Q := by
  rw [x16_23]
  exact ⟨fun h => h.2, fun h => ⟨by decide, h⟩⟩
theorem s16_24 (x2 : Int) (x3 : Int) (x4 : Int) (x5 : Int) (y1 : Int) (M : ma_M) (Q : Option ma_V → ma_S → ma_M → Prop) (hF : mr_FIX M) : ma_wp 16 24 [(2, 8), (2, 1), (0, x2), (0, x3), (0, x4), (3, x5)] [(2, 8), (0, y1)] mr_SH M Q ↔ ma_wp 16 27 [(2, 8), (2, 1), (0, x2), (0, x3), (0, x4), (3, x5)] [(2, 9), (0, y1)] mr_SH M Q := by
  rw [x16_24, mf_8_0 hF, ml_8]
  exact ⟨fun h => h.2, fun h => ⟨by decide, h⟩⟩
theorem s16_29 (x2 : Int) (x3 : Int) (x4 : Int) (x5 : Int) (y0 : Int) (y2 : Int) (M : ma_M) (Q : Option ma_V → ma_S → ma_M → Prop) (hF : mr_FIX M) : ma_wp 16 29 [(2, 8), (2, 1), (0, x2), (0, x3), (0, x4), (3, x5)] [(0, y0), (2, 9), (0, y2)] mr_SH M Q ↔ (0 ≤ y0 ∧ y0 < 24) ∧ ma_wp 16 30 [(2, 8), (2, 1), (0, x2), (0, x3), (0, x4), (3, x5)] [(2, 10 + y0), (0, y2)] mr_SH M Q := by
  rw [x16_29, ml_9]
  constructor
  · rintro ⟨h1, h2⟩
    rw [mg_9 hF h1.1 h1.2] at h2
    exact ⟨h1, h2⟩
  · rintro ⟨h1, h2⟩
    rw [mg_9 hF h1.1 h1.2]
    exact ⟨h1, h2⟩
theorem s16_44 (x2 : Int) (x3 : Int) (x4 : Int) (x5 : Int) (y0 : Int) (M : ma_M) (Q : Option ma_V → ma_S → ma_M → Prop) : ma_wp 16 44 [(2, 8), (2, 1), (0, x2), (0, x3), (0, x4), (0, x5)] [(0, y0)] mr_SH M Q ↔ ma_wp 16 45 [(2, 8), (2, 1), (0, x2), (0, x3), (0, x4), (0, x5)] [(2, 1), (0, y0)] mr_SH M Q := by
  rw [x16_44]
  exact ⟨fun h => h.2, fun h => ⟨by decide, h⟩⟩
theorem s16_45 (x2 : Int) (x3 : Int) (x4 : Int) (x5 : Int) (y1 : Int) (M : ma_M) (Q : Option ma_V → ma_S → ma_M → Prop) (hF : mr_FIX M) : ma_wp 16 45 [(2, 8), (2, 1), (0, x2), (0, x3), (0, x4), (0, x5)] [(2, 1), (0, y1)] mr_SH M Q ↔ ma_wp 16 48 [(2, 8), (2, 1), (0, x2), (0, x3), (0, x4), (0, x5)] [(2, 2), (0, y1)] mr_SH M Q := by
  rw [x16_45, mf_1_2 hF, ml_1]
  exact ⟨fun h => h.2, fun h => ⟨by decide, h⟩⟩
theorem s16_49 (x2 : Int) (x3 : Int) (x4 : Int) (x5 : Int) (y0 : Int) (y2 : Int) (M : ma_M) (Q : Option ma_V → ma_S → ma_M → Prop) : ma_wp 16 49 [(2, 8), (2, 1), (0, x2), (0, x3), (0, x4), (0, x5)] [(0, y0), (2, 2), (0, y2)] mr_SH M Q ↔ (0 ≤ y0 ∧ y0 < 24) ∧ ma_wp 16 50 [(2, 8), (2, 1), (0, x2), (0, x3), (0, x4), (0, x5)] [(0, M 2 y0), (0, y2)] mr_SH M Q := by
  rw [x16_49, ml_2]
theorem s17_0 (x2 : Int) (x3 : Int) (x4 : Int) (x5 : Int) (x6 : Int) (x7 : Int) (M : ma_M) (Q : Option ma_V → ma_S → ma_M → Prop) : ma_wp 17 0 [(2, 8), (2, 1), (0, x2), (3, x3), (3, x4), (3, x5), (3, x6), (3, x7)] [] mr_SH M Q ↔ ma_wp 17 1 [(2, 8), (2, 1), (0, x2), (3, x3), (3, x4), (3, x5), (3, x6), (3, x7)] [(2, 1)] mr_SH M Q := by
  rw [x17_0]
  exact ⟨fun h => h.2, fun h => ⟨by decide, h⟩⟩
theorem s17_1 (x2 : Int) (x3 : Int) (x4 : Int) (x5 : Int) (x6 : Int) (x7 : Int) (M : ma_M) (Q : Option ma_V → ma_S → ma_M → Prop) (hF : mr_FIX M) : ma_wp 17 1 [(2, 8), (2, 1), (0, x2), (3, x3), (3, x4), (3, x5), (3, x6), (3, x7)] [(2, 1)] mr_SH M Q ↔ ma_wp 17 4 [(2, 8), (2, 1), (0, x2), (3, x3), (3, x4), (3, x5), (3, x6), (3, x7)] [(2, 3)] mr_SH M Q := by
  rw [x17_1, mf_1_3 hF, ml_1]
  exact ⟨fun h => h.2, fun h => ⟨by decide, h⟩⟩
theorem s17_5 (x2 : Int) (x3 : Int) (x4 : Int) (x5 : Int) (x6 : Int) (x7 : Int) (y0 : Int) (M : ma_M) (Q : Option ma_V → ma_S → ma_M → Prop) : ma_wp 17 5 [(2, 8), (2, 1), (0, x2), (3, x3), (3, x4), (3, x5), (3, x6), (3, x7)] [(0, y0), (2, 3)] mr_SH M Q ↔ (0 ≤ y0 ∧ y0 < 24) ∧ ma_wp 17 6 [(2, 8), (2, 1), (0, x2), (3, x3), (3, x4), (3, x5), (3, x6), (3, x7)] [(0, M 3 y0)] mr_SH M Q := by
  rw [x17_5, ml_3]
theorem s17_7 (x2 : Int) (x3 : Int) (x4 : Int) (x5 : Int) (x6 : Int) (x7 : Int) (M : ma_M) (Q : Option ma_V → ma_S → ma_M → Prop) : ma_wp 17 7 [(2, 8), (2, 1), (0, x2), (0, x3), (3, x4), (3, x5), (3, x6), (3, x7)] [] mr_SH M Q ↔ ma_wp 17 8 [(2, 8), (2, 1), (0, x2), (0, x3), (3, x4), (3, x5), (3, x6), (3, x7)] [(2, 1)] mr_SH M Q := by
  rw [x17_7]
  exact ⟨fun h => h.2, fun h => ⟨by decide, h⟩⟩
theorem s17_8 (x2 : Int) (x3 : Int) (x4 : Int) (x5 : Int) (x6 : Int) (x7 : Int) (M : ma_M) (Q : Option ma_V → ma_S → ma_M → Prop) (hF : mr_FIX M) : ma_wp 17 8 [(2, 8), (2, 1), (0, x2), (0, x3), (3, x4), (3, x5), (3, x6), (3, x7)] [(2, 1)] mr_SH M Q ↔ ma_wp 17 11 [(2, 8), (2, 1), (0, x2), (0, x3), (3, x4), (3, x5), (3, x6), (3, x7)] [(2, 4)] mr_SH M Q := by
  rw [x17_8, mf_1_4 hF, ml_1]
  exact ⟨fun h => h.2, fun h => ⟨by decide, h⟩⟩
theorem s17_12 (x2 : Int) (x3 : Int) (x4 : Int) (x5 : Int) (x6 : Int) (x7 : Int) (y0 : Int) (M : ma_M) (Q : Option ma_V → ma_S → ma_M → Prop) : ma_wp 17 12 [(2, 8), (2, 1), (0, x2), (0, x3), (3, x4), (3, x5), (3, x6), (3, x7)] [(0, y0), (2, 4)] mr_SH M Q ↔ (0 ≤ y0 ∧ y0 < 24) ∧ ma_wp 17 13 [(2, 8), (2, 1), (0, x2), (0, x3), (3, x4), (3, x5), (3, x6), (3, x7)] [(0, M 4 y0)] mr_SH M Q := by
  rw [x17_12, ml_4]
theorem s17_15 (x2 : Int) (x3 : Int) (x4 : Int) (x5 : Int) (x6 : Int) (x7 : Int) (M : ma_M) (Q : Option ma_V → ma_S → ma_M → Prop) : ma_wp 17 15 [(2, 8), (2, 1), (0, x2), (0, x3), (0, x4), (3, x5), (3, x6), (3, x7)] [] mr_SH M Q ↔ ma_wp 17 16 [(2, 8), (2, 1), (0, x2), (0, x3), (0, x4), (3, x5), (3, x6), (3, x7)] [(2, 1)] mr_SH M Q := by
  rw [x17_15]
  exact ⟨fun h => h.2, fun h => ⟨by decide, h⟩⟩
theorem s17_16 (x2 : Int) (x3 : Int) (x4 : Int) (x5 : Int) (x6 : Int) (x7 : Int) (M : ma_M) (Q : Option ma_V → ma_S → ma_M → Prop) (hF : mr_FIX M) : ma_wp 17 16 [(2, 8), (2, 1), (0, x2), (0, x3), (0, x4), (3, x5), (3, x6), (3, x7)] [(2, 1)] mr_SH M Q ↔ ma_wp 17 19 [(2, 8), (2, 1), (0, x2), (0, x3), (0, x4), (3, x5), (3, x6), (3, x7)] [(2, 2)] mr_SH M Q := by
  rw [x17_16, mf_1_2 hF, ml_1]
  exact ⟨fun h => h.2, fun h => ⟨by decide, h⟩⟩
theorem s17_20 (x2 : Int) (x3 : Int) (x4 : Int) (x5 : Int) (x6 : Int) (x7 : Int) (y0 : Int) (M : ma_M) (Q : Option ma_V → ma_S → ma_M → Prop) : ma_wp 17 20 [(2, 8), (2, 1), (0, x2), (0, x3), (0, x4), (3, x5), (3, x6), (3, x7)] [(0, y0), (2, 2)] mr_SH M Q ↔ (0 ≤ y0 ∧ y0 < 24) ∧ ma_wp 17 21 [(2, 8), (2, 1), (0, x2), (0, x3), (0, x4), (3, x5), (3, x6), (3, x7)] [(0, M 2 y0)] mr_SH M Q := by
  rw [x17_20, ml_2]
theorem s17_23 (x2 : Int) (x3 : Int) (x4 : Int) (x5 : Int) (x6 : Int) (x7 : Int) (M : ma_M) (Q : Option ma_V → ma_S → ma_M → Prop) : ma_wp 17 23 [(2, 8), (2, 1), (0, x2), (0, x3), (0, x4), (0, x5), (3, x6), (3, x7)] [] mr_SH M Q ↔ ma_wp 17 24 [(2, 8), (2, 1), (0, x2), (0, x3), (0, x4), (0, x5), (3, x6), (3, x7)] [(2, 8)] mr_SH M Q := by
  rw [x17_23]
  exact ⟨fun h => h.2, fun h => ⟨by decide, h⟩⟩
theorem s17_24 (x2 : Int) (x3 : Int) (x4 : Int) (x5 : Int) (x6 : Int) (x7 : Int) (M : ma_M) (Q : Option ma_V → ma_S → ma_M → Prop) (hF : mr_FIX M) : ma_wp 17 24 [(2, 8), (2, 1), (0, x2), (0, x3), (0, x4), (0, x5), (3, x6), (3, x7)] [(2, 8)] mr_SH M Q ↔ ma_wp 17 27 [(2, 8), (2, 1), (0, x2), (0, x3), (0, x4), (0, x5), (3, x6), (3, x7)] [(2, 34)] mr_SH M Q := by
  rw [x17_24, mf_8_1 hF, ml_8]
  exact ⟨fun h => h.2, fun h => ⟨by decide, h⟩⟩
theorem s17_28 (x2 : Int) (x3 : Int) (x4 : Int) (x5 : Int) (x6 : Int) (x7 : Int) (y0 : Int) (M : ma_M) (Q : Option ma_V → ma_S → ma_M → Prop) : ma_wp 17 28 [(2, 8), (2, 1), (0, x2), (0, x3), (0, x4), (0, x5), (3, x6), (3, x7)] [(0, y0), (2, 34)] mr_SH M Q ↔ (0 ≤ y0 ∧ y0 < 24) ∧ ma_wp 17 29 [(2, 8), (2, 1), (0, x2), (0, x3), (0, x4), (0, x5), (3, x6), (3, x7)] [(0, M 34 y0)] mr_SH M Q := by
  rw [x17_28, ml_34]
theorem s17_29 (x2 : Int) (x3 : Int) (x4 : Int) (x5 : Int) (x6 : Int) (x7 : Int) (y0 : Int) (M : ma_M) (Q : Option ma_V → ma_S → ma_M → Prop) : ma_wp 17 29 [(2, 8), (2, 1), (0, x2), (0, x3), (0, x4), (0, x5), (3, x6), (3, x7)] [(0, y0)] mr_SH M Q ↔ ma_wp 17 30 [(2, 8), (2, 1), (0, x2), (0, x3), (0, x4), (0, x5), (3, x6), (3, x7)] [(2, 8), (0, y0)] mr_SH M Q := by
  rw [x17_29]
  exact ⟨fun h => h.2, fun h => ⟨by decide, h⟩⟩
theorem s17_30 (x2 : Int) (x3 : Int) (x4 : Int) (x5 : Int) (x6 : Int) (x7 : Int) (y1 : Int) (M : ma_M) (Q : Option ma_V → ma_S → ma_M → Prop) (hF : mr_FIX M) : ma_wp 17 30 [(2, 8), (2, 1), (0, x2), (0, x3), (0, x4), (0, x5), (3, x6), (3, x7)] [(2, 8), (0, y1)] mr_SH M Q ↔ ma_wp 17 33 [(2, 8), (2, 1), (0, x2), (0, x3), (0, x4), (0, x5), (3, x6), (3, x7)] [(2, 34), (0, y1)] mr_SH M Q := by
  rw [x17_30, mf_8_1 hF, ml_8]
  exact ⟨fun h => h.2, fun h => ⟨by decide, h⟩⟩
theorem s17_35 (x2 : Int) (x3 : Int) (x4 : Int) (x5 : Int) (x6 : Int) (x7 : Int) (y0 : Int) (y2 : Int) (M : ma_M) (Q : Option ma_V → ma_S → ma_M → Prop) : ma_wp 17 35 [(2, 8), (2, 1), (0, x2), (0, x3), (0, x4), (0, x5), (3, x6), (3, x7)] [(0, y0), (2, 34), (0, y2)] mr_SH M Q ↔ (0 ≤ y0 ∧ y0 < 24) ∧ ma_wp 17 36 [(2, 8), (2, 1), (0, x2), (0, x3), (0, x4), (0, x5), (3, x6), (3, x7)] [(0, M 34 y0), (0, y2)] mr_SH M Q := by
  rw [x17_35, ml_34]
theorem s17_53 (x2 : Int) (x3 : Int) (x4 : Int) (x5 : Int) (x6 : Int) (x7 : Int) (M : ma_M) (Q : Option ma_V → ma_S → ma_M → Prop) : ma_wp 17 53 [(2, 8), (2, 1), (0, x2), (0, x3), (0, x4), (0, x5), (0, x6), (3, x7)] [] mr_SH M Q ↔ ma_wp 17 54 [(2, 8), (2, 1), (0, x2), (0, x3), (0, x4), (0, x5), (0, x6), (3, x7)] [(2, 8)] mr_SH M Q := by
  rw [x17_53]
  exact ⟨fun h => h.2, fun h => ⟨by decide, h⟩⟩
theorem s17_54 (x2 : Int) (x3 : Int) (x4 : Int) (x5 : Int) (x6 : Int) (x7 : Int) (M : ma_M) (Q : Option ma_V → ma_S → ma_M → Prop) (hF : mr_FIX M) : ma_wp 17 54 [(2, 8), (2, 1), (0, x2), (0, x3), (0, x4), (0, x5), (0, x6), (3, x7)] [(2, 8)] mr_SH M Q ↔ ma_wp 17 57 [(2, 8), (2, 1), (0, x2), (0, x3), (0, x4), (0, x5), (0, x6), (3, x7)] [(2, 9)] mr_SH M Q := by
  rw [x17_54, mf_8_0 hF, ml_8]
  exact ⟨fun h => h.2, fun h => ⟨by decide, h⟩⟩
theorem s17_59 (x2 : Int) (x3 : Int) (x4 : Int) (x5 : Int) (x6 : Int) (x7 : Int) (y0 : Int) (M : ma_M) (Q : Option ma_V → ma_S → ma_M → Prop) (hF : mr_FIX M) : ma_wp 17 59 [(2, 8), (2, 1), (0, x2), (0, x3), (0, x4), (0, x5), (0, x6), (3, x7)] [(0, y0), (2, 9)] mr_SH M Q ↔ (0 ≤ y0 ∧ y0 < 24) ∧ ma_wp 17 60 [(2, 8), (2, 1), (0, x2), (0, x3), (0, x4), (0, x5), (0, x6), (3, x7)] [(2, 10 + y0)] mr_SH M Q := by
  rw [x17_59, ml_9]
  constructor
  · rintro ⟨h1, h2⟩
    rw [mg_9 hF h1.1 h1.2] at h2
    exact ⟨h1, h2⟩
  · rintro ⟨h1, h2⟩
    rw [mg_9 hF h1.1 h1.2]
    exact ⟨h1, h2⟩
theorem s17_91 (x2 : Int) (x3 : Int) (x4 : Int) (x5 : Int) (x6 : Int) (x7 : Int) (M : ma_M) (Q : Option ma_V → ma_S → ma_M → Prop) : ma_wp 17 91 [(2, 8), (2, 1), (0, x2), (0, x3), (0, x4), (0, x5), (0, x6), (0, x7)] [] mr_SH M Q ↔ ma_wp 17 92 [(2, 8), (2, 1), (0, x2), (0, x3), (0, x4), (0, x5), (0, x6), (0, x7)] [(2, 8)] mr_SH M Q := by
  rw [x17_91]
  exact ⟨fun h => h.2, fun h => ⟨by decide, h⟩⟩
theorem s17_92 (x2 : Int) (x3 : Int) (x4 : Int) (x5 : Int) (x6 : Int) (x7 : Int) (M : ma_M) (Q : Option ma_V → ma_S → ma_M → Prop) (hF : mr_FIX M) : ma_wp 17 92 [(2, 8), (2, 1), (0, x2), (0, x3), (0, x4), (0, x5), (0, x6), (0, x7)] [(2, 8)] mr_SH M Q ↔ ma_wp 17 95 [(2, 8), (2, 1), (0, x2), (0, x3), (0, x4), (0, x5), (0, x6), (0, x7)] [(2, 9)] mr_SH M Q := by
  rw [x17_92, mf_8_0 hF, ml_8]
  exact ⟨fun h => h.2, fun h => ⟨by decide, h⟩⟩
theorem s17_96 (x2 : Int) (x3 : Int) (x4 : Int) (x5 : Int) (x6 : Int) (x7 : Int) (y0 : Int) (M : ma_M) (Q : Option ma_V → ma_S → ma_M → Prop) (hF : mr_FIX M) : ma_wp 17 96 [(2, 8), (2, 1), (0, x2), (0, x3), (0, x4), (0, x5), (0, x6), (0, x7)] [(0, y0), (2, 9)] mr_SH M Q ↔ (0 ≤ y0 ∧ y0 < 24) ∧ ma_wp 17 97 [(2, 8), (2, 1), (0, x2), (0, x3), (0, x4), (0, x5), (0, x6), (0, x7)] [(2, 10 + y0)] mr_SH M Q := by
  rw [x17_96, ml_9]
  constructor
  · rintro ⟨h1, h2⟩
    rw [mg_9 hF h1.1 h1.2] at h2
    exact ⟨h1, h2⟩
  · rintro ⟨h1, h2⟩
    rw [mg_9 hF h1.1 h1.2]
    exact ⟨h1, h2⟩
theorem s17_99 (x2 : Int) (x3 : Int) (x4 : Int) (x5 : Int) (x6 : Int) (x7 : Int) (y0 : Int) (M : ma_M) (Q : Option ma_V → ma_S → ma_M → Prop) : ma_wp 17 99 [(2, 8), (2, 1), (0, x2), (0, x3), (0, x4), (0, x5), (0, x6), (0, x7)] [(0, y0)] mr_SH M Q ↔ ma_wp 17 100 [(2, 8), (2, 1), (0, x2), (0, x3), (0, x4), (0, x5), (0, x6), (0, x7)] [(2, 8), (0, y0)] mr_SH M Q := by
  rw [x17_99]
  exact ⟨fun h => h.2, fun h => ⟨by decide, h⟩⟩
theorem s17_100 (x2 : Int) (x3 : Int) (x4 : Int) (x5 : Int) (x6 : Int) (x7 : Int) (y1 : Int) (M : ma_M) (Q : Option ma_V → ma_S → ma_M → Prop) (hF : mr_FIX M) : ma_wp 17 100 [(2, 8), (2, 1), (0, x2), (0, x3), (0, x4), (0, x5), (0, x6), (0, x7)] [(2, 8), (0, y1)] mr_SH M Q ↔ ma_wp 17 103 [(2, 8), (2, 1), (0, x2), (0, x3), (0, x4), (0, x5), (0, x6), (0, x7)] [(2, 9), (0, y1)] mr_SH M Q := by
  rw [x17_100, mf_8_0 hF, ml_8]
  exact ⟨fun h => h.2, fun h => ⟨by decide, h⟩⟩
theorem s17_105 (x2 : Int) (x3 : Int) (x4 : Int) (x5 : Int) (x6 : Int) (x7 : Int) (y0 : Int) (y2 : Int) (M : ma_M) (Q : Option ma_V → ma_S → ma_M → Prop) (hF : mr_FIX M) : ma_wp 17 105 [(2, 8), (2, 1), (0, x2), (0, x3), (0, x4), (0, x5), (0, x6), (0, x7)] [(0, y0), (2, 9), (0, y2)] mr_SH M Q ↔ (0 ≤ y0 ∧ y0 < 24) ∧ ma_wp 17 106 [(2, 8), (2, 1), (0, x2), (0, x3), (0, x4), (0, x5), (0, x6), (0, x7)] [(2, 10 + y0), (0, y2)] mr_SH M Q := by
  rw [x17_105, ml_9]
  constructor
  · rintro ⟨h1, h2⟩
    rw [mg_9 hF h1.1 h1.2] at h2
    exact ⟨h1, h2⟩
  · rintro ⟨h1, h2⟩
    rw [mg_9 hF h1.1 h1.2]
    exact ⟨h1, h2⟩
theorem s18_0 (x2 : Int) (x3 : Int) (x4 : Int) (x5 : Int) (x6 : Int) (M : ma_M) (Q : Option ma_V → ma_S → ma_M → Prop) : ma_wp 18 0 [(2, 8), (2, 1), (0, x2), (2, x3), (2, x4), (3, x5), (3, x6)] [] mr_SH M Q ↔ ma_wp 18 1 [(2, 8), (2, 1), (0, x2), (2, x3), (2, x4), (3, x5), (3, x6)] [(2, 8)] mr_SH M Q := by
  rw [x18_0]
  exact ⟨fun h => h.2, fun h => ⟨by decide, h⟩⟩
theorem s18_1 (x2 : Int) (x3 : Int) (x4 : Int) (x5 : Int) (x6 : Int) (M : ma_M) (Q : Option ma_V → ma_S → ma_M → Prop) (hF : mr_FIX M) : ma_wp 18 1 [(2, 8), (2, 1), (0, x2), (2, x3), (2, x4), (3, x5), (3, x6)] [(2, 8)] mr_SH M Q ↔ ma_wp 18 4 [(2, 8), (2, 1), (0, x2), (2, x3), (2, x4), (3, x5), (3, x6)] [(2, 9)] mr_SH M Q := by
  rw [x18_1, mf_8_0 hF, ml_8]
  exact ⟨fun h => h.2, fun h => ⟨by decide, h⟩⟩
theorem s18_5 (x2 : Int) (x3 : Int) (x4 : Int) (x5 : Int) (x6 : Int) (y0 : Int) (M : ma_M) (Q : Option ma_V → ma_S → ma_M → Prop) (hF : mr_FIX M) : ma_wp 18 5 [(2, 8), (2, 1), (0, x2), (2, x3), (2, x4), (3, x5), (3, x6)] [(0, y0), (2, 9)] mr_SH M Q ↔ (0 ≤ y0 ∧ y0 < 24) ∧ ma_wp 18 6 [(2, 8), (2, 1), (0, x2), (2, x3), (2, x4), (3, x5), (3, x6)] [(2, 10 + y0)] mr_SH M Q := by
  rw [x18_5, ml_9]
  constructor
  · rintro ⟨h1, h2⟩
    rw [mg_9 hF h1.1 h1.2] at h2
    exact ⟨h1, h2⟩
  · rintro ⟨h1, h2⟩
    rw [mg_9 hF h1.1 h1.2]
    exact ⟨h1, h2⟩
theorem s18_8 (x2 : Int) (x3 : Int) (x4 : Int) (x5 : Int) (x6 : Int) (M : ma_M) (Q : Option ma_V → ma_S → ma_M → Prop) : ma_wp 18 8 [(2, 8), (2, 1), (0, x2), (2, x3), (2, x4), (2, x5), (3, x6)] [] mr_SH M Q ↔ ma_wp 18 9 [(2, 8), (2, 1), (0, x2), (2, x3), (2, x4), (2, x5), (3, x6)] [(2, 1)] mr_SH M Q := by
  rw [x18_8]
  exact ⟨fun h => h.2, fun h => ⟨by decide, h⟩⟩
theorem s18_9 (x2 : Int) (x3 : Int) (x4 : Int) (x5 : Int) (x6 : Int) (M : ma_M) (Q : Option ma_V → ma_S → ma_M → Prop) (hF : mr_FIX M) : ma_wp 18 9 [(2, 8), (2, 1), (0, x2), (2, x3), (2, x4), (2, x5), (3, x6)] [(2, 1)] mr_SH M Q ↔ ma_wp 18 12 [(2, 8), (2, 1), (0, x2), (2, x3), (2, x4), (2, x5), (3, x6)] [(2, 5)] mr_SH M Q := by
  rw [x18_9, mf_1_5 hF, ml_1]
  exact ⟨fun h => h.2, fun h => ⟨by decide, h⟩⟩
theorem s18_13 (x2 : Int) (x3 : Int) (x4 : Int) (x5 : Int) (x6 : Int) (y0 : Int) (M : ma_M) (Q : Option ma_V → ma_S → ma_M → Prop) : ma_wp 18 13 [(2, 8), (2, 1), (0, x2), (2, x3), (2, x4), (2, x5), (3, x6)] [(0, y0), (2, 5)] mr_SH M Q ↔ (0 ≤ y0 ∧ y0 < 24) ∧ ma_wp 18 14 [(2, 8), (2, 1), (0, x2), (2, x3), (2, x4), (2, x5), (3, x6)] [(0, M 5 y0)] mr_SH M Q := by
  rw [x18_13, ml_5]
theorem s18_16 (x2 : Int) (x3 : Int) (x4 : Int) (x5 : Int) (x6 : Int) (M : ma_M) (Q : Option ma_V → ma_S → ma_M → Prop) : ma_wp 18 16 [(2, 8), (2, 1), (0, x2), (2, x3), (2, x4), (2, x5), (0, x6)] [] mr_SH M Q ↔ ma_wp 18 17 [(2, 8), (2, 1), (0, x2), (2, x3), (2, x4), (2, x5), (0, x6)] [(2, 1)] mr_SH M Q := by
  rw [x18_16]
  exact ⟨fun h => h.2, fun h => ⟨by decide, h⟩⟩
theorem s18_17 (x2 : Int) (x3 : Int) (x4 : Int) (x5 : Int) (x6 : Int) (M : ma_M) (Q : Option ma_V → ma_S → ma_M → Prop) (hF : mr_FIX M) : ma_wp 18 17 [(2, 8), (2, 1), (0, x2), (2, x3), (2, x4), (2, x5), (0, x6)] [(2, 1)] mr_SH M Q ↔ ma_wp 18 20 [(2, 8), (2, 1), (0, x2), (2, x3), (2, x4), (2, x5), (0, x6)] [(2, 2)] mr_SH M Q := by
  rw [x18_17, mf_1_2 hF, ml_1]
  exact ⟨fun h => h.2, fun h => ⟨by decide, h⟩⟩
theorem s18_21 (x2 : Int) (x3 : Int) (x4 : Int) (x5 : Int) (x6 : Int) (y0 : Int) (M : ma_M) (Q : Option ma_V → ma_S → ma_M → Prop) : ma_wp 18 21 [(2, 8), (2, 1), (0, x2), (2, x3), (2, x4), (2, x5), (0, x6)] [(0, y0), (2, 2)] mr_SH M Q ↔ (0 ≤ y0 ∧ y0 < 24) ∧ ma_wp 18 22 [(2, 8), (2, 1), (0, x2), (2, x3), (2, x4), (2, x5), (0, x6)] [(0, M 2 y0)] mr_SH M Q := by
  rw [x18_21, ml_2]
theorem s19_0 (x2 : Int) (x3 : Int) (x4 : Int) (x5 : Int) (x6 : Int) (M : ma_M) (Q : Option ma_V → ma_S → ma_M → Prop) : ma_wp 19 0 [(2, 8), (2, 1), (0, x2), (0, x3), (3, x4), (3, x5), (3, x6)] [] mr_SH M Q ↔ ma_wp 19 1 [(2, 8), (2, 1), (0, x2), (0, x3), (3, x4), (3, x5), (3, x6)] [(2, 8)] mr_SH M Q := by
  rw [x19_0]
  exact ⟨fun h => h.2, fun h => ⟨by decide, h⟩⟩
theorem s19_1 (x2 : Int) (x3 : Int) (x4 : Int) (x5 : Int) (x6 : Int) (M : ma_M) (Q : Option ma_V → ma_S → ma_M → Prop) (hF : mr_FIX M) : ma_wp 19 1 [(2, 8), (2, 1), (0, x2), (0, x3), (3, x4), (3, x5), (3, x6)] [(2, 8)] mr_SH M Q ↔ ma_wp 19 4 [(2, 8), (2, 1), (0, x2), (0, x3), (3, x4), (3, x5), (3, x6)] [(2, 9)] mr_SH M Q := by
  rw [x19_1, mf_8_0 hF, ml_8]
  exact ⟨fun h => h.2, fun h => ⟨by decide, h⟩⟩
theorem s19_5 (x2 : Int) (x3 : Int) (x4 : Int) (x5 : Int) (x6 : Int) (y0 : Int) (M : ma_M) (Q : Option ma_V → ma_S → ma_M → Prop) (hF : mr_FIX M) : ma_wp 19 5 [(2, 8), (2, 1), (0, x2), (0, x3), (3, x4), (3, x5), (3, x6)] [(0, y0), (2, 9)] mr_SH M Q ↔ (0 ≤ y0 ∧ y0 < 24) ∧ ma_wp 19 6 [(2, 8), (2, 1), (0, x2), (0, x3), (3, x4), (3, x5), (3, x6)] [(2, 10 + y0)] mr_SH M Q := by
  rw [x19_5, ml_9]
  constructor
  · rintro ⟨h1, h2⟩
    rw [mg_9 hF h1.1 h1.2] at h2
    exact ⟨h1, h2⟩
  · rintro ⟨h1, h2⟩
    rw [mg_9 hF h1.1 h1.2]
    exact ⟨h1, h2⟩
theorem s19_8 (x2 : Int) (x3 : Int) (x4 : Int) (x5 : Int) (x6 : Int) (M : ma_M) (Q : Option ma_V → ma_S → ma_M → Prop) : ma_wp 19 8 [(2, 8), (2, 1), (0, x2), (0, x3), (2, x4), (3, x5), (3, x6)] [] mr_SH M Q ↔ ma_wp 19 9 [(2, 8), (2, 1), (0, x2), (0, x3), (2, x4), (3, x5), (3, x6)] [(2, 8)] mr_SH M Q := by
  rw [x19_8]
  exact ⟨fun h => h.2, fun h => ⟨by decide, h⟩⟩
theorem s19_9 (x2 : Int) (x3 : Int) (x4 : Int) (x5 : Int) (x6 : Int) (M : ma_M) (Q : Option ma_V → ma_S → ma_M → Prop) (hF : mr_FIX M) : ma_wp 19 9 [(2, 8), (2, 1), (0, x2), (0, x3), (2, x4), (3, x5), (3, x6)] [(2, 8)] mr_SH M Q ↔ ma_wp 19 12 [(2, 8), (2, 1), (0, x2), (0, x3), (2, x4), (3, x5), (3, x6)] [(2, 9)] mr_SH M Q := by
  rw [x19_9, mf_8_0 hF, ml_8]
  exact ⟨fun h => h.2, fun h => ⟨by decide, h⟩⟩
theorem s19_12 (x2 : Int) (x3 : Int) (x4 : Int) (x5 : Int) (x6 : Int) (M : ma_M) (Q : Option ma_V → ma_S → ma_M → Prop) : ma_wp 19 12 [(2, 8), (2, 1), (0, x2), (0, x3), (2, x4), (3, x5), (3, x6)] [(2, 9)] mr_SH M Q ↔ ma_wp 19 13 [(2, 8), (2, 1), (0, x2), (0, x3), (2, x4), (3, x5), (3, x6)] [(2, 1), (2, 9)] mr_SH M Q := by
  rw [x19_12]
  exact ⟨fun h => h.2, fun h => ⟨by decide, h⟩⟩
theorem s19_13 (x2 : Int) (x3 : Int) (x4 : Int) (x5 : Int) (x6 : Int) (M : ma_M) (Q : Option ma_V → ma_S → ma_M → Prop) (hF : mr_FIX M) : ma_wp 19 13 [(2, 8), (2, 1), (0, x2), (0, x3), (2, x4), (3, x5), (3, x6)] [(2, 1), (2, 9)] mr_SH M Q ↔ ma_wp 19 16 [(2, 8), (2, 1), (0, x2), (0, x3), (2, x4), (3, x5), (3, x6)] [(2, 3), (2, 9)] mr_SH M Q := by
  rw [x19_13, mf_1_3 hF, ml_1]
  exact ⟨fun h => h.2, fun h => ⟨by decide, h⟩⟩
theorem s19_17 (x2 : Int) (x3 : Int) (x4 : Int) (x5 : Int) (x6 : Int) (y0 : Int) (M : ma_M) (Q : Option ma_V → ma_S → ma_M → Prop) : ma_wp 19 17 [(2, 8), (2, 1), (0, x2), (0, x3), (2, x4), (3, x5), (3, x6)] [(0, y0), (2, 3), (2, 9)] mr_SH M Q ↔ (0 ≤ y0 ∧ y0 < 24) ∧ ma_wp 19 18 [(2, 8), (2, 1), (0, x2), (0, x3), (2, x4), (3, x5), (3, x6)] [(0, M 3 y0), (2, 9)] mr_SH M Q := by
  rw [x19_17, ml_3]
theorem s19_18 (x2 : Int) (x3 : Int) (x4 : Int) (x5 : Int) (x6 : Int) (y0 : Int) (M : ma_M) (Q : Option ma_V → ma_S → ma_M → Prop) (hF : mr_FIX M) : ma_wp 19 18 [(2, 8), (2, 1), (0, x2), (0, x3), (2, x4), (3, x5), (3, x6)] [(0, y0), (2, 9)] mr_SH M Q ↔ (0 ≤ y0 ∧ y0 < 24) ∧ ma_wp 19 19 [(2, 8), (2, 1), (0, x2), (0, x3), (2, x4), (3, x5), (3, x6)] [(2, 10 + y0)] mr_SH M Q := by
  rw [x19_18, ml_9]
  constructor
  · rintro ⟨h1, h2⟩
    rw [mg_9 hF h1.1 h1.2] at h2
    exact ⟨h1, h2⟩
  · rintro ⟨h1, h2⟩
    rw [mg_9 hF h1.1 h1.2]
    exact ⟨h1, h2⟩
theorem s19_21 (x2 : Int) (x3 : Int) (x4 : Int) (x5 : Int) (x6 : Int) (M : ma_M) (Q : Option ma_V → ma_S → ma_M → Prop) : ma_wp 19 21 [(2, 8), (2, 1), (0, x2), (0, x3), (2, x4), (2, x5), (3, x6)] [] mr_SH M Q ↔ ma_wp 19 22 [(2, 8), (2, 1), (0, x2), (0, x3), (2, x4), (2, x5), (3, x6)] [(2, 8)] mr_SH M Q := by
  rw [x19_21]
  exact ⟨fun h => h.2, fun h => ⟨by decide, h⟩⟩
theorem s19_22 (x2 : Int) (x3 : Int) (x4 : Int) (x5 : Int) (x6 : Int) (M : ma_M) (Q : Option ma_V → ma_S → ma_M → Prop) (hF : mr_FIX M) : ma_wp 19 22 [(2, 8), (2, 1), (0, x2), (0, x3), (2, x4), (2, x5), (3, x6)] [(2, 8)] mr_SH M Q ↔ ma_wp 19 25 [(2, 8), (2, 1), (0, x2), (0, x3), (2, x4), (2, x5), (3, x6)] [(2, 9)] mr_SH M Q := by
  rw [x19_22, mf_8_0 hF, ml_8]
  exact ⟨fun h => h.2, fun h => ⟨by decide, h⟩⟩
theorem s19_25 (x2 : Int) (x3 : Int) (x4 : Int) (x5 : Int) (x6 : Int) (M : ma_M) (Q : Option ma_V → ma_S → ma_M → Prop) : ma_wp 19 25 [(2, 8), (2, 1), (0, x2), (0, x3), (2, x4), (2, x5), (3, x6)] [(2, 9)] mr_SH M Q ↔ ma_wp 19 26 [(2, 8), (2, 1), (0, x2), (0, x3), (2, x4), (2, x5), (3, x6)] [(2, 1), (2, 9)] mr_SH M Q := by
  rw [x19_25]
  exact ⟨fun h => h.2, fun h => ⟨by decide, h⟩⟩
theorem s19_26 (x2 : Int) (x3 : Int) (x4 : Int) (x5 : Int) (x6 : Int) (M : ma_M) (Q : Option ma_V → ma_S → ma_M → Prop) (hF : mr_FIX M) : ma_wp 19 26 [(2, 8), (2, 1), (0, x2), (0, x3), (2, x4), (2, x5), (3, x6)] [(2, 1), (2, 9)] mr_SH M Q ↔ ma_wp 19 29 [(2, 8), (2, 1), (0, x2), (0, x3), (2, x4), (2, x5), (3, x6)] [(2, 4), (2, 9)] mr_SH M Q := by
  rw [x19_26, mf_1_4 hF, ml_1]
  exact ⟨fun h => h.2, fun h => ⟨by decide, h⟩⟩
theorem s19_30 (x2 : Int) (x3 : Int) (x4 : Int) (x5 : Int) (x6 : Int) (y0 : Int) (M : ma_M) (Q : Option ma_V → ma_S → ma_M → Prop) : ma_wp 19 30 [(2, 8), (2, 1), (0, x2), (0, x3), (2, x4), (2, x5), (3, x6)] [(0, y0), (2, 4), (2, 9)] mr_SH M Q ↔ (0 ≤ y0 ∧ y0 < 24) ∧ ma_wp 19 31 [(2, 8), (2, 1), (0, x2), (0, x3), (2, x4), (2, x5), (3, x6)] [(0, M 4 y0), (2, 9)] mr_SH M Q := by
  rw [x19_30, ml_4]
theorem s19_31 (x2 : Int) (x3 : Int) (x4 : Int) (x5 : Int) (x6 : Int) (y0 : Int) (M : ma_M) (Q : Option ma_V → ma_S → ma_M → Prop) (hF : mr_FIX M) : ma_wp 19 31 [(2, 8), (2, 1), (0, x2), (0, x3), (2, x4), (2, x5), (3, x6)] [(0, y0), (2, 9)] mr_SH M Q ↔ (0 ≤ y0 ∧ y0 < 24) ∧ ma_wp 19 32 [(2, 8), (2, 1), (0, x2), (0, x3), (2, x4), (2, x5), (3, x6)] [(2, 10 + y0)] mr_SH M Q := by
  rw [x19_31, ml_9]
  constructor
  · rintro ⟨h1, h2⟩
    rw [mg_9 hF h1.1 h1.2] at h2
    exact ⟨h1, h2⟩
  · rintro ⟨h1, h2⟩
    rw [mg_9 hF h1.1 h1.2]
    exact ⟨h1, h2⟩
theorem s19_34 (x2 : Int) (x3 : Int) (x4 : Int) (x5 : Int) (x6 : Int) (M : ma_M) (Q : Option ma_V → ma_S → ma_M → Prop) : ma_wp 19 34 [(2, 8), (2, 1), (0, x2), (0, x3), (2, x4), (2, x5), (2, x6)] [] mr_SH M Q ↔ ma_wp 19 35 [(2, 8), (2, 1), (0, x2), (0, x3), (2, x4), (2, x5), (2, x6)] [(2, 1)] mr_SH M Q := by
  rw [x19_34]
  exact ⟨fun h => h.2, fun h => ⟨by decide, h⟩⟩
theorem s19_35 (x2 : Int) (x3 : Int) (x4 : Int) (x5 : Int) (x6 : Int) (M : ma_M) (Q : Option ma_V → ma_S → ma_M → Prop) (hF : mr_FIX M) : ma_wp 19 35 [(2, 8), (2, 1), (0, x2), (0, x3), (2, x4), (2, x5), (2, x6)] [(2, 1)] mr_SH M Q ↔ ma_wp 19 38 [(2, 8), (2, 1), (0, x2), (0, x3), (2, x4), (2, x5), (2, x6)] [(2, 2)] mr_SH M Q := by
  rw [x19_35, mf_1_2 hF, ml_1]
  exact ⟨fun h => h.2, fun h => ⟨by decide, h⟩⟩
theorem s19_39 (x2 : Int) (x3 : Int) (x4 : Int) (x5 : Int) (x6 : Int) (y0 : Int) (M : ma_M) (Q : Option ma_V → ma_S → ma_M → Prop) : ma_wp 19 39 [(2, 8), (2, 1), (0, x2), (0, x3), (2, x4), (2, x5), (2, x6)] [(0, y0), (2, 2)] mr_SH M Q ↔ (0 ≤ y0 ∧ y0 < 24) ∧ ma_wp 19 40 [(2, 8), (2, 1), (0, x2), (0, x3), (2, x4), (2, x5), (2, x6)] [(0, M 2 y0)] mr_SH M Q := by
  rw [x19_39, ml_2]
theorem s19_152 (x2 : Int) (x3 : Int) (x4 : Int) (x5 : Int) (x6 : Int) (y0 : Int) (y1 : Int) (M : ma_M) (Q : Option ma_V → ma_S → ma_M → Prop) : ma_wp 19 152 [(2, 8), (2, 1), (0, x2), (0, x3), (2, x4), (2, x5), (2, x6)] [(2, y0), (2, y1)] mr_SH M Q ↔ ma_wp 19 153 [(2, 8), (2, 1), (0, x2), (0, x3), (2, x4), (2, x5), (2, x6)] [(2, 1), (2, y0), (2, y1)] mr_SH M Q := by
  rw [x19_152]
  exact ⟨fun h => h.2, fun h => ⟨by decide, h⟩⟩
theorem s19_153 (x2 : Int) (x3 : Int) (x4 : Int) (x5 : Int) (x6 : Int) (y1 : Int) (y2 : Int) (M : ma_M) (Q : Option ma_V → ma_S → ma_M → Prop) (hF : mr_FIX M) : ma_wp 19 153 [(2, 8), (2, 1), (0, x2), (0, x3), (2, x4), (2, x5), (2, x6)] [(2, 1), (2, y1), (2, y2)] mr_SH M Q ↔ ma_wp 19 156 [(2, 8), (2, 1), (0, x2), (0, x3), (2, x4), (2, x5), (2, x6)] [(2, 5), (2, y1), (2, y2)] mr_SH M Q := by
  rw [x19_153, mf_1_5 hF, ml_1]
  exact ⟨fun h => h.2, fun h => ⟨by decide, h⟩⟩
theorem s19_157 (x2 : Int) (x3 : Int) (x4 : Int) (x5 : Int) (x6 : Int) (y0 : Int) (y2 : Int) (y3 : Int) (M : ma_M) (Q : Option ma_V → ma_S → ma_M → Prop) : ma_wp 19 157 [(2, 8), (2, 1), (0, x2), (0, x3), (2, x4), (2, x5), (2, x6)] [(0, y0), (2, 5), (2, y2), (2, y3)] mr_SH M Q ↔ (0 ≤ y0 ∧ y0 < 24) ∧ ma_wp 19 158 [(2, 8), (2, 1), (0, x2), (0, x3), (2, x4), (2, x5), (2, x6)] [(0, M 5 y0), (2, y2), (2, y3)] mr_SH M Q := by
  rw [x19_157, ml_5]
theorem s19_165 (x2 : Int) (x3 : Int) (x4 : Int) (x5 : Int) (x6 : Int) (M : ma_M) (Q : Option ma_V → ma_S → ma_M → Prop) : ma_wp 19 165 [(2, 8), (2, 1), (0, x2), (0, x3), (2, x4), (2, x5), (2, x6)] [] mr_SH M Q ↔ ma_wp 19 166 [(2, 8), (2, 1), (0, x2), (0, x3), (2, x4), (2, x5), (2, x6)] [(2, 8)] mr_SH M Q := by
  rw [x19_165]
  exact ⟨fun h => h.2, fun h => ⟨by decide, h⟩⟩
theorem s19_166 (x2 : Int) (x3 : Int) (x4 : Int) (x5 : Int) (x6 : Int) (M : ma_M) (Q : Option ma_V → ma_S → ma_M → Prop) (hF : mr_FIX M) : ma_wp 19 166 [(2, 8), (2, 1), (0, x2), (0, x3), (2, x4), (2, x5), (2, x6)] [(2, 8)] mr_SH M Q ↔ ma_wp 19 169 [(2, 8), (2, 1), (0, x2), (0, x3), (2, x4), (2, x5), (2, x6)] [(2, 9)] mr_SH M Q := by
  rw [x19_166, mf_8_0 hF, ml_8]
  exact ⟨fun h => h.2, fun h => ⟨by decide, h⟩⟩
theorem s19_169 (x2 : Int) (x3 : Int) (x4 : Int) (x5 : Int) (x6 : Int) (M : ma_M) (Q : Option ma_V → ma_S → ma_M → Prop) : ma_wp 19 169 [(2, 8), (2, 1), (0, x2), (0, x3), (2, x4), (2, x5), (2, x6)] [(2, 9)] mr_SH M Q ↔ ma_wp 19 170 [(2, 8), (2, 1), (0, x2), (0, x3), (2, x4), (2, x5), (2, x6)] [(2, 8), (2, 9)] mr_SH M Q := by
  rw [x19_169]
  exact ⟨fun h => h.2, fun h => ⟨by decide, h⟩⟩
theorem s19_170 (x2 : Int) (x3 : Int) (x4 : Int) (x5 : Int) (x6 : Int) (M : ma_M) (Q : Option ma_V → ma_S → ma_M → Prop) : ma_wp 19 170 [(2, 8), (2, 1), (0, x2), (0, x3), (2, x4), (2, x5), (2, x6)] [(2, 8), (2, 9)] mr_SH M Q ↔ ma_wp 19 171 [(2, 8), (2, 1), (0, x2), (0, x3), (2, x4), (2, x5), (2, x6)] [(2, 1), (2, 8), (2, 9)] mr_SH M Q := by
  rw [x19_170]
  exact ⟨fun h => h.2, fun h => ⟨by decide, h⟩⟩
theorem s19_172 (x2 : Int) (x3 : Int) (x4 : Int) (x5 : Int) (x6 : Int) (y0 : Int) (M : ma_M) (Q : Option ma_V → ma_S → ma_M → Prop) : ma_wp 19 172 [(2, 8), (2, 1), (0, x2), (0, x3), (2, x4), (2, x5), (2, x6)] [(0, y0), (2, 1), (2, 8), (2, 9)] mr_SH M Q ↔ mr_do 16 [(2, 8), (2, 1), (0, y0)] mr_SH M (fun r sh M => ma_wp 19 175 [(2, 8), (2, 1), (0, x2), (0, x3), (2, x4), (2, x5), (2, x6)] (r.toList ++ [(2, 9)]) sh M Q) := by
  rw [x19_172, ml_8]
  exact ⟨fun h => h.2, fun h => ⟨by decide, h⟩⟩
theorem s19_175 (x2 : Int) (x3 : Int) (x4 : Int) (x5 : Int) (x6 : Int) (y0 : Int) (M : ma_M) (Q : Option ma_V → ma_S → ma_M → Prop) (hF : mr_FIX M) : ma_wp 19 175 [(2, 8), (2, 1), (0, x2), (0, x3), (2, x4), (2, x5), (2, x6)] [(0, y0), (2, 9)] mr_SH M Q ↔ (0 ≤ y0 ∧ y0 < 24) ∧ ma_wp 19 176 [(2, 8), (2, 1), (0, x2), (0, x3), (2, x4), (2, x5), (2, x6)] [(2, 10 + y0)] mr_SH M Q := by
  rw [x19_175, ml_9]
  constructor
  · rintro ⟨h1, h2⟩
    rw [mg_9 hF h1.1 h1.2] at h2
    exact ⟨h1, h2⟩
  · rintro ⟨h1, h2⟩
    rw [mg_9 hF h1.1 h1.2]
    exact ⟨h1, h2⟩
theorem s25_0  (M : ma_M) (Q : Option ma_V → ma_S → ma_M → Prop) : ma_wp 25 0 [(2, 35)] [] mr_SH M Q ↔ ma_wp 25 1 [(2, 35)] [(2, 35)] mr_SH M Q := by
  rw [x25_0]
  exact ⟨fun h => h.2, fun h => ⟨by decide, h⟩⟩
theorem s25_1  (M : ma_M) (Q : Option ma_V → ma_S → ma_M → Prop) (hF : mr_FIX M) : ma_wp 25 1 [(2, 35)] [(2, 35)] mr_SH M Q ↔ ma_wp 25 4 [(2, 35)] [(2, 36)] mr_SH M Q := by
  rw [x25_1, mf_35_0 hF, ml_35]
  exact ⟨fun h => h.2, fun h => ⟨by decide, h⟩⟩
theorem s26_0 (x1 : Int) (x2 : Int) (M : ma_M) (Q : Option ma_V → ma_S → ma_M → Prop) : ma_wp 26 0 [(2, 35), (0, x1), (0, x2)] [] mr_SH M Q ↔ ma_wp 26 1 [(2, 35), (0, x1), (0, x2)] [(2, 35)] mr_SH M Q := by
  rw [x26_0]
  exact ⟨fun h => h.2, fun h => ⟨by decide, h⟩⟩
theorem s26_1 (x1 : Int) (x2 : Int) (M : ma_M) (Q : Option ma_V → ma_S → ma_M → Prop) (hF : mr_FIX M) : ma_wp 26 1 [(2, 35), (0, x1), (0, x2)] [(2, 35)] mr_SH M Q ↔ ma_wp 26 4 [(2, 35), (0, x1), (0, x2)] [(2, 36)] mr_SH M Q := by
  rw [x26_1, mf_35_0 hF, ml_35]
  exact ⟨fun h => h.2, fun h => ⟨by decide, h⟩⟩
theorem s26_5 (x1 : Int) (x2 : Int) (y0 : Int) (M : ma_M) (Q : Option ma_V → ma_S → ma_M → Prop) : ma_wp 26 5 [(2, 35), (0, x1), (0, x2)] [(0, y0), (2, 36)] mr_SH M Q ↔ ma_wp 26 6 [(2, 35), (0, x1), (0, x2)] [(2, 35), (0, y0), (2, 36)] mr_SH M Q := by
  rw [x26_5]
  exact ⟨fun h => h.2, fun h => ⟨by decide, h⟩⟩
theorem s26_6 (x1 : Int) (x2 : Int) (y1 : Int) (M : ma_M) (Q : Option ma_V → ma_S → ma_M → Prop) (hF : mr_FIX M) : ma_wp 26 6 [(2, 35), (0, x1), (0, x2)] [(2, 35), (0, y1), (2, 36)] mr_SH M Q ↔ ma_wp 26 9 [(2, 35), (0, x1), (0, x2)] [(2, 36), (0, y1), (2, 36)] mr_SH M Q := by
  rw [x26_6, mf_35_0 hF, ml_35]
  exact ⟨fun h => h.2, fun h => ⟨by decide, h⟩⟩
theorem s26_10 (x1 : Int) (x2 : Int) (y0 : Int) (y2 : Int) (M : ma_M) (Q : Option ma_V → ma_S → ma_M → Prop) : ma_wp 26 10 [(2, 35), (0, x1), (0, x2)] [(0, y0), (2, 36), (0, y2), (2, 36)] mr_SH M Q ↔ (0 ≤ y0 ∧ y0 < 24) ∧ ma_wp 26 11 [(2, 35), (0, x1), (0, x2)] [(0, M 36 y0), (0, y2), (2, 36)] mr_SH M Q := by
  rw [x26_10, ml_36]
theorem s26_17 (x1 : Int) (x2 : Int) (y0 : Int) (y1 : Int) (M : ma_M) (Q : Option ma_V → ma_S → ma_M → Prop) : ma_wp 26 17 [(2, 35), (0, x1), (0, x2)] [(0, y0), (0, y1), (2, 36)] mr_SH M Q ↔ (0 ≤ y1 ∧ y1 < 24) ∧ ma_wp 26 18 [(2, 35), (0, x1), (0, x2)] [] mr_SH (ma_up M 36 y1 y0) Q := by
  rw [x26_17, ml_36]
theorem s27_0 (x3 : Int) (M : ma_M) (Q : Option ma_V → ma_S → ma_M → Prop) : ma_wp 27 0 [(2, 35), (2, 1), (2, 8), (3, x3)] [] mr_SH M Q ↔ ma_wp 27 1 [(2, 35), (2, 1), (2, 8), (3, x3)] [(2, 1)] mr_SH M Q := by
  rw [x27_0]
  exact ⟨fun h => h.2, fun h => ⟨by decide, h⟩⟩
theorem s27_1 (x3 : Int) (M : ma_M) (Q : Option ma_V → ma_S → ma_M → Prop) : ma_wp 27 1 [(2, 35), (2, 1), (2, 8), (3, x3)] [(2, 1)] mr_SH M Q ↔ ma_wp 27 4 [(2, 35), (2, 1), (2, 8), (3, x3)] [(0, M 1 0)] mr_SH M Q := by
  rw [x27_1, ml_1]
  exact ⟨fun h => h.2, fun h => ⟨by decide, h⟩⟩
theorem s27_11 (x3 : Int) (M : ma_M) (Q : Option ma_V → ma_S → ma_M → Prop) : ma_wp 27 11 [(2, 35), (2, 1), (2, 8), (0, x3)] [] mr_SH M Q ↔ ma_wp 27 12 [(2, 35), (2, 1), (2, 8), (0, x3)] [(2, 35)] mr_SH M Q := by
  rw [x27_11]
  exact ⟨fun h => h.2, fun h => ⟨by decide, h⟩⟩
theorem s27_12 (x3 : Int) (M : ma_M) (Q : Option ma_V → ma_S → ma_M → Prop) (hF : mr_FIX M) : ma_wp 27 12 [(2, 35), (2, 1), (2, 8), (0, x3)] [(2, 35)] mr_SH M Q ↔ ma_wp 27 15 [(2, 35), (2, 1), (2, 8), (0, x3)] [(2, 36)] mr_SH M Q := by
  rw [x27_12, mf_35_0 hF, ml_35]
  exact ⟨fun h => h.2, fun h => ⟨by decide, h⟩⟩
theorem s27_16 (x3 : Int) (y0 : Int) (M : ma_M) (Q : Option ma_V → ma_S → ma_M → Prop) : ma_wp 27 16 [(2, 35), (2, 1), (2, 8), (0, x3)] [(0, y0), (2, 36)] mr_SH M Q ↔ (0 ≤ y0 ∧ y0 < 24) ∧ ma_wp 27 17 [(2, 35), (2, 1), (2, 8), (0, x3)] [(0, M 36 y0)] mr_SH M Q := by
  rw [x27_16, ml_36]
theorem s27_20 (x3 : Int) (M : ma_M) (Q : Option ma_V → ma_S → ma_M → Prop) : ma_wp 27 20 [(2, 35), (2, 1), (2, 8), (0, x3)] [] mr_SH M Q ↔ ma_wp 27 21 [(2, 35), (2, 1), (2, 8), (0, x3)] [(2, 1)] mr_SH M Q := by
  rw [x27_20]
  exact ⟨fun h => h.2, fun h => ⟨by decide, h⟩⟩
theorem s27_22 (x3 : Int) (y0 : Int) (M : ma_M) (Q : Option ma_V → ma_S → ma_M → Prop) : ma_wp 27 22 [(2, 35), (2, 1), (2, 8), (0, x3)] [(0, y0), (2, 1)] mr_SH M Q ↔ mr_do 7 [(2, 1), (0, y0)] mr_SH M (fun r sh M => ma_wp 27 25 [(2, 35), (2, 1), (2, 8), (0, x3)] (r.toList ++ []) sh M Q) := by
  rw [x27_22, ml_1]
  exact ⟨fun h => h.2, fun h => ⟨by decide, h⟩⟩
theorem s27_28 (x3 : Int) (M : ma_M) (Q : Option ma_V → ma_S → ma_M → Prop) : ma_wp 27 28 [(2, 35), (2, 1), (2, 8), (0, x3)] [] mr_SH M Q ↔ ma_wp 27 29 [(2, 35), (2, 1), (2, 8), (0, x3)] [(2, 35)] mr_SH M Q := by
  rw [x27_28]
  exact ⟨fun h => h.2, fun h => ⟨by decide, h⟩⟩
theorem s27_29 (x3 : Int) (M : ma_M) (Q : Option ma_V → ma_S → ma_M → Prop) : ma_wp 27 29 [(2, 35), (2, 1), (2, 8), (0, x3)] [(2, 35)] mr_SH M Q ↔ ma_wp 27 30 [(2, 35), (2, 1), (2, 8), (0, x3)] [(2, 1), (2, 35)] mr_SH M Q := by
  rw [x27_29]
  exact ⟨fun h => h.2, fun h => ⟨by decide, h⟩⟩
theorem s27_30 (x3 : Int) (M : ma_M) (Q : Option ma_V → ma_S → ma_M → Prop) : ma_wp 27 30 [(2, 35), (2, 1), (2, 8), (0, x3)] [(2, 1), (2, 35)] mr_SH M Q ↔ ma_wp 27 31 [(2, 35), (2, 1), (2, 8), (0, x3)] [(2, 8), (2, 1), (2, 35)] mr_SH M Q := by
  rw [x27_30]
  exact ⟨fun h => h.2, fun h => ⟨by decide, h⟩⟩
theorem s27_32 (x3 : Int) (y0 : Int) (M : ma_M) (Q : Option ma_V → ma_S → ma_M → Prop) : ma_wp 27 32 [(2, 35), (2, 1), (2, 8), (0, x3)] [(0, y0), (2, 8), (2, 1), (2, 35)] mr_SH M Q ↔ mr_do 28 [(2, 35), (2, 1), (2, 8), (0, y0)] mr_SH M (fun r sh M => ma_wp 27 35 [(2, 35), (2, 1), (2, 8), (0, x3)] (r.toList ++ []) sh M Q) := by
  rw [x27_32, ml_35]
  exact ⟨fun h => h.2, fun h => ⟨by decide, h⟩⟩
theorem s28_0 (x3 : Int) (x4 : Int) (x5 : Int) (x6 : Int) (x7 : Int) (x8 : Int) (x9 : Int) (M : ma_M) (Q : Option ma_V → ma_S → ma_M → Prop) : ma_wp 28 0 [(2, 35), (2, 1), (2, 8), (0, x3), (3, x4), (3, x5), (3, x6), (3, x7), (3, x8), (3, x9)] [] mr_SH M Q ↔ ma_wp 28 1 [(2, 35), (2, 1), (2, 8), (0, x3), (3, x4), (3, x5), (3, x6), (3, x7), (3, x8), (3, x9)] [(2, 1)] mr_SH M Q := by
  rw [x28_0]
  exact ⟨fun h => h.2, fun h => ⟨by decide, h⟩⟩
theorem s28_1 (x3 : Int) (x4 : Int) (x5 : Int) (x6 : Int) (x7 : Int) (x8 : Int) (x9 : Int) (M : ma_M) (Q : Option ma_V → ma_S → ma_M → Prop) (hF : mr_FIX M) : ma_wp 28 1 [(2, 35), (2, 1), (2, 8), (0, x3), (3, x4), (3, x5), (3, x6), (3, x7), (3, x8), (3, x9)] [(2, 1)] mr_SH M Q ↔ ma_wp 28 4 [(2, 35), (2, 1), (2, 8), (0, x3), (3, x4), (3, x5), (3, x6), (3, x7), (3, x8), (3, x9)] [(2, 3)] mr_SH M Q := by
  rw [x28_1, mf_1_3 hF, ml_1]
  exact ⟨fun h => h.2, fun h => ⟨by decide, h⟩⟩
theorem s28_5 (x3 : Int) (x4 : Int) (x5 : Int) (x6 : Int) (x7 : Int) (x8 : Int) (x9 : Int) (y0 : Int) (M : ma_M) (Q : Option ma_V → ma_S → ma_M → Prop) : ma_wp 28 5 [(2, 35), (2, 1), (2, 8), (0, x3), (3, x4), (3, x5), (3, x6), (3, x7), (3, x8), (3, x9)] [(0, y0), (2, 3)] mr_SH M Q ↔ (0 ≤ y0 ∧ y0 < 24) ∧ ma_wp 28 6 [(2, 35), (2, 1), (2, 8), (0, x3), (3, x4), (3, x5), (3, x6), (3, x7), (3, x8), (3, x9)] [(0, M 3 y0)] mr_SH M Q := by
  rw [x28_5, ml_3]
theorem s28_8 (x3 : Int) (x4 : Int) (x5 : Int) (x6 : Int) (x7 : Int) (x8 : Int) (x9 : Int) (M : ma_M) (Q : Option ma_V → ma_S → ma_M → Prop) : ma_wp 28 8 [(2, 35), (2, 1), (2, 8), (0, x3), (0, x4), (3, x5), (3, x6), (3, x7), (3, x8), (3, x9)] [] mr_SH M Q ↔ ma_wp 28 9 [(2, 35), (2, 1), (2, 8), (0, x3), (0, x4), (3, x5), (3, x6), (3, x7), (3, x8), (3, x9)] [(2, 1)] mr_SH M Q := by
  rw [x28_8]
  exact ⟨fun h => h.2, fun h => ⟨by decide, h⟩⟩
theorem s28_9 (x3 : Int) (x4 : Int) (x5 : Int) (x6 : Int) (x7 : Int) (x8 : Int) (x9 : Int) (M : ma_M) (Q : Option ma_V → ma_S → ma_M → Prop) (hF : mr_FIX M) : ma_wp 28 9 [(2, 35), (2, 1), (2, 8), (0, x3), (0, x4), (3, x5), (3, x6), (3, x7), (3, x8), (3, x9)] [(2, 1)] mr_SH M Q ↔ ma_wp 28 12 [(2, 35), (2, 1), (2, 8), (0, x3), (0, x4), (3, x5), (3, x6), (3, x7), (3, x8), (3, x9)] [(2, 4)] mr_SH M Q := by
  rw [x28_9, mf_1_4 hF, ml_1]
  exact ⟨fun h => h.2, fun h => ⟨by decide, h⟩⟩
theorem s28_13 (x3 : Int) (x4 : Int) (x5 : Int) (x6 : Int) (x7 : Int) (x8 : Int) (x9 : Int) (y0 : Int) (M : ma_M) (Q : Option ma_V → ma_S → ma_M → Prop) : ma_wp 28 13 [(2, 35), (2, 1), (2, 8), (0, x3), (0, x4), (3, x5), (3, x6), (3, x7), (3, x8), (3, x9)] [(0, y0), (2, 4)] mr_SH M Q ↔ (0 ≤ y0 ∧ y0 < 24) ∧ ma_wp 28 14 [(2, 35), (2, 1), (2, 8), (0, x3), (0, x4), (3, x5), (3, x6), (3, x7), (3, x8), (3, x9)] [(0, M 4 y0)] mr_SH M Q := by
  rw [x28_13, ml_4]
theorem s28_16 (x3 : Int) (x4 : Int) (x5 : Int) (x6 : Int) (x7 : Int) (x8 : Int) (x9 : Int) (M : ma_M) (Q : Option ma_V → ma_S → ma_M → Prop) : ma_wp 28 16 [(2, 35), (2, 1), (2, 8), (0, x3), (0, x4), (0, x5), (3, x6), (3, x7), (3, x8), (3, x9)] [] mr_SH M Q ↔ ma_wp 28 17 [(2, 35), (2, 1), (2, 8), (0, x3), (0, x4), (0, x5), (3, x6), (3, x7), (3, x8), (3, x9)] [(2, 35)] mr_SH M Q := by
  rw [x28_16]
  exact ⟨fun h => h.2, fun h => ⟨by decide, h⟩⟩
theorem s28_17 (x3 : Int) (x4 : Int) (x5 : Int) (x6 : Int) (x7 : Int) (x8 : Int) (x9 : Int) (M : ma_M) (Q : Option ma_V → ma_S → ma_M → Prop) (hF : mr_FIX M) : ma_wp 28 17 [(2, 35), (2, 1), (2, 8), (0, x3), (0, x4), (0, x5), (3, x6), (3, x7), (3, x8), (3, x9)] [(2, 35)] mr_SH M Q ↔ ma_wp 28 20 [(2, 35), (2, 1), (2, 8), (0, x3), (0, x4), (0, x5), (3, x6), (3, x7), (3, x8), (3, x9)] [(2, 36)] mr_SH M Q := by
  rw [x28_17, mf_35_0 hF, ml_35]
  exact ⟨fun h => h.2, fun h => ⟨by decide, h⟩⟩
theorem s28_21 (x3 : Int) (x4 : Int) (x5 : Int) (x6 : Int) (x7 : Int) (x8 : Int) (x9 : Int) (y0 : Int) (M : ma_M) (Q : Option ma_V → ma_S → ma_M → Prop) : ma_wp 28 21 [(2, 35), (2, 1), (2, 8), (0, x3), (0, x4), (0, x5), (3, x6), (3, x7), (3, x8), (3, x9)] [(0, y0), (2, 36)] mr_SH M Q ↔ (0 ≤ y0 ∧ y0 < 24) ∧ ma_wp 28 22 [(2, 35), (2, 1), (2, 8), (0, x3), (0, x4), (0, x5), (3, x6), (3, x7), (3, x8), (3, x9)] [(0, M 36 y0)] mr_SH M Q := by
  rw [x28_21, ml_36]
theorem s28_24 (x3 : Int) (x4 : Int) (x5 : Int) (x6 : Int) (x7 : Int) (x8 : Int) (x9 : Int) (M : ma_M) (Q : Option ma_V → ma_S → ma_M → Prop) : ma_wp 28 24 [(2, 35), (2, 1), (2, 8), (0, x3), (0, x4), (0, x5), (0, x6), (3, x7), (3, x8), (3, x9)] [] mr_SH M Q ↔ ma_wp 28 25 [(2, 35), (2, 1), (2, 8), (0, x3), (0, x4), (0, x5), (0, x6), (3, x7), (3, x8), (3, x9)] [(2, 1)] mr_SH M Q := by
  rw [x28_24]
  exact ⟨fun h => h.2, fun h => ⟨by decide, h⟩⟩
theorem s28_25 (x3 : Int) (x4 : Int) (x5 : Int) (x6 : Int) (x7 : Int) (x8 : Int) (x9 : Int) (M : ma_M) (Q : Option ma_V → ma_S → ma_M → Prop) (hF : mr_FIX M) : ma_wp 28 25 [(2, 35), (2, 1), (2, 8), (0, x3), (0, x4), (0, x5), (0, x6), (3, x7), (3, x8), (3, x9)] [(2, 1)] mr_SH M Q ↔ ma_wp 28 28 [(2, 35), (2, 1), (2, 8), (0, x3), (0, x4), (0, x5), (0, x6), (3, x7), (3, x8), (3, x9)] [(2, 2)] mr_SH M Q := by
  rw [x28_25, mf_1_2 hF, ml_1]
  exact ⟨fun h => h.2, fun h => ⟨by decide, h⟩⟩
theorem s28_29 (x3 : Int) (x4 : Int) (x5 : Int) (x6 : Int) (x7 : Int) (x8 : Int) (x9 : Int) (y0 : Int) (M : ma_M) (Q : Option ma_V → ma_S → ma_M → Prop) : ma_wp 28 29 [(2, 35), (2, 1), (2, 8), (0, x3), (0, x4), (0, x5), (0, x6), (3, x7), (3, x8), (3, x9)] [(0, y0), (2, 2)] mr_SH M Q ↔ (0 ≤ y0 ∧ y0 < 24) ∧ ma_wp 28 30 [(2, 35), (2, 1), (2, 8), (0, x3), (0, x4), (0, x5), (0, x6), (3, x7), (3, x8), (3, x9)] [(0, M 2 y0)] mr_SH M Q := by
  rw [x28_29, ml_2]
theorem s28_72 (x3 : Int) (x4 : Int) (x5 : Int) (x6 : Int) (x7 : Int) (x8 : Int) (x9 : Int) (M : ma_M) (Q : Option ma_V → ma_S → ma_M → Prop) : ma_wp 28 72 [(2, 35), (2, 1), (2, 8), (0, x3), (0, x4), (0, x5), (0, x6), (3, x7), (3, x8), (3, x9)] [] mr_SH M Q ↔ ma_wp 28 73 [(2, 35), (2, 1), (2, 8), (0, x3), (0, x4), (0, x5), (0, x6), (3, x7), (3, x8), (3, x9)] [(2, 35)] mr_SH M Q := by
  rw [x28_72]
  exact ⟨fun h => h.2, fun h => ⟨by decide, h⟩⟩
theorem s28_77 (x3 : Int) (x4 : Int) (x5 : Int) (x6 : Int) (x7 : Int) (x8 : Int) (x9 : Int) (y0 : Int) (y1 : Int) (M : ma_M) (Q : Option ma_V → ma_S → ma_M → Prop) : ma_wp 28 77 [(2, 35), (2, 1), (2, 8), (0, x3), (0, x4), (0, x5), (0, x6), (3, x7), (3, x8), (3, x9)] [(0, y0), (0, y1), (2, 35)] mr_SH M Q ↔ mr_do 26 [(2, 35), (0, y1), (0, y0)] mr_SH M (fun r sh M => ma_wp 28 80 [(2, 35), (2, 1), (2, 8), (0, x3), (0, x4), (0, x5), (0, x6), (3, x7), (3, x8), (3, x9)] (r.toList ++ []) sh M Q) := by
  rw [x28_77, ml_35]
  exact ⟨fun h => h.2, fun h => ⟨by decide, h⟩⟩
theorem s28_80 (x3 : Int) (x4 : Int) (x5 : Int) (x6 : Int) (x7 : Int) (x8 : Int) (x9 : Int) (M : ma_M) (Q : Option ma_V → ma_S → ma_M → Prop) : ma_wp 28 80 [(2, 35), (2, 1), (2, 8), (0, x3), (0, x4), (0, x5), (0, x6), (3, x7), (3, x8), (3, x9)] [] mr_SH M Q ↔ ma_wp 28 81 [(2, 35), (2, 1), (2, 8), (0, x3), (0, x4), (0, x5), (0, x6), (3, x7), (3, x8), (3, x9)] [(2, 35)] mr_SH M Q := by
  rw [x28_80]
  exact ⟨fun h => h.2, fun h => ⟨by decide, h⟩⟩
theorem s28_85 (x3 : Int) (x4 : Int) (x5 : Int) (x6 : Int) (x7 : Int) (x8 : Int) (x9 : Int) (y0 : Int) (y1 : Int) (M : ma_M) (Q : Option ma_V → ma_S → ma_M → Prop) : ma_wp 28 85 [(2, 35), (2, 1), (2, 8), (0, x3), (0, x4), (0, x5), (0, x6), (3, x7), (3, x8), (3, x9)] [(0, y0), (0, y1), (2, 35)] mr_SH M Q ↔ mr_do 26 [(2, 35), (0, y1), (0, y0)] mr_SH M (fun r sh M => ma_wp 28 88 [(2, 35), (2, 1), (2, 8), (0, x3), (0, x4), (0, x5), (0, x6), (3, x7), (3, x8), (3, x9)] (r.toList ++ []) sh M Q) := by
  rw [x28_85, ml_35]
  exact ⟨fun h => h.2, fun h => ⟨by decide, h⟩⟩
theorem s28_91 (x3 : Int) (x4 : Int) (x5 : Int) (x6 : Int) (x7 : Int) (x8 : Int) (x9 : Int) (M : ma_M) (Q : Option ma_V → ma_S → ma_M → Prop) : ma_wp 28 91 [(2, 35), (2, 1), (2, 8), (0, x3), (0, x4), (0, x5), (0, x6), (3, x7), (3, x8), (3, x9)] [] mr_SH M Q ↔ ma_wp 28 92 [(2, 35), (2, 1), (2, 8), (0, x3), (0, x4), (0, x5), (0, x6), (3, x7), (3, x8), (3, x9)] [(2, 35)] mr_SH M Q := by
  rw [x28_91]
  exact ⟨fun h => h.2, fun h => ⟨by decide, h⟩⟩
theorem s28_96 (x3 : Int) (x4 : Int) (x5 : Int) (x6 : Int) (x7 : Int) (x8 : Int) (x9 : Int) (y0 : Int) (y1 : Int) (M : ma_M) (Q : Option ma_V → ma_S → ma_M → Prop) : ma_wp 28 96 [(2, 35), (2, 1), (2, 8), (0, x3), (0, x4), (0, x5), (0, x6), (3, x7), (3, x8), (3, x9)] [(0, y0), (0, y1), (2, 35)] mr_SH M Q ↔ mr_do 26 [(2, 35), (0, y1), (0, y0)] mr_SH M (fun r sh M => ma_wp 28 99 [(2, 35), (2, 1), (2, 8), (0, x3), (0, x4), (0, x5), (0, x6), (3, x7), (3, x8), (3, x9)] (r.toList ++ []) sh M Q) := by
  rw [x28_96, ml_35]
  exact ⟨fun h => h.2, fun h => ⟨by decide, h⟩⟩
theorem s28_99 (x3 : Int) (x4 : Int) (x5 : Int) (x6 : Int) (x7 : Int) (x8 : Int) (x9 : Int) (M : ma_M) (Q : Option ma_V → ma_S → ma_M → Prop) : ma_wp 28 99 [(2, 35), (2, 1), (2, 8), (0, x3), (0, x4), (0, x5), (0, x6), (3, x7), (3, x8), (3, x9)] [] mr_SH M Q ↔ ma_wp 28 100 [(2, 35), (2, 1), (2, 8), (0, x3), (0, x4), (0, x5), (0, x6), (3, x7), (3, x8), (3, x9)] [(2, 35)] mr_SH M Q := by
  rw [x28_99]
  exact ⟨fun h => h.2, fun h => ⟨by decide, h⟩⟩
theorem s28_105 (x3 : Int) (x4 : Int) (x5 : Int) (x6 : Int) (x7 : Int) (x8 : Int) (x9 : Int) (y0 : Int) (y1 : Int) (M : ma_M) (Q : Option ma_V → ma_S → ma_M → Prop) : ma_wp 28 105 [(2, 35), (2, 1), (2, 8), (0, x3), (0, x4), (0, x5), (0, x6), (3, x7), (3, x8), (3, x9)] [(0, y0), (0, y1), (2, 35)] mr_SH M Q ↔ mr_do 26 [(2, 35), (0, y1), (0, y0)] mr_SH M (fun r sh M => ma_wp 28 108 [(2, 35), (2, 1), (2, 8), (0, x3), (0, x4), (0, x5), (0, x6), (3, x7), (3, x8), (3, x9)] (r.toList ++ []) sh M Q) := by
  rw [x28_105, ml_35]
  exact ⟨fun h => h.2, fun h => ⟨by decide, h⟩⟩
theorem s28_111 (x3 : Int) (x4 : Int) (x5 : Int) (x6 : Int) (x7 : Int) (x8 : Int) (x9 : Int) (M : ma_M) (Q : Option ma_V → ma_S → ma_M → Prop) : ma_wp 28 111 [(2, 35), (2, 1), (2, 8), (0, x3), (0, x4), (0, x5), (0, x6), (3, x7), (3, x8), (3, x9)] [] mr_SH M Q ↔ ma_wp 28 112 [(2, 35), (2, 1), (2, 8), (0, x3), (0, x4), (0, x5), (0, x6), (3, x7), (3, x8), (3, x9)] [(2, 35)] mr_SH M Q := by
  rw [x28_111]
  exact ⟨fun h => h.2, fun h => ⟨by decide, h⟩⟩
theorem s28_116 (x3 : Int) (x4 : Int) (x5 : Int) (x6 : Int) (x7 : Int) (x8 : Int) (x9 : Int) (y0 : Int) (y1 : Int) (M : ma_M) (Q : Option ma_V → ma_S → ma_M → Prop) : ma_wp 28 116 [(2, 35), (2, 1), (2, 8), (0, x3), (0, x4), (0, x5), (0, x6), (3, x7), (3, x8), (3, x9)] [(0, y0), (0, y1), (2, 35)] mr_SH M Q ↔ ma_wp 28 117 [(2, 35), (2, 1), (2, 8), (0, x3), (0, x4), (0, x5), (0, x6), (3, x7), (3, x8), (3, x9)] [(2, 8), (0, y0), (0, y1), (2, 35)] mr_SH M Q := by
  rw [x28_116]
  exact ⟨fun h => h.2, fun h => ⟨by decide, h⟩⟩
theorem s28_117 (x3 : Int) (x4 : Int) (x5 : Int) (x6 : Int) (x7 : Int) (x8 : Int) (x9 : Int) (y1 : Int) (y2 : Int) (M : ma_M) (Q : Option ma_V → ma_S → ma_M → Prop) (hF : mr_FIX M) : ma_wp 28 117 [(2, 35), (2, 1), (2, 8), (0, x3), (0, x4), (0, x5), (0, x6), (3, x7), (3, x8), (3, x9)] [(2, 8), (0, y1), (0, y2), (2, 35)] mr_SH M Q ↔ ma_wp 28 120 [(2, 35), (2, 1), (2, 8), (0, x3), (0, x4), (0, x5), (0, x6), (3, x7), (3, x8), (3, x9)] [(2, 9), (0, y1), (0, y2), (2, 35)] mr_SH M Q := by
  rw [x28_117, mf_8_0 hF, ml_8]
  exact ⟨fun h => h.2, fun h => ⟨by decide, h⟩⟩
theorem s28_122 (x3 : Int) (x4 : Int) (x5 : Int) (x6 : Int) (x7 : Int) (x8 : Int) (x9 : Int) (y0 : Int) (y2 : Int) (y3 : Int) (M : ma_M) (Q : Option ma_V → ma_S → ma_M → Prop) (hF : mr_FIX M) : ma_wp 28 122 [(2, 35), (2, 1), (2, 8), (0, x3), (0, x4), (0, x5), (0, x6), (3, x7), (3, x8), (3, x9)] [(0, y0), (2, 9), (0, y2), (0, y3), (2, 35)] mr_SH M Q ↔ (0 ≤ y0 ∧ y0 < 24) ∧ ma_wp 28 123 [(2, 35), (2, 1), (2, 8), (0, x3), (0, x4), (0, x5), (0, x6), (3, x7), (3, x8), (3, x9)] [(2, 10 + y0), (0, y2), (0, y3), (2, 35)] mr_SH M Q := by
  rw [x28_122, ml_9]
  constructor
  · rintro ⟨h1, h2⟩
    rw [mg_9 hF h1.1 h1.2] at h2
    exact ⟨h1, h2⟩
  · rintro ⟨h1, h2⟩
    rw [mg_9 hF h1.1 h1.2]
    exact ⟨h1, h2⟩
theorem s28_128 (x3 : Int) (x4 : Int) (x5 : Int) (x6 : Int) (x7 : Int) (x8 : Int) (x9 : Int) (y0 : Int) (y1 : Int) (M : ma_M) (Q : Option ma_V → ma_S → ma_M → Prop) : ma_wp 28 128 [(2, 35), (2, 1), (2, 8), (0, x3), (0, x4), (0, x5), (0, x6), (3, x7), (3, x8), (3, x9)] [(0, y0), (0, y1), (2, 35)] mr_SH M Q ↔ mr_do 26 [(2, 35), (0, y1), (0, y0)] mr_SH M (fun r sh M => ma_wp 28 131 [(2, 35), (2, 1), (2, 8), (0, x3), (0, x4), (0, x5), (0, x6), (3, x7), (3, x8), (3, x9)] (r.toList ++ []) sh M Q) := by
  rw [x28_128, ml_35]
  exact ⟨fun h => h.2, fun h => ⟨by decide, h⟩⟩
theorem s28_131 (x3 : Int) (x4 : Int) (x5 : Int) (x6 : Int) (x7 : Int) (x8 : Int) (x9 : Int) (M : ma_M) (Q : Option ma_V → ma_S → ma_M → Prop) : ma_wp 28 131 [(2, 35), (2, 1), (2, 8), (0, x3), (0, x4), (0, x5), (0, x6), (3, x7), (3, x8), (3, x9)] [] mr_SH M Q ↔ ma_wp 28 132 [(2, 35), (2, 1), (2, 8), (0, x3), (0, x4), (0, x5), (0, x6), (3, x7), (3, x8), (3, x9)] [(2, 35)] mr_SH M Q := by
  rw [x28_131]
  exact ⟨fun h => h.2, fun h => ⟨by decide, h⟩⟩
theorem s28_136 (x3 : Int) (x4 : Int) (x5 : Int) (x6 : Int) (x7 : Int) (x8 : Int) (x9 : Int) (y0 : Int) (y1 : Int) (M : ma_M) (Q : Option ma_V → ma_S → ma_M → Prop) : ma_wp 28 136 [(2, 35), (2, 1), (2, 8), (0, x3), (0, x4), (0, x5), (0, x6), (3, x7), (3, x8), (3, x9)] [(0, y0), (0, y1), (2, 35)] mr_SH M Q ↔ ma_wp 28 137 [(2, 35), (2, 1), (2, 8), (0, x3), (0, x4), (0, x5), (0, x6), (3, x7), (3, x8), (3, x9)] [(2, 8), (0, y0), (0, y1), (2, 35)] mr_SH M Q := by
  rw [x28_136]
  exact ⟨fun h => h.2, fun h => ⟨by decide, h⟩⟩
theorem s28_137 (x3 : Int) (x4 : Int) (x5 : Int) (x6 : Int) (x7 : Int) (x8 : Int) (x9 : Int) (y1 : Int) (y2 : Int) (M : ma_M) (Q : Option ma_V → ma_S → ma_M → Prop) (hF : mr_FIX M) : ma_wp 28 137 [(2, 35), (2, 1), (2, 8), (0, x3), (0, x4), (0, x5), (0, x6), (3, x7), (3, x8), (3, x9)] [(2, 8), (0, y1), (0, y2), (2, 35)] mr_SH M Q ↔ ma_wp 28 140 [(2, 35), (2, 1), (2, 8), (0, x3), (0, x4), (0, x5), (0, x6), (3, x7), (3, x8), (3, x9)] [(2, 9), (0, y1), (0, y2), (2, 35)] mr_SH M Q := by
  rw [x28_137, mf_8_0 hF, ml_8]
  exact ⟨fun h => h.2, fun h => ⟨by decide, h⟩⟩
theorem s28_142 (x3 : Int) (x4 : Int) (x5 : Int) (x6 : Int) (x7 : Int) (x8 : Int) (x9 : Int) (y0 : Int) (y2 : Int) (y3 : Int) (M : ma_M) (Q : Option ma_V → ma_S → ma_M → Prop) (hF : mr_FIX M) : ma_wp 28 142 [(2, 35), (2, 1), (2, 8), (0, x3), (0, x4), (0, x5), (0, x6), (3, x7), (3, x8), (3, x9)] [(0, y0), (2, 9), (0, y2), (0, y3), (2, 35)] mr_SH M Q ↔ (0 ≤ y0 ∧ y0 < 24) ∧ ma_wp 28 143 [(2, 35), (2, 1), (2, 8), (0, x3), (0, x4), (0, x5), (0, x6), (3, x7), (3, x8), (3, x9)] [(2, 10 + y0), (0, y2), (0, y3), (2, 35)] mr_SH M Q := by
  rw [x28_142, ml_9]
  constructor
  · rintro ⟨h1, h2⟩
    rw [mg_9 hF h1.1 h1.2] at h2
    exact ⟨h1, h2⟩
  · rintro ⟨h1, h2⟩
    rw [mg_9 hF h1.1 h1.2]
    exact ⟨h1, h2⟩
theorem s28_148 (x3 : Int) (x4 : Int) (x5 : Int) (x6 : Int) (x7 : Int) (x8 : Int) (x9 : Int) (y0 : Int) (y1 : Int) (M : ma_M) (Q : Option ma_V → ma_S → ma_M → Prop) : ma_wp 28 148 [(2, 35), (2, 1), (2, 8), (0, x3), (0, x4), (0, x5), (0, x6), (3, x7), (3, x8), (3, x9)] [(0, y0), (0, y1), (2, 35)] mr_SH M Q ↔ mr_do 26 [(2, 35), (0, y1), (0, y0)] mr_SH M (fun r sh M => ma_wp 28 151 [(2, 35), (2, 1), (2, 8), (0, x3), (0, x4), (0, x5), (0, x6), (3, x7), (3, x8), (3, x9)] (r.toList ++ []) sh M Q) := by
  rw [x28_148, ml_35]
  exact ⟨fun h => h.2, fun h => ⟨by decide, h⟩⟩
theorem s28_154 (x3 : Int) (x4 : Int) (x5 : Int) (x6 : Int) (x7 : Int) (x8 : Int) (x9 : Int) (M : ma_M) (Q : Option ma_V → ma_S → ma_M → Prop) : ma_wp 28 154 [(2, 35), (2, 1), (2, 8), (0, x3), (0, x4), (0, x5), (0, x6), (3, x7), (3, x8), (3, x9)] [] mr_SH M Q ↔ ma_wp 28 155 [(2, 35), (2, 1), (2, 8), (0, x3), (0, x4), (0, x5), (0, x6), (3, x7), (3, x8), (3, x9)] [(2, 8)] mr_SH M Q := by
  rw [x28_154]
  exact ⟨fun h => h.2, fun h => ⟨by decide, h⟩⟩
theorem s28_155 (x3 : Int) (x4 : Int) (x5 : Int) (x6 : Int) (x7 : Int) (x8 : Int) (x9 : Int) (M : ma_M) (Q : Option ma_V → ma_S → ma_M → Prop) (hF : mr_FIX M) : ma_wp 28 155 [(2, 35), (2, 1), (2, 8), (0, x3), (0, x4), (0, x5), (0, x6), (3, x7), (3, x8), (3, x9)] [(2, 8)] mr_SH M Q ↔ ma_wp 28 158 [(2, 35), (2, 1), (2, 8), (0, x3), (0, x4), (0, x5), (0, x6), (3, x7), (3, x8), (3, x9)] [(2, 9)] mr_SH M Q := by
  rw [x28_155, mf_8_0 hF, ml_8]
  exact ⟨fun h => h.2, fun h => ⟨by decide, h⟩⟩
theorem s28_160 (x3 : Int) (x4 : Int) (x5 : Int) (x6 : Int) (x7 : Int) (x8 : Int) (x9 : Int) (y0 : Int) (M : ma_M) (Q : Option ma_V → ma_S → ma_M → Prop) (hF : mr_FIX M) : ma_wp 28 160 [(2, 35), (2, 1), (2, 8), (0, x3), (0, x4), (0, x5), (0, x6), (3, x7), (3, x8), (3, x9)] [(0, y0), (2, 9)] mr_SH M Q ↔ (0 ≤ y0 ∧ y0 < 24) ∧ ma_wp 28 161 [(2, 35), (2, 1), (2, 8), (0, x3), (0, x4), (0, x5), (0, x6), (3, x7), (3, x8), (3, x9)] [(2, 10 + y0)] mr_SH M Q := by
  rw [x28_160, ml_9]
  constructor
  · rintro ⟨h1, h2⟩
    rw [mg_9 hF h1.1 h1.2] at h2
    exact ⟨h1, h2⟩
  · rintro ⟨h1, h2⟩
    rw [mg_9 hF h1.1 h1.2]
    exact ⟨h1, h2⟩
theorem s28_179 (x3 : Int) (x4 : Int) (x5 : Int) (x6 : Int) (x7 : Int) (x8 : Int) (x9 : Int) (M : ma_M) (Q : Option ma_V → ma_S → ma_M → Prop) : ma_wp 28 179 [(2, 35), (2, 1), (2, 8), (0, x3), (0, x4), (0, x5), (0, x6), (0, x7), (0, x8), (3, x9)] [] mr_SH M Q ↔ ma_wp 28 180 [(2, 35), (2, 1), (2, 8), (0, x3), (0, x4), (0, x5), (0, x6), (0, x7), (0, x8), (3, x9)] [(2, 35)] mr_SH M Q := by
  rw [x28_179]
  exact ⟨fun h => h.2, fun h => ⟨by decide, h⟩⟩
theorem s28_184 (x3 : Int) (x4 : Int) (x5 : Int) (x6 : Int) (x7 : Int) (x8 : Int) (x9 : Int) (y0 : Int) (y1 : Int) (M : ma_M) (Q : Option ma_V → ma_S → ma_M → Prop) : ma_wp 28 184 [(2, 35), (2, 1), (2, 8), (0, x3), (0, x4), (0, x5), (0, x6), (0, x7), (0, x8), (3, x9)] [(0, y0), (0, y1), (2, 35)] mr_SH M Q ↔ mr_do 26 [(2, 35), (0, y1), (0, y0)] mr_SH M (fun r sh M => ma_wp 28 187 [(2, 35), (2, 1), (2, 8), (0, x3), (0, x4), (0, x5), (0, x6), (0, x7), (0, x8), (3, x9)] (r.toList ++ []) sh M Q) := by
  rw [x28_184, ml_35]
  exact ⟨fun h => h.2, fun h => ⟨by decide, h⟩⟩
theorem s28_187 (x3 : Int) (x4 : Int) (x5 : Int) (x6 : Int) (x7 : Int) (x8 : Int) (x9 : Int) (M : ma_M) (Q : Option ma_V → ma_S → ma_M → Prop) : ma_wp 28 187 [(2, 35), (2, 1), (2, 8), (0, x3), (0, x4), (0, x5), (0, x6), (0, x7), (0, x8), (3, x9)] [] mr_SH M Q ↔ ma_wp 28 188 [(2, 35), (2, 1), (2, 8), (0, x3), (0, x4), (0, x5), (0, x6), (0, x7), (0, x8), (3, x9)] [(2, 35)] mr_SH M Q := by
  rw [x28_187]
  exact ⟨fun h => h.2, fun h => ⟨by decide, h⟩⟩
theorem s28_192 (x3 : Int) (x4 : Int) (x5 : Int) (x6 : Int) (x7 : Int) (x8 : Int) (x9 : Int) (y0 : Int) (y1 : Int) (M : ma_M) (Q : Option ma_V → ma_S → ma_M → Prop) : ma_wp 28 192 [(2, 35), (2, 1), (2, 8), (0, x3), (0, x4), (0, x5), (0, x6), (0, x7), (0, x8), (3, x9)] [(0, y0), (0, y1), (2, 35)] mr_SH M Q ↔ ma_wp 28 193 [(2, 35), (2, 1), (2, 8), (0, x3), (0, x4), (0, x5), (0, x6), (0, x7), (0, x8), (3, x9)] [(2, 8), (0, y0), (0, y1), (2, 35)] mr_SH M Q := by
  rw [x28_192]
  exact ⟨fun h => h.2, fun h => ⟨by decide, h⟩⟩
theorem s28_193 (x3 : Int) (x4 : Int) (x5 : Int) (x6 : Int) (x7 : Int) (x8 : Int) (x9 : Int) (y1 : Int) (y2 : Int) (M : ma_M) (Q : Option ma_V → ma_S → ma_M → Prop) (hF : mr_FIX M) : ma_wp 28 193 [(2, 35), (2, 1), (2, 8), (0, x3), (0, x4), (0, x5), (0, x6), (0, x7), (0, x8), (3, x9)] [(2, 8), (0, y1), (0, y2), (2, 35)] mr_SH M Q ↔ ma_wp 28 196 [(2, 35), (2, 1), (2, 8), (0, x3), (0, x4), (0, x5), (0, x6), (0, x7), (0, x8), (3, x9)] [(2, 9), (0, y1), (0, y2), (2, 35)] mr_SH M Q := by
  rw [x28_193, mf_8_0 hF, ml_8]
  exact ⟨fun h => h.2, fun h => ⟨by decide, h⟩⟩
theorem s28_197 (x3 : Int) (x4 : Int) (x5 : Int) (x6 : Int) (x7 : Int) (x8 : Int) (x9 : Int) (y0 : Int) (y2 : Int) (y3 : Int) (M : ma_M) (Q : Option ma_V → ma_S → ma_M → Prop) (hF : mr_FIX M) : ma_wp 28 197 [(2, 35), (2, 1), (2, 8), (0, x3), (0, x4), (0, x5), (0, x6), (0, x7), (0, x8), (3, x9)] [(0, y0), (2, 9), (0, y2), (0, y3), (2, 35)] mr_SH M Q ↔ (0 ≤ y0 ∧ y0 < 24) ∧ ma_wp 28 198 [(2, 35), (2, 1), (2, 8), (0, x3), (0, x4), (0, x5), (0, x6), (0, x7), (0, x8), (3, x9)] [(2, 10 + y0), (0, y2), (0, y3), (2, 35)] mr_SH M Q := by
  rw [x28_197, ml_9]
  constructor
  · rintro ⟨h1, h2⟩
    rw [mg_9 hF h1.1 h1.2] at h2
    exact ⟨h1, h2⟩
  · rintro ⟨h1, h2⟩
    rw [mg_9 hF h1.1 h1.2]
    exact ⟨h1, h2⟩
theorem s28_204 (x3 : Int) (x4 : Int) (x5 : Int) (x6 : Int) (x7 : Int) (x8 : Int) (x9 : Int) (y0 : Int) (y1 : Int) (M : ma_M) (Q : Option ma_V → ma_S → ma_M → Prop) : ma_wp 28 204 [(2, 35), (2, 1), (2, 8), (0, x3), (0, x4), (0, x5), (0, x6), (0, x7), (0, x8), (3, x9)] [(0, y0), (0, y1), (2, 35)] mr_SH M Q ↔ mr_do 26 [(2, 35), (0, y1), (0, y0)] mr_SH M (fun r sh M => ma_wp 28 207 [(2, 35), (2, 1), (2, 8), (0, x3), (0, x4), (0, x5), (0, x6), (0, x7), (0, x8), (3, x9)] (r.toList ++ []) sh M Q) := by
  rw [x28_204, ml_35]
  exact ⟨fun h => h.2, fun h => ⟨by decide, h⟩⟩
theorem s28_210 (x3 : Int) (x4 : Int) (x5 : Int) (x6 : Int) (x7 : Int) (x8 : Int) (x9 : Int) (M : ma_M) (Q : Option ma_V → ma_S → ma_M → Prop) : ma_wp 28 210 [(2, 35), (2, 1), (2, 8), (0, x3), (0, x4), (0, x5), (0, x6), (3, x7), (3, x8), (3, x9)] [] mr_SH M Q ↔ ma_wp 28 211 [(2, 35), (2, 1), (2, 8), (0, x3), (0, x4), (0, x5), (0, x6), (3, x7), (3, x8), (3, x9)] [(2, 8)] mr_SH M Q := by
  rw [x28_210]
  exact ⟨fun h => h.2, fun h => ⟨by decide, h⟩⟩
theorem s28_211 (x3 : Int) (x4 : Int) (x5 : Int) (x6 : Int) (x7 : Int) (x8 : Int) (x9 : Int) (M : ma_M) (Q : Option ma_V → ma_S → ma_M → Prop) (hF : mr_FIX M) : ma_wp 28 211 [(2, 35), (2, 1), (2, 8), (0, x3), (0, x4), (0, x5), (0, x6), (3, x7), (3, x8), (3, x9)] [(2, 8)] mr_SH M Q ↔ ma_wp 28 214 [(2, 35), (2, 1), (2, 8), (0, x3), (0, x4), (0, x5), (0, x6), (3, x7), (3, x8), (3, x9)] [(2, 9)] mr_SH M Q := by
  rw [x28_211, mf_8_0 hF, ml_8]
  exact ⟨fun h => h.2, fun h => ⟨by decide, h⟩⟩
theorem s28_216 (x3 : Int) (x4 : Int) (x5 : Int) (x6 : Int) (x7 : Int) (x8 : Int) (x9 : Int) (y0 : Int) (M : ma_M) (Q : Option ma_V → ma_S → ma_M → Prop) (hF : mr_FIX M) : ma_wp 28 216 [(2, 35), (2, 1), (2, 8), (0, x3), (0, x4), (0, x5), (0, x6), (3, x7), (3, x8), (3, x9)] [(0, y0), (2, 9)] mr_SH M Q ↔ (0 ≤ y0 ∧ y0 < 24) ∧ ma_wp 28 217 [(2, 35), (2, 1), (2, 8), (0, x3), (0, x4), (0, x5), (0, x6), (3, x7), (3, x8), (3, x9)] [(2, 10 + y0)] mr_SH M Q := by
  rw [x28_216, ml_9]
  constructor
  · rintro ⟨h1, h2⟩
    rw [mg_9 hF h1.1 h1.2] at h2
    exact ⟨h1, h2⟩
  · rintro ⟨h1, h2⟩
    rw [mg_9 hF h1.1 h1.2]
    exact ⟨h1, h2⟩
theorem s28_219 (x3 : Int) (x4 : Int) (x5 : Int) (x6 : Int) (x7 : Int) (x8 : Int) (x9 : Int) (y0 : Int) (M : ma_M) (Q : Option ma_V → ma_S → ma_M → Prop) : ma_wp 28 219 [(2, 35), (2, 1), (2, 8), (0, x3), (0, x4), (0, x5), (0, x6), (3, x7), (3, x8), (3, x9)] [(0, y0)] mr_SH M Q ↔ ma_wp 28 220 [(2, 35), (2, 1), (2, 8), (0, x3), (0, x4), (0, x5), (0, x6), (3, x7), (3, x8), (3, x9)] [(2, 1), (0, y0)] mr_SH M Q := by
  rw [x28_219]
  exact ⟨fun h => h.2, fun h => ⟨by decide, h⟩⟩
theorem s28_220 (x3 : Int) (x4 : Int) (x5 : Int) (x6 : Int) (x7 : Int) (x8 : Int) (x9 : Int) (y1 : Int) (M : ma_M) (Q : Option ma_V → ma_S → ma_M → Prop) (hF : mr_FIX M) : ma_wp 28 220 [(2, 35), (2, 1), (2, 8), (0, x3), (0, x4), (0, x5), (0, x6), (3, x7), (3, x8), (3, x9)] [(2, 1), (0, y1)] mr_SH M Q ↔ ma_wp 28 223 [(2, 35), (2, 1), (2, 8), (0, x3), (0, x4), (0, x5), (0, x6), (3, x7), (3, x8), (3, x9)] [(2, 5), (0, y1)] mr_SH M Q := by
  rw [x28_220, mf_1_5 hF, ml_1]
  exact ⟨fun h => h.2, fun h => ⟨by decide, h⟩⟩
theorem s28_224 (x3 : Int) (x4 : Int) (x5 : Int) (x6 : Int) (x7 : Int) (x8 : Int) (x9 : Int) (y0 : Int) (y2 : Int) (M : ma_M) (Q : Option ma_V → ma_S → ma_M → Prop) : ma_wp 28 224 [(2, 35), (2, 1), (2, 8), (0, x3), (0, x4), (0, x5), (0, x6), (3, x7), (3, x8), (3, x9)] [(0, y0), (2, 5), (0, y2)] mr_SH M Q ↔ (0 ≤ y0 ∧ y0 < 24) ∧ ma_wp 28 225 [(2, 35), (2, 1), (2, 8), (0, x3), (0, x4), (0, x5), (0, x6), (3, x7), (3, x8), (3, x9)] [(0, M 5 y0), (0, y2)] mr_SH M Q := by
  rw [x28_224, ml_5]
theorem s28_230 (x3 : Int) (x4 : Int) (x5 : Int) (x6 : Int) (x7 : Int) (x8 : Int) (x9 : Int) (M : ma_M) (Q : Option ma_V → ma_S → ma_M → Prop) : ma_wp 28 230 [(2, 35), (2, 1), (2, 8), (0, x3), (0, x4), (0, x5), (0, x6), (3, x7), (3, x8), (0, x9)] [] mr_SH M Q ↔ ma_wp 28 231 [(2, 35), (2, 1), (2, 8), (0, x3), (0, x4), (0, x5), (0, x6), (3, x7), (3, x8), (0, x9)] [(2, 35)] mr_SH M Q := by
  rw [x28_230]
  exact ⟨fun h => h.2, fun h => ⟨by decide, h⟩⟩
theorem s28_240 (x3 : Int) (x4 : Int) (x5 : Int) (x6 : Int) (x7 : Int) (x8 : Int) (x9 : Int) (y0 : Int) (y1 : Int) (M : ma_M) (Q : Option ma_V → ma_S → ma_M → Prop) : ma_wp 28 240 [(2, 35), (2, 1), (2, 8), (0, x3), (0, x4), (0, x5), (0, x6), (3, x7), (3, x8), (0, x9)] [(0, y0), (0, y1), (2, 35)] mr_SH M Q ↔ mr_do 26 [(2, 35), (0, y1), (0, y0)] mr_SH M (fun r sh M => ma_wp 28 243 [(2, 35), (2, 1), (2, 8), (0, x3), (0, x4), (0, x5), (0, x6), (3, x7), (3, x8), (0, x9)] (r.toList ++ []) sh M Q) := by
  rw [x28_240, ml_35]
  exact ⟨fun h => h.2, fun h => ⟨by decide, h⟩⟩
theorem s28_246 (x3 : Int) (x4 : Int) (x5 : Int) (x6 : Int) (x7 : Int) (x8 : Int) (x9 : Int) (M : ma_M) (Q : Option ma_V → ma_S → ma_M → Prop) : ma_wp 28 246 [(2, 35), (2, 1), (2, 8), (0, x3), (0, x4), (0, x5), (0, x6), (3, x7), (3, x8), (3, x9)] [] mr_SH M Q ↔ ma_wp 28 247 [(2, 35), (2, 1), (2, 8), (0, x3), (0, x4), (0, x5), (0, x6), (3, x7), (3, x8), (3, x9)] [(2, 35)] mr_SH M Q := by
  rw [x28_246]
  exact ⟨fun h => h.2, fun h => ⟨by decide, h⟩⟩
theorem s28_247 (x3 : Int) (x4 : Int) (x5 : Int) (x6 : Int) (x7 : Int) (x8 : Int) (x9 : Int) (M : ma_M) (Q : Option ma_V → ma_S → ma_M → Prop) : ma_wp 28 247 [(2, 35), (2, 1), (2, 8), (0, x3), (0, x4), (0, x5), (0, x6), (3, x7), (3, x8), (3, x9)] [(2, 35)] mr_SH M Q ↔ ma_wp 28 248 [(2, 35), (2, 1), (2, 8), (0, x3), (0, x4), (0, x5), (0, x6), (3, x7), (3, x8), (3, x9)] [(2, 8), (2, 35)] mr_SH M Q := by
  rw [x28_247]
  exact ⟨fun h => h.2, fun h => ⟨by decide, h⟩⟩
theorem s28_248 (x3 : Int) (x4 : Int) (x5 : Int) (x6 : Int) (x7 : Int) (x8 : Int) (x9 : Int) (M : ma_M) (Q : Option ma_V → ma_S → ma_M → Prop) : ma_wp 28 248 [(2, 35), (2, 1), (2, 8), (0, x3), (0, x4), (0, x5), (0, x6), (3, x7), (3, x8), (3, x9)] [(2, 8), (2, 35)] mr_SH M Q ↔ ma_wp 28 249 [(2, 35), (2, 1), (2, 8), (0, x3), (0, x4), (0, x5), (0, x6), (3, x7), (3, x8), (3, x9)] [(2, 1), (2, 8), (2, 35)] mr_SH M Q := by
  rw [x28_248]
  exact ⟨fun h => h.2, fun h => ⟨by decide, h⟩⟩
theorem s28_250 (x3 : Int) (x4 : Int) (x5 : Int) (x6 : Int) (x7 : Int) (x8 : Int) (x9 : Int) (y0 : Int) (M : ma_M) (Q : Option ma_V → ma_S → ma_M → Prop) : ma_wp 28 250 [(2, 35), (2, 1), (2, 8), (0, x3), (0, x4), (0, x5), (0, x6), (3, x7), (3, x8), (3, x9)] [(0, y0), (2, 1), (2, 8), (2, 35)] mr_SH M Q ↔ mr_do 16 [(2, 8), (2, 1), (0, y0)] mr_SH M (fun r sh M => ma_wp 28 253 [(2, 35), (2, 1), (2, 8), (0, x3), (0, x4), (0, x5), (0, x6), (3, x7), (3, x8), (3, x9)] (r.toList ++ [(2, 35)]) sh M Q) := by
  rw [x28_250, ml_8]
  exact ⟨fun h => h.2, fun h => ⟨by decide, h⟩⟩
theorem s28_255 (x3 : Int) (x4 : Int) (x5 : Int) (x6 : Int) (x7 : Int) (x8 : Int) (x9 : Int) (y0 : Int) (y1 : Int) (M : ma_M) (Q : Option ma_V → ma_S → ma_M → Prop) : ma_wp 28 255 [(2, 35), (2, 1), (2, 8), (0, x3), (0, x4), (0, x5), (0, x6), (3, x7), (3, x8), (3, x9)] [(0, y0), (0, y1), (2, 35)] mr_SH M Q ↔ mr_do 26 [(2, 35), (0, y1), (0, y0)] mr_SH M (fun r sh M => ma_wp 28 258 [(2, 35), (2, 1), (2, 8), (0, x3), (0, x4), (0, x5), (0, x6), (3, x7), (3, x8), (3, x9)] (r.toList ++ []) sh M Q) := by
  rw [x28_255, ml_35]
  exact ⟨fun h => h.2, fun h => ⟨by decide, h⟩⟩
theorem s31_5 (x3 : Int) (x4 : Int) (x5 : Int) (x6 : Int) (y0 : Int) (M : ma_M) (Q : Option ma_V → ma_S → ma_M → Prop) : ma_wp 31 5 [(2, 37), (2, 1), (2, 8), (2, x3), (0, x4), (0, x5), (3, x6)] [(0, y0)] mr_SH M Q ↔ ma_wp 31 6 [(2, 37), (2, 1), (2, 8), (2, x3), (0, x4), (0, x5), (3, x6)] [(2, 1), (0, y0)] mr_SH M Q := by
  rw [x31_5]
  exact ⟨fun h => h.2, fun h => ⟨by decide, h⟩⟩
theorem s31_6 (x3 : Int) (x4 : Int) (x5 : Int) (x6 : Int) (y1 : Int) (M : ma_M) (Q : Option ma_V → ma_S → ma_M → Prop) : ma_wp 31 6 [(2, 37), (2, 1), (2, 8), (2, x3), (0, x4), (0, x5), (3, x6)] [(2, 1), (0, y1)] mr_SH M Q ↔ ma_wp 31 9 [(2, 37), (2, 1), (2, 8), (2, x3), (0, x4), (0, x5), (3, x6)] [(0, M 1 0), (0, y1)] mr_SH M Q := by
  rw [x31_6, ml_1]
  exact ⟨fun h => h.2, fun h => ⟨by decide, h⟩⟩
theorem s31_12 (x3 : Int) (x4 : Int) (x5 : Int) (x6 : Int) (M : ma_M) (Q : Option ma_V → ma_S → ma_M → Prop) : ma_wp 31 12 [(2, 37), (2, 1), (2, 8), (2, x3), (0, x4), (0, x5), (3, x6)] [] mr_SH M Q ↔ ma_wp 31 13 [(2, 37), (2, 1), (2, 8), (2, x3), (0, x4), (0, x5), (3, x6)] [(2, 37)] mr_SH M Q := by
  rw [x31_12]
  exact ⟨fun h => h.2, fun h => ⟨by decide, h⟩⟩
theorem s31_13 (x3 : Int) (x4 : Int) (x5 : Int) (x6 : Int) (M : ma_M) (Q : Option ma_V → ma_S → ma_M → Prop) (hF : mr_FIX M) : ma_wp 31 13 [(2, 37), (2, 1), (2, 8), (2, x3), (0, x4), (0, x5), (3, x6)] [(2, 37)] mr_SH M Q ↔ ma_wp 31 16 [(2, 37), (2, 1), (2, 8), (2, x3), (0, x4), (0, x5), (3, x6)] [(2, 38)] mr_SH M Q := by
  rw [x31_13, mf_37_0 hF, ml_37]
  exact ⟨fun h => h.2, fun h => ⟨by decide, h⟩⟩
theorem s31_18 (x3 : Int) (x4 : Int) (x5 : Int) (x6 : Int) (y0 : Int) (M : ma_M) (Q : Option ma_V → ma_S → ma_M → Prop) : ma_wp 31 18 [(2, 37), (2, 1), (2, 8), (2, x3), (0, x4), (0, x5), (3, x6)] [(0, y0), (2, 38)] mr_SH M Q ↔ ma_wp 31 19 [(2, 37), (2, 1), (2, 8), (2, x3), (0, x4), (0, x5), (3, x6)] [(2, 37), (0, y0), (2, 38)] mr_SH M Q := by
  rw [x31_18]
  exact ⟨fun h => h.2, fun h => ⟨by decide, h⟩⟩
theorem s31_19 (x3 : Int) (x4 : Int) (x5 : Int) (x6 : Int) (y1 : Int) (M : ma_M) (Q : Option ma_V → ma_S → ma_M → Prop) : ma_wp 31 19 [(2, 37), (2, 1), (2, 8), (2, x3), (0, x4), (0, x5), (3, x6)] [(2, 37), (0, y1), (2, 38)] mr_SH M Q ↔ ma_wp 31 20 [(2, 37), (2, 1), (2, 8), (2, x3), (0, x4), (0, x5), (3, x6)] [(2, 1), (2, 37), (0, y1), (2, 38)] mr_SH M Q := by
  rw [x31_19]
  exact ⟨fun h => h.2, fun h => ⟨by decide, h⟩⟩
theorem s31_20 (x3 : Int) (x4 : Int) (x5 : Int) (x6 : Int) (y2 : Int) (M : ma_M) (Q : Option ma_V → ma_S → ma_M → Prop) : ma_wp 31 20 [(2, 37), (2, 1), (2, 8), (2, x3), (0, x4), (0, x5), (3, x6)] [(2, 1), (2, 37), (0, y2), (2, 38)] mr_SH M Q ↔ ma_wp 31 21 [(2, 37), (2, 1), (2, 8), (2, x3), (0, x4), (0, x5), (3, x6)] [(2, 8), (2, 1), (2, 37), (0, y2), (2, 38)] mr_SH M Q := by
  rw [x31_20]
  exact ⟨fun h => h.2, fun h => ⟨by decide, h⟩⟩
theorem s31_23 (x3 : Int) (x4 : Int) (x5 : Int) (x6 : Int) (y0 : Int) (y4 : Int) (M : ma_M) (Q : Option ma_V → ma_S → ma_M → Prop) : ma_wp 31 23 [(2, 37), (2, 1), (2, 8), (2, x3), (0, x4), (0, x5), (3, x6)] [(0, y0), (2, 8), (2, 1), (2, 37), (0, y4), (2, 38)] mr_SH M Q ↔ mr_do 32 [(2, 37), (2, 1), (2, 8), (0, y0)] mr_SH M (fun r sh M => ma_wp 31 26 [(2, 37), (2, 1), (2, 8), (2, x3), (0, x4), (0, x5), (3, x6)] (r.toList ++ [(0, y4), (2, 38)]) sh M Q) := by
  rw [x31_23, ml_37]
  exact ⟨fun h => h.2, fun h => ⟨by decide, h⟩⟩
theorem s31_26 (x3 : Int) (x4 : Int) (x5 : Int) (x6 : Int) (y0 : Int) (y1 : Int) (M : ma_M) (Q : Option ma_V → ma_S → ma_M → Prop) : ma_wp 31 26 [(2, 37), (2, 1), (2, 8), (2, x3), (0, x4), (0, x5), (3, x6)] [(0, y0), (0, y1), (2, 38)] mr_SH M Q ↔ ((0 ≤ y1 ∧ y1 < 24) ∧ (y0 = 0 ∨ y0 = 1)) ∧ ma_wp 31 27 [(2, 37), (2, 1), (2, 8), (2, x3), (0, x4), (0, x5), (3, x6)] [] mr_SH (ma_up M 38 y1 y0) Q := by
  rw [x31_26, ml_38]
theorem s31_27 (x3 : Int) (x4 : Int) (x5 : Int) (x6 : Int) (M : ma_M) (Q : Option ma_V → ma_S → ma_M → Prop) : ma_wp 31 27 [(2, 37), (2, 1), (2, 8), (2, x3), (0, x4), (0, x5), (3, x6)] [] mr_SH M Q ↔ ma_wp 31 28 [(2, 37), (2, 1), (2, 8), (2, x3), (0, x4), (0, x5), (3, x6)] [(2, 37)] mr_SH M Q := by
  rw [x31_27]
  exact ⟨fun h => h.2, fun h => ⟨by decide, h⟩⟩
theorem s31_28 (x3 : Int) (x4 : Int) (x5 : Int) (x6 : Int) (M : ma_M) (Q : Option ma_V → ma_S → ma_M → Prop) (hF : mr_FIX M) : ma_wp 31 28 [(2, 37), (2, 1), (2, 8), (2, x3), (0, x4), (0, x5), (3, x6)] [(2, 37)] mr_SH M Q ↔ ma_wp 31 31 [(2, 37), (2, 1), (2, 8), (2, x3), (0, x4), (0, x5), (3, x6)] [(2, 41)] mr_SH M Q := by
  rw [x31_28, mf_37_3 hF, ml_37]
  exact ⟨fun h => h.2, fun h => ⟨by decide, h⟩⟩
theorem s31_33 (x3 : Int) (x4 : Int) (x5 : Int) (x6 : Int) (y0 : Int) (M : ma_M) (Q : Option ma_V → ma_S → ma_M → Prop) : ma_wp 31 33 [(2, 37), (2, 1), (2, 8), (2, x3), (0, x4), (0, x5), (3, x6)] [(0, y0), (2, 41)] mr_SH M Q ↔ ma_wp 31 34 [(2, 37), (2, 1), (2, 8), (2, x3), (0, x4), (0, x5), (3, x6)] [(2, 37), (0, y0), (2, 41)] mr_SH M Q := by
  rw [x31_33]
  exact ⟨fun h => h.2, fun h => ⟨by decide, h⟩⟩
theorem s31_34 (x3 : Int) (x4 : Int) (x5 : Int) (x6 : Int) (y1 : Int) (M : ma_M) (Q : Option ma_V → ma_S → ma_M → Prop) : ma_wp 31 34 [(2, 37), (2, 1), (2, 8), (2, x3), (0, x4), (0, x5), (3, x6)] [(2, 37), (0, y1), (2, 41)] mr_SH M Q ↔ ma_wp 31 35 [(2, 37), (2, 1), (2, 8), (2, x3), (0, x4), (0, x5), (3, x6)] [(2, 1), (2, 37), (0, y1), (2, 41)] mr_SH M Q := by
  rw [x31_34]
  exact ⟨fun h => h.2, fun h => ⟨by decide, h⟩⟩
theorem s31_35 (x3 : Int) (x4 : Int) (x5 : Int) (x6 : Int) (y2 : Int) (M : ma_M) (Q : Option ma_V → ma_S → ma_M → Prop) : ma_wp 31 35 [(2, 37), (2, 1), (2, 8), (2, x3), (0, x4), (0, x5), (3, x6)] [(2, 1), (2, 37), (0, y2), (2, 41)] mr_SH M Q ↔ ma_wp 31 36 [(2, 37), (2, 1), (2, 8), (2, x3), (0, x4), (0, x5), (3, x6)] [(2, 8), (2, 1), (2, 37), (0, y2), (2, 41)] mr_SH M Q := by
  rw [x31_35]
  exact ⟨fun h => h.2, fun h => ⟨by decide, h⟩⟩
theorem s31_38 (x3 : Int) (x4 : Int) (x5 : Int) (x6 : Int) (y0 : Int) (y4 : Int) (M : ma_M) (Q : Option ma_V → ma_S → ma_M → Prop) : ma_wp 31 38 [(2, 37), (2, 1), (2, 8), (2, x3), (0, x4), (0, x5), (3, x6)] [(0, y0), (2, 8), (2, 1), (2, 37), (0, y4), (2, 41)] mr_SH M Q ↔ mr_do 33 [(2, 37), (2, 1), (2, 8), (0, y0)] mr_SH M (fun r sh M => ma_wp 31 41 [(2, 37), (2, 1), (2, 8), (2, x3), (0, x4), (0, x5), (3, x6)] (r.toList ++ [(0, y4), (2, 41)]) sh M Q) := by
  rw [x31_38, ml_37]
  exact ⟨fun h => h.2, fun h => ⟨by decide, h⟩⟩
theorem s31_41 (x3 : Int) (x4 : Int) (x5 : Int) (x6 : Int) (y0 : Int) (y1 : Int) (M : ma_M) (Q : Option ma_V → ma_S → ma_M → Prop) : ma_wp 31 41 [(2, 37), (2, 1), (2, 8), (2, x3), (0, x4), (0, x5), (3, x6)] [(0, y0), (0, y1), (2, 41)] mr_SH M Q ↔ (0 ≤ y1 ∧ y1 < 24) ∧ ma_wp 31 42 [(2, 37), (2, 1), (2, 8), (2, x3), (0, x4), (0, x5), (3, x6)] [] mr_SH (ma_up M 41 y1 y0) Q := by
  rw [x31_41, ml_41]
theorem s31_42 (x3 : Int) (x4 : Int) (x5 : Int) (x6 : Int) (M : ma_M) (Q : Option ma_V → ma_S → ma_M → Prop) : ma_wp 31 42 [(2, 37), (2, 1), (2, 8), (2, x3), (0, x4), (0, x5), (3, x6)] [] mr_SH M Q ↔ ma_wp 31 43 [(2, 37), (2, 1), (2, 8), (2, x3), (0, x4), (0, x5), (3, x6)] [(2, 37)] mr_SH M Q := by
  rw [x31_42]
  exact ⟨fun h => h.2, fun h => ⟨by decide, h⟩⟩
theorem s31_43 (x3 : Int) (x4 : Int) (x5 : Int) (x6 : Int) (M : ma_M) (Q : Option ma_V → ma_S → ma_M → Prop) (hF : mr_FIX M) : ma_wp 31 43 [(2, 37), (2, 1), (2, 8), (2, x3), (0, x4), (0, x5), (3, x6)] [(2, 37)] mr_SH M Q ↔ ma_wp 31 46 [(2, 37), (2, 1), (2, 8), (2, x3), (0, x4), (0, x5), (3, x6)] [(2, 39)] mr_SH M Q := by
  rw [x31_43, mf_37_1 hF, ml_37]
  exact ⟨fun h => h.2, fun h => ⟨by decide, h⟩⟩
theorem s31_49 (x3 : Int) (x4 : Int) (x5 : Int) (x6 : Int) (y0 : Int) (y1 : Int) (M : ma_M) (Q : Option ma_V → ma_S → ma_M → Prop) : ma_wp 31 49 [(2, 37), (2, 1), (2, 8), (2, x3), (0, x4), (0, x5), (3, x6)] [(0, y0), (0, y1), (2, 39)] mr_SH M Q ↔ ((0 ≤ y1 ∧ y1 < 24) ∧ (y0 = 0 ∨ y0 = 1)) ∧ ma_wp 31 50 [(2, 37), (2, 1), (2, 8), (2, x3), (0, x4), (0, x5), (3, x6)] [] mr_SH (ma_up M 39 y1 y0) Q := by
  rw [x31_49, ml_39]
theorem s31_50 (x3 : Int) (x4 : Int) (x5 : Int) (x6 : Int) (M : ma_M) (Q : Option ma_V → ma_S → ma_M → Prop) : ma_wp 31 50 [(2, 37), (2, 1), (2, 8), (2, x3), (0, x4), (0, x5), (3, x6)] [] mr_SH M Q ↔ ma_wp 31 51 [(2, 37), (2, 1), (2, 8), (2, x3), (0, x4), (0, x5), (3, x6)] [(2, 37)] mr_SH M Q := by
  rw [x31_50]
  exact ⟨fun h => h.2, fun h => ⟨by decide, h⟩⟩
theorem s31_51 (x3 : Int) (x4 : Int) (x5 : Int) (x6 : Int) (M : ma_M) (Q : Option ma_V → ma_S → ma_M → Prop) (hF : mr_FIX M) : ma_wp 31 51 [(2, 37), (2, 1), (2, 8), (2, x3), (0, x4), (0, x5), (3, x6)] [(2, 37)] mr_SH M Q ↔ ma_wp 31 54 [(2, 37), (2, 1), (2, 8), (2, x3), (0, x4), (0, x5), (3, x6)] [(2, 40)] mr_SH M Q := by
  rw [x31_51, mf_37_2 hF, ml_37]
  exact ⟨fun h => h.2, fun h => ⟨by decide, h⟩⟩
theorem s31_57 (x3 : Int) (x4 : Int) (x5 : Int) (x6 : Int) (y0 : Int) (y1 : Int) (M : ma_M) (Q : Option ma_V → ma_S → ma_M → Prop) : ma_wp 31 57 [(2, 37), (2, 1), (2, 8), (2, x3), (0, x4), (0, x5), (3, x6)] [(0, y0), (0, y1), (2, 40)] mr_SH M Q ↔ ((0 ≤ y1 ∧ y1 < 24) ∧ (y0 = 0 ∨ y0 = 1)) ∧ ma_wp 31 58 [(2, 37), (2, 1), (2, 8), (2, x3), (0, x4), (0, x5), (3, x6)] [] mr_SH (ma_up M 40 y1 y0) Q := by
  rw [x31_57, ml_40]
theorem s31_74 (x3 : Int) (x4 : Int) (x5 : Int) (x6 : Int) (M : ma_M) (Q : Option ma_V → ma_S → ma_M → Prop) : ma_wp 31 74 [(2, 37), (2, 1), (2, 8), (2, x3), (0, x4), (0, x5), (3, x6)] [] mr_SH M Q ↔ ma_wp 31 75 [(2, 37), (2, 1), (2, 8), (2, x3), (0, x4), (0, x5), (3, x6)] [(2, 37)] mr_SH M Q := by
  rw [x31_74]
  exact ⟨fun h => h.2, fun h => ⟨by decide, h⟩⟩
theorem s31_75 (x3 : Int) (x4 : Int) (x5 : Int) (x6 : Int) (M : ma_M) (Q : Option ma_V → ma_S → ma_M → Prop) (hF : mr_FIX M) : ma_wp 31 75 [(2, 37), (2, 1), (2, 8), (2, x3), (0, x4), (0, x5), (3, x6)] [(2, 37)] mr_SH M Q ↔ ma_wp 31 78 [(2, 37), (2, 1), (2, 8), (2, x3), (0, x4), (0, x5), (3, x6)] [(2, 39)] mr_SH M Q := by
  rw [x31_75, mf_37_1 hF, ml_37]
  exact ⟨fun h => h.2, fun h => ⟨by decide, h⟩⟩
theorem s31_83 (x3 : Int) (x4 : Int) (x5 : Int) (x6 : Int) (y0 : Int) (y1 : Int) (M : ma_M) (Q : Option ma_V → ma_S → ma_M → Prop) : ma_wp 31 83 [(2, 37), (2, 1), (2, 8), (2, x3), (0, x4), (0, x5), (3, x6)] [(0, y0), (0, y1), (2, 39)] mr_SH M Q ↔ ((0 ≤ y1 ∧ y1 < 24) ∧ (y0 = 0 ∨ y0 = 1)) ∧ ma_wp 31 84 [(2, 37), (2, 1), (2, 8), (2, x3), (0, x4), (0, x5), (3, x6)] [] mr_SH (ma_up M 39 y1 y0) Q := by
  rw [x31_83, ml_39]
theorem s31_93 (x3 : Int) (x4 : Int) (x5 : Int) (x6 : Int) (M : ma_M) (Q : Option ma_V → ma_S → ma_M → Prop) : ma_wp 31 93 [(2, 37), (2, 1), (2, 8), (2, x3), (0, x4), (0, x5), (3, x6)] [] mr_SH M Q ↔ ma_wp 31 94 [(2, 37), (2, 1), (2, 8), (2, x3), (0, x4), (0, x5), (3, x6)] [(2, 1)] mr_SH M Q := by
  rw [x31_93]
  exact ⟨fun h => h.2, fun h => ⟨by decide, h⟩⟩
theorem s31_94 (x3 : Int) (x4 : Int) (x5 : Int) (x6 : Int) (M : ma_M) (Q : Option ma_V → ma_S → ma_M → Prop) : ma_wp 31 94 [(2, 37), (2, 1), (2, 8), (2, x3), (0, x4), (0, x5), (3, x6)] [(2, 1)] mr_SH M Q ↔ ma_wp 31 97 [(2, 37), (2, 1), (2, 8), (2, x3), (0, x4), (0, x5), (3, x6)] [(0, M 1 0)] mr_SH M Q := by
  rw [x31_94, ml_1]
  exact ⟨fun h => h.2, fun h => ⟨by decide, h⟩⟩
theorem s31_106 (x3 : Int) (x4 : Int) (x5 : Int) (x6 : Int) (M : ma_M) (Q : Option ma_V → ma_S → ma_M → Prop) : ma_wp 31 106 [(2, 37), (2, 1), (2, 8), (2, x3), (0, x4), (0, x5), (0, x6)] [] mr_SH M Q ↔ ma_wp 31 107 [(2, 37), (2, 1), (2, 8), (2, x3), (0, x4), (0, x5), (0, x6)] [(2, 37)] mr_SH M Q := by
  rw [x31_106]
  exact ⟨fun h => h.2, fun h => ⟨by decide, h⟩⟩
theorem s31_107 (x3 : Int) (x4 : Int) (x5 : Int) (x6 : Int) (M : ma_M) (Q : Option ma_V → ma_S → ma_M → Prop) (hF : mr_FIX M) : ma_wp 31 107 [(2, 37), (2, 1), (2, 8), (2, x3), (0, x4), (0, x5), (0, x6)] [(2, 37)] mr_SH M Q ↔ ma_wp 31 110 [(2, 37), (2, 1), (2, 8), (2, x3), (0, x4), (0, x5), (0, x6)] [(2, 39)] mr_SH M Q := by
  rw [x31_107, mf_37_1 hF, ml_37]
  exact ⟨fun h => h.2, fun h => ⟨by decide, h⟩⟩
theorem s31_112 (x3 : Int) (x4 : Int) (x5 : Int) (x6 : Int) (y0 : Int) (M : ma_M) (Q : Option ma_V → ma_S → ma_M → Prop) : ma_wp 31 112 [(2, 37), (2, 1), (2, 8), (2, x3), (0, x4), (0, x5), (0, x6)] [(0, y0), (2, 39)] mr_SH M Q ↔ (0 ≤ y0 ∧ y0 < 24) ∧ ma_wp 31 113 [(2, 37), (2, 1), (2, 8), (2, x3), (0, x4), (0, x5), (0, x6)] [(0, M 39 y0)] mr_SH M Q := by
  rw [x31_112, ml_39]
theorem s31_116 (x3 : Int) (x4 : Int) (x5 : Int) (x6 : Int) (M : ma_M) (Q : Option ma_V → ma_S → ma_M → Prop) : ma_wp 31 116 [(2, 37), (2, 1), (2, 8), (2, x3), (0, x4), (0, x5), (0, x6)] [] mr_SH M Q ↔ ma_wp 31 117 [(2, 37), (2, 1), (2, 8), (2, x3), (0, x4), (0, x5), (0, x6)] [(2, 37)] mr_SH M Q := by
  rw [x31_116]
  exact ⟨fun h => h.2, fun h => ⟨by decide, h⟩⟩
theorem s31_117 (x3 : Int) (x4 : Int) (x5 : Int) (x6 : Int) (M : ma_M) (Q : Option ma_V → ma_S → ma_M → Prop) : ma_wp 31 117 [(2, 37), (2, 1), (2, 8), (2, x3), (0, x4), (0, x5), (0, x6)] [(2, 37)] mr_SH M Q ↔ ma_wp 31 118 [(2, 37), (2, 1), (2, 8), (2, x3), (0, x4), (0, x5), (0, x6)] [(2, 1), (2, 37)] mr_SH M Q := by
  rw [x31_117]
  exact ⟨fun h => h.2, fun h => ⟨by decide, h⟩⟩
theorem s31_120 (x3 : Int) (x4 : Int) (x5 : Int) (x6 : Int) (y0 : Int) (M : ma_M) (Q : Option ma_V → ma_S → ma_M → Prop) : ma_wp 31 120 [(2, 37), (2, 1), (2, 8), (2, x3), (0, x4), (0, x5), (0, x6)] [(0, y0), (2, 1), (2, 37)] mr_SH M Q ↔ mr_do 35 [(2, 37), (2, 1), (0, y0)] mr_SH M (fun r sh M => ma_wp 31 123 [(2, 37), (2, 1), (2, 8), (2, x3), (0, x4), (0, x5), (0, x6)] (r.toList ++ []) sh M Q) := by
  rw [x31_120, ml_37]
  exact ⟨fun h => h.2, fun h => ⟨by decide, h⟩⟩
theorem s31_125 (x3 : Int) (x4 : Int) (x5 : Int) (x6 : Int) (y0 : Int) (M : ma_M) (Q : Option ma_V → ma_S → ma_M → Prop) : ma_wp 31 125 [(2, 37), (2, 1), (2, 8), (2, x3), (0, x4), (0, x5), (0, x6)] [(0, y0)] mr_SH M Q ↔ ma_wp 31 126 [(2, 37), (2, 1), (2, 8), (2, x3), (0, x4), (0, x5), (0, x6)] [(2, 37), (0, y0)] mr_SH M Q := by
  rw [x31_125]
  exact ⟨fun h => h.2, fun h => ⟨by decide, h⟩⟩
theorem s31_126 (x3 : Int) (x4 : Int) (x5 : Int) (x6 : Int) (y1 : Int) (M : ma_M) (Q : Option ma_V → ma_S → ma_M → Prop) (hF : mr_FIX M) : ma_wp 31 126 [(2, 37), (2, 1), (2, 8), (2, x3), (0, x4), (0, x5), (0, x6)] [(2, 37), (0, y1)] mr_SH M Q ↔ ma_wp 31 129 [(2, 37), (2, 1), (2, 8), (2, x3), (0, x4), (0, x5), (0, x6)] [(2, 40), (0, y1)] mr_SH M Q := by
  rw [x31_126, mf_37_2 hF, ml_37]
  exact ⟨fun h => h.2, fun h => ⟨by decide, h⟩⟩
theorem s31_129 (x3 : Int) (x4 : Int) (x5 : Int) (x6 : Int) (y1 : Int) (M : ma_M) (Q : Option ma_V → ma_S → ma_M → Prop) : ma_wp 31 129 [(2, 37), (2, 1), (2, 8), (2, x3), (0, x4), (0, x5), (0, x6)] [(2, 40), (0, y1)] mr_SH M Q ↔ ma_wp 31 130 [(2, 37), (2, 1), (2, 8), (2, x3), (0, x4), (0, x5), (0, x6)] [(2, 37), (2, 40), (0, y1)] mr_SH M Q := by
  rw [x31_129]
  exact ⟨fun h => h.2, fun h => ⟨by decide, h⟩⟩
theorem s31_130 (x3 : Int) (x4 : Int) (x5 : Int) (x6 : Int) (y2 : Int) (M : ma_M) (Q : Option ma_V → ma_S → ma_M → Prop) (hF : mr_FIX M) : ma_wp 31 130 [(2, 37), (2, 1), (2, 8), (2, x3), (0, x4), (0, x5), (0, x6)] [(2, 37), (2, 40), (0, y2)] mr_SH M Q ↔ ma_wp 31 133 [(2, 37), (2, 1), (2, 8), (2, x3), (0, x4), (0, x5), (0, x6)] [(2, 41), (2, 40), (0, y2)] mr_SH M Q := by
  rw [x31_130, mf_37_3 hF, ml_37]
  exact ⟨fun h => h.2, fun h => ⟨by decide, h⟩⟩
theorem s31_135 (x3 : Int) (x4 : Int) (x5 : Int) (x6 : Int) (y0 : Int) (y3 : Int) (M : ma_M) (Q : Option ma_V → ma_S → ma_M → Prop) : ma_wp 31 135 [(2, 37), (2, 1), (2, 8), (2, x3), (0, x4), (0, x5), (0, x6)] [(0, y0), (2, 41), (2, 40), (0, y3)] mr_SH M Q ↔ (0 ≤ y0 ∧ y0 < 24) ∧ ma_wp 31 136 [(2, 37), (2, 1), (2, 8), (2, x3), (0, x4), (0, x5), (0, x6)] [(0, M 41 y0), (2, 40), (0, y3)] mr_SH M Q := by
  rw [x31_135, ml_41]
theorem s31_136 (x3 : Int) (x4 : Int) (x5 : Int) (x6 : Int) (y0 : Int) (y2 : Int) (M : ma_M) (Q : Option ma_V → ma_S → ma_M → Prop) : ma_wp 31 136 [(2, 37), (2, 1), (2, 8), (2, x3), (0, x4), (0, x5), (0, x6)] [(0, y0), (2, 40), (0, y2)] mr_SH M Q ↔ (0 ≤ y0 ∧ y0 < 24) ∧ ma_wp 31 137 [(2, 37), (2, 1), (2, 8), (2, x3), (0, x4), (0, x5), (0, x6)] [(0, M 40 y0), (0, y2)] mr_SH M Q := by
  rw [x31_136, ml_40]
theorem s31_148 (x3 : Int) (x4 : Int) (x5 : Int) (x6 : Int) (M : ma_M) (Q : Option ma_V → ma_S → ma_M → Prop) : ma_wp 31 148 [(2, 37), (2, 1), (2, 8), (2, x3), (0, x4), (0, x5), (0, x6)] [] mr_SH M Q ↔ ma_wp 31 149 [(2, 37), (2, 1), (2, 8), (2, x3), (0, x4), (0, x5), (0, x6)] [(2, 37)] mr_SH M Q := by
  rw [x31_148]
  exact ⟨fun h => h.2, fun h => ⟨by decide, h⟩⟩
theorem s31_149 (x3 : Int) (x4 : Int) (x5 : Int) (x6 : Int) (M : ma_M) (Q : Option ma_V → ma_S → ma_M → Prop) (hF : mr_FIX M) : ma_wp 31 149 [(2, 37), (2, 1), (2, 8), (2, x3), (0, x4), (0, x5), (0, x6)] [(2, 37)] mr_SH M Q ↔ ma_wp 31 152 [(2, 37), (2, 1), (2, 8), (2, x3), (0, x4), (0, x5), (0, x6)] [(2, 40)] mr_SH M Q := by
  rw [x31_149, mf_37_2 hF, ml_37]
  exact ⟨fun h => h.2, fun h => ⟨by decide, h⟩⟩
theorem s31_152 (x3 : Int) (x4 : Int) (x5 : Int) (x6 : Int) (M : ma_M) (Q : Option ma_V → ma_S → ma_M → Prop) : ma_wp 31 152 [(2, 37), (2, 1), (2, 8), (2, x3), (0, x4), (0, x5), (0, x6)] [(2, 40)] mr_SH M Q ↔ ma_wp 31 153 [(2, 37), (2, 1), (2, 8), (2, x3), (0, x4), (0, x5), (0, x6)] [(2, 37), (2, 40)] mr_SH M Q := by
  rw [x31_152]
  exact ⟨fun h => h.2, fun h => ⟨by decide, h⟩⟩
theorem s31_153 (x3 : Int) (x4 : Int) (x5 : Int) (x6 : Int) (M : ma_M) (Q : Option ma_V → ma_S → ma_M → Prop) (hF : mr_FIX M) : ma_wp 31 153 [(2, 37), (2, 1), (2, 8), (2, x3), (0, x4), (0, x5), (0, x6)] [(2, 37), (2, 40)] mr_SH M Q ↔ ma_wp 31 156 [(2, 37), (2, 1), (2, 8), (2, x3), (0, x4), (0, x5), (0, x6)] [(2, 41), (2, 40)] mr_SH M Q := by
  rw [x31_153, mf_37_3 hF, ml_37]
  exact ⟨fun h => h.2, fun h => ⟨by decide, h⟩⟩
theorem s31_158 (x3 : Int) (x4 : Int) (x5 : Int) (x6 : Int) (y0 : Int) (M : ma_M) (Q : Option ma_V → ma_S → ma_M → Prop) : ma_wp 31 158 [(2, 37), (2, 1), (2, 8), (2, x3), (0, x4), (0, x5), (0, x6)] [(0, y0), (2, 41), (2, 40)] mr_SH M Q ↔ (0 ≤ y0 ∧ y0 < 24) ∧ ma_wp 31 159 [(2, 37), (2, 1), (2, 8), (2, x3), (0, x4), (0, x5), (0, x6)] [(0, M 41 y0), (2, 40)] mr_SH M Q := by
  rw [x31_158, ml_41]
theorem s31_160 (x3 : Int) (x4 : Int) (x5 : Int) (x6 : Int) (y0 : Int) (y1 : Int) (M : ma_M) (Q : Option ma_V → ma_S → ma_M → Prop) : ma_wp 31 160 [(2, 37), (2, 1), (2, 8), (2, x3), (0, x4), (0, x5), (0, x6)] [(0, y0), (0, y1), (2, 40)] mr_SH M Q ↔ ((0 ≤ y1 ∧ y1 < 24) ∧ (y0 = 0 ∨ y0 = 1)) ∧ ma_wp 31 161 [(2, 37), (2, 1), (2, 8), (2, x3), (0, x4), (0, x5), (0, x6)] [] mr_SH (ma_up M 40 y1 y0) Q := by
  rw [x31_160, ml_40]
theorem s32_0 (x3 : Int) (M : ma_M) (Q : Option ma_V → ma_S → ma_M → Prop) : ma_wp 32 0 [(2, 37), (2, 1), (2, 8), (0, x3)] [] mr_SH M Q ↔ ma_wp 32 1 [(2, 37), (2, 1), (2, 8), (0, x3)] [(2, 1)] mr_SH M Q := by
  rw [x32_0]
  exact ⟨fun h => h.2, fun h => ⟨by decide, h⟩⟩
theorem s32_2 (x3 : Int) (y0 : Int) (M : ma_M) (Q : Option ma_V → ma_S → ma_M → Prop) : ma_wp 32 2 [(2, 37), (2, 1), (2, 8), (0, x3)] [(0, y0), (2, 1)] mr_SH M Q ↔ mr_do 7 [(2, 1), (0, y0)] mr_SH M (fun r sh M => ma_wp 32 5 [(2, 37), (2, 1), (2, 8), (0, x3)] (r.toList ++ []) sh M Q) := by
  rw [x32_2, ml_1]
  exact ⟨fun h => h.2, fun h => ⟨by decide, h⟩⟩
theorem s32_8 (x3 : Int) (M : ma_M) (Q : Option ma_V → ma_S → ma_M → Prop) : ma_wp 32 8 [(2, 37), (2, 1), (2, 8), (0, x3)] [] mr_SH M Q ↔ ma_wp 32 9 [(2, 37), (2, 1), (2, 8), (0, x3)] [(2, 1)] mr_SH M Q := by
  rw [x32_8]
  exact ⟨fun h => h.2, fun h => ⟨by decide, h⟩⟩
theorem s32_9 (x3 : Int) (M : ma_M) (Q : Option ma_V → ma_S → ma_M → Prop) (hF : mr_FIX M) : ma_wp 32 9 [(2, 37), (2, 1), (2, 8), (0, x3)] [(2, 1)] mr_SH M Q ↔ ma_wp 32 12 [(2, 37), (2, 1), (2, 8), (0, x3)] [(2, 2)] mr_SH M Q := by
  rw [x32_9, mf_1_2 hF, ml_1]
  exact ⟨fun h => h.2, fun h => ⟨by decide, h⟩⟩
theorem s32_13 (x3 : Int) (y0 : Int) (M : ma_M) (Q : Option ma_V → ma_S → ma_M → Prop) : ma_wp 32 13 [(2, 37), (2, 1), (2, 8), (0, x3)] [(0, y0), (2, 2)] mr_SH M Q ↔ (0 ≤ y0 ∧ y0 < 24) ∧ ma_wp 32 14 [(2, 37), (2, 1), (2, 8), (0, x3)] [(0, M 2 y0)] mr_SH M Q := by
  rw [x32_13, ml_2]
theorem s32_25 (x3 : Int) (M : ma_M) (Q : Option ma_V → ma_S → ma_M → Prop) : ma_wp 32 25 [(2, 37), (2, 1), (2, 8), (0, x3)] [] mr_SH M Q ↔ ma_wp 32 26 [(2, 37), (2, 1), (2, 8), (0, x3)] [(2, 37)] mr_SH M Q := by
  rw [x32_25]
  exact ⟨fun h => h.2, fun h => ⟨by decide, h⟩⟩
theorem s32_26 (x3 : Int) (M : ma_M) (Q : Option ma_V → ma_S → ma_M → Prop) (hF : mr_FIX M) : ma_wp 32 26 [(2, 37), (2, 1), (2, 8), (0, x3)] [(2, 37)] mr_SH M Q ↔ ma_wp 32 29 [(2, 37), (2, 1), (2, 8), (0, x3)] [(2, 38)] mr_SH M Q := by
  rw [x32_26, mf_37_0 hF, ml_37]
  exact ⟨fun h => h.2, fun h => ⟨by decide, h⟩⟩
theorem s32_29 (x3 : Int) (M : ma_M) (Q : Option ma_V → ma_S → ma_M → Prop) : ma_wp 32 29 [(2, 37), (2, 1), (2, 8), (0, x3)] [(2, 38)] mr_SH M Q ↔ ma_wp 32 30 [(2, 37), (2, 1), (2, 8), (0, x3)] [(2, 1), (2, 38)] mr_SH M Q := by
  rw [x32_29]
  exact ⟨fun h => h.2, fun h => ⟨by decide, h⟩⟩
theorem s32_30 (x3 : Int) (M : ma_M) (Q : Option ma_V → ma_S → ma_M → Prop) (hF : mr_FIX M) : ma_wp 32 30 [(2, 37), (2, 1), (2, 8), (0, x3)] [(2, 1), (2, 38)] mr_SH M Q ↔ ma_wp 32 33 [(2, 37), (2, 1), (2, 8), (0, x3)] [(2, 3), (2, 38)] mr_SH M Q := by
  rw [x32_30, mf_1_3 hF, ml_1]
  exact ⟨fun h => h.2, fun h => ⟨by decide, h⟩⟩
theorem s32_34 (x3 : Int) (y0 : Int) (M : ma_M) (Q : Option ma_V → ma_S → ma_M → Prop) : ma_wp 32 34 [(2, 37), (2, 1), (2, 8), (0, x3)] [(0, y0), (2, 3), (2, 38)] mr_SH M Q ↔ (0 ≤ y0 ∧ y0 < 24) ∧ ma_wp 32 35 [(2, 37), (2, 1), (2, 8), (0, x3)] [(0, M 3 y0), (2, 38)] mr_SH M Q := by
  rw [x32_34, ml_3]
theorem s32_35 (x3 : Int) (y0 : Int) (M : ma_M) (Q : Option ma_V → ma_S → ma_M → Prop) : ma_wp 32 35 [(2, 37), (2, 1), (2, 8), (0, x3)] [(0, y0), (2, 38)] mr_SH M Q ↔ (0 ≤ y0 ∧ y0 < 24) ∧ ma_wp 32 36 [(2, 37), (2, 1), (2, 8), (0, x3)] [(0, M 38 y0)] mr_SH M Q := by
  rw [x32_35, ml_38]
theorem s32_39 (x3 : Int) (M : ma_M) (Q : Option ma_V → ma_S → ma_M → Prop) : ma_wp 32 39 [(2, 37), (2, 1), (2, 8), (0, x3)] [] mr_SH M Q ↔ ma_wp 32 40 [(2, 37), (2, 1), (2, 8), (0, x3)] [(2, 37)] mr_SH M Q := by
  rw [x32_39]
  exact ⟨fun h => h.2, fun h => ⟨by decide, h⟩⟩
theorem s32_40 (x3 : Int) (M : ma_M) (Q : Option ma_V → ma_S → ma_M → Prop) (hF : mr_FIX M) : ma_wp 32 40 [(2, 37), (2, 1), (2, 8), (0, x3)] [(2, 37)] mr_SH M Q ↔ ma_wp 32 43 [(2, 37), (2, 1), (2, 8), (0, x3)] [(2, 38)] mr_SH M Q := by
  rw [x32_40, mf_37_0 hF, ml_37]
  exact ⟨fun h => h.2, fun h => ⟨by decide, h⟩⟩
theorem s32_43 (x3 : Int) (M : ma_M) (Q : Option ma_V → ma_S → ma_M → Prop) : ma_wp 32 43 [(2, 37), (2, 1), (2, 8), (0, x3)] [(2, 38)] mr_SH M Q ↔ ma_wp 32 44 [(2, 37), (2, 1), (2, 8), (0, x3)] [(2, 1), (2, 38)] mr_SH M Q := by
  rw [x32_43]
  exact ⟨fun h => h.2, fun h => ⟨by decide, h⟩⟩
theorem s32_44 (x3 : Int) (M : ma_M) (Q : Option ma_V → ma_S → ma_M → Prop) (hF : mr_FIX M) : ma_wp 32 44 [(2, 37), (2, 1), (2, 8), (0, x3)] [(2, 1), (2, 38)] mr_SH M Q ↔ ma_wp 32 47 [(2, 37), (2, 1), (2, 8), (0, x3)] [(2, 4), (2, 38)] mr_SH M Q := by
  rw [x32_44, mf_1_4 hF, ml_1]
  exact ⟨fun h => h.2, fun h => ⟨by decide, h⟩⟩
theorem s32_48 (x3 : Int) (y0 : Int) (M : ma_M) (Q : Option ma_V → ma_S → ma_M → Prop) : ma_wp 32 48 [(2, 37), (2, 1), (2, 8), (0, x3)] [(0, y0), (2, 4), (2, 38)] mr_SH M Q ↔ (0 ≤ y0 ∧ y0 < 24) ∧ ma_wp 32 49 [(2, 37), (2, 1), (2, 8), (0, x3)] [(0, M 4 y0), (2, 38)] mr_SH M Q := by
  rw [x32_48, ml_4]
theorem s32_49 (x3 : Int) (y0 : Int) (M : ma_M) (Q : Option ma_V → ma_S → ma_M → Prop) : ma_wp 32 49 [(2, 37), (2, 1), (2, 8), (0, x3)] [(0, y0), (2, 38)] mr_SH M Q ↔ (0 ≤ y0 ∧ y0 < 24) ∧ ma_wp 32 50 [(2, 37), (2, 1), (2, 8), (0, x3)] [(0, M 38 y0)] mr_SH M Q := by
  rw [x32_49, ml_38]
theorem s32_53 (x3 : Int) (M : ma_M) (Q : Option ma_V → ma_S → ma_M → Prop) : ma_wp 32 53 [(2, 37), (2, 1), (2, 8), (0, x3)] [] mr_SH M Q ↔ ma_wp 32 54 [(2, 37), (2, 1), (2, 8), (0, x3)] [(2, 8)] mr_SH M Q := by
  rw [x32_53]
  exact ⟨fun h => h.2, fun h => ⟨by decide, h⟩⟩
theorem s32_54 (x3 : Int) (M : ma_M) (Q : Option ma_V → ma_S → ma_M → Prop) (hF : mr_FIX M) : ma_wp 32 54 [(2, 37), (2, 1), (2, 8), (0, x3)] [(2, 8)] mr_SH M Q ↔ ma_wp 32 57 [(2, 37), (2, 1), (2, 8), (0, x3)] [(2, 34)] mr_SH M Q := by
  rw [x32_54, mf_8_1 hF, ml_8]
  exact ⟨fun h => h.2, fun h => ⟨by decide, h⟩⟩
theorem s32_58 (x3 : Int) (y0 : Int) (M : ma_M) (Q : Option ma_V → ma_S → ma_M → Prop) : ma_wp 32 58 [(2, 37), (2, 1), (2, 8), (0, x3)] [(0, y0), (2, 34)] mr_SH M Q ↔ (0 ≤ y0 ∧ y0 < 24) ∧ ma_wp 32 59 [(2, 37), (2, 1), (2, 8), (0, x3)] [(0, M 34 y0)] mr_SH M Q := by
  rw [x32_58, ml_34]
theorem s33_9 (x3 : Int) (x4 : Int) (M : ma_M) (Q : Option ma_V → ma_S → ma_M → Prop) : ma_wp 33 9 [(2, 37), (2, 1), (2, 8), (0, x3), (0, x4)] [] mr_SH M Q ↔ ma_wp 33 10 [(2, 37), (2, 1), (2, 8), (0, x3), (0, x4)] [(2, 37)] mr_SH M Q := by
  rw [x33_9]
  exact ⟨fun h => h.2, fun h => ⟨by decide, h⟩⟩
theorem s33_10 (x3 : Int) (x4 : Int) (M : ma_M) (Q : Option ma_V → ma_S → ma_M → Prop) : ma_wp 33 10 [(2, 37), (2, 1), (2, 8), (0, x3), (0, x4)] [(2, 37)] mr_SH M Q ↔ ma_wp 33 11 [(2, 37), (2, 1), (2, 8), (0, x3), (0, x4)] [(2, 1), (2, 37)] mr_SH M Q := by
  rw [x33_10]
  exact ⟨fun h => h.2, fun h => ⟨by decide, h⟩⟩
theorem s33_11 (x3 : Int) (x4 : Int) (M : ma_M) (Q : Option ma_V → ma_S → ma_M → Prop) : ma_wp 33 11 [(2, 37), (2, 1), (2, 8), (0, x3), (0, x4)] [(2, 1), (2, 37)] mr_SH M Q ↔ ma_wp 33 12 [(2, 37), (2, 1), (2, 8), (0, x3), (0, x4)] [(2, 8), (2, 1), (2, 37)] mr_SH M Q := by
  rw [x33_11]
  exact ⟨fun h => h.2, fun h => ⟨by decide, h⟩⟩
theorem s33_15 (x3 : Int) (x4 : Int) (y0 : Int) (y1 : Int) (M : ma_M) (Q : Option ma_V → ma_S → ma_M → Prop) : ma_wp 33 15 [(2, 37), (2, 1), (2, 8), (0, x3), (0, x4)] [(0, y0), (0, y1), (2, 8), (2, 1), (2, 37)] mr_SH M Q ↔ mr_do 34 [(2, 37), (2, 1), (2, 8), (0, y1), (0, y0)] mr_SH M (fun r sh M => ma_wp 33 18 [(2, 37), (2, 1), (2, 8), (0, x3), (0, x4)] (r.toList ++ []) sh M Q) := by
  rw [x33_15, ml_37]
  exact ⟨fun h => h.2, fun h => ⟨by decide, h⟩⟩
theorem s34_0 (x3 : Int) (x4 : Int) (x5 : Int) (x6 : Int) (x7 : Int) (x8 : Int) (x9 : Int) (x10 : Int) (M : ma_M) (Q : Option ma_V → ma_S → ma_M → Prop) : ma_wp 34 0 [(2, 37), (2, 1), (2, 8), (0, x3), (0, x4), (3, x5), (3, x6), (3, x7), (3, x8), (3, x9), (3, x10)] [] mr_SH M Q ↔ ma_wp 34 1 [(2, 37), (2, 1), (2, 8), (0, x3), (0, x4), (3, x5), (3, x6), (3, x7), (3, x8), (3, x9), (3, x10)] [(2, 37)] mr_SH M Q := by
  rw [x34_0]
  exact ⟨fun h => h.2, fun h => ⟨by decide, h⟩⟩
theorem s34_1 (x3 : Int) (x4 : Int) (x5 : Int) (x6 : Int) (x7 : Int) (x8 : Int) (x9 : Int) (x10 : Int) (M : ma_M) (Q : Option ma_V → ma_S → ma_M → Prop) (hF : mr_FIX M) : ma_wp 34 1 [(2, 37), (2, 1), (2, 8), (0, x3), (0, x4), (3, x5), (3, x6), (3, x7), (3, x8), (3, x9), (3, x10)] [(2, 37)] mr_SH M Q ↔ ma_wp 34 4 [(2, 37), (2, 1), (2, 8), (0, x3), (0, x4), (3, x5), (3, x6), (3, x7), (3, x8), (3, x9), (3, x10)] [(2, 38)] mr_SH M Q := by
  rw [x34_1, mf_37_0 hF, ml_37]
  exact ⟨fun h => h.2, fun h => ⟨by decide, h⟩⟩
theorem s34_5 (x3 : Int) (x4 : Int) (x5 : Int) (x6 : Int) (x7 : Int) (x8 : Int) (x9 : Int) (x10 : Int) (y0 : Int) (M : ma_M) (Q : Option ma_V → ma_S → ma_M → Prop) : ma_wp 34 5 [(2, 37), (2, 1), (2, 8), (0, x3), (0, x4), (3, x5), (3, x6), (3, x7), (3, x8), (3, x9), (3, x10)] [(0, y0), (2, 38)] mr_SH M Q ↔ (0 ≤ y0 ∧ y0 < 24) ∧ ma_wp 34 6 [(2, 37), (2, 1), (2, 8), (0, x3), (0, x4), (3, x5), (3, x6), (3, x7), (3, x8), (3, x9), (3, x10)] [(0, M 38 y0)] mr_SH M Q := by
  rw [x34_5, ml_38]
theorem s34_9 (x3 : Int) (x4 : Int) (x5 : Int) (x6 : Int) (x7 : Int) (x8 : Int) (x9 : Int) (x10 : Int) (M : ma_M) (Q : Option ma_V → ma_S → ma_M → Prop) : ma_wp 34 9 [(2, 37), (2, 1), (2, 8), (0, x3), (0, x4), (3, x5), (3, x6), (3, x7), (3, x8), (3, x9), (3, x10)] [] mr_SH M Q ↔ ma_wp 34 10 [(2, 37), (2, 1), (2, 8), (0, x3), (0, x4), (3, x5), (3, x6), (3, x7), (3, x8), (3, x9), (3, x10)] [(2, 37)] mr_SH M Q := by
  rw [x34_9]
  exact ⟨fun h => h.2, fun h => ⟨by decide, h⟩⟩
theorem s34_10 (x3 : Int) (x4 : Int) (x5 : Int) (x6 : Int) (x7 : Int) (x8 : Int) (x9 : Int) (x10 : Int) (M : ma_M) (Q : Option ma_V → ma_S → ma_M → Prop) (hF : mr_FIX M) : ma_wp 34 10 [(2, 37), (2, 1), (2, 8), (0, x3), (0, x4), (3, x5), (3, x6), (3, x7), (3, x8), (3, x9), (3, x10)] [(2, 37)] mr_SH M Q ↔ ma_wp 34 13 [(2, 37), (2, 1), (2, 8), (0, x3), (0, x4), (3, x5), (3, x6), (3, x7), (3, x8), (3, x9), (3, x10)] [(2, 38)] mr_SH M Q := by
  rw [x34_10, mf_37_0 hF, ml_37]
  exact ⟨fun h => h.2, fun h => ⟨by decide, h⟩⟩
theorem s34_15 (x3 : Int) (x4 : Int) (x5 : Int) (x6 : Int) (x7 : Int) (x8 : Int) (x9 : Int) (x10 : Int) (y0 : Int) (M : ma_M) (Q : Option ma_V → ma_S → ma_M → Prop) : ma_wp 34 15 [(2, 37), (2, 1), (2, 8), (0, x3), (0, x4), (3, x5), (3, x6), (3, x7), (3, x8), (3, x9), (3, x10)] [(0, y0), (2, 38)] mr_SH M Q ↔ (0 ≤ y0 ∧ y0 < 24) ∧ ma_wp 34 16 [(2, 37), (2, 1), (2, 8), (0, x3), (0, x4), (3, x5), (3, x6), (3, x7), (3, x8), (3, x9), (3, x10)] [(0, M 38 y0)] mr_SH M Q := by
  rw [x34_15, ml_38]
theorem s34_19 (x3 : Int) (x4 : Int) (x5 : Int) (x6 : Int) (x7 : Int) (x8 : Int) (x9 : Int) (x10 : Int) (M : ma_M) (Q : Option ma_V → ma_S → ma_M → Prop) : ma_wp 34 19 [(2, 37), (2, 1), (2, 8), (0, x3), (0, x4), (3, x5), (3, x6), (3, x7), (3, x8), (3, x9), (3, x10)] [] mr_SH M Q ↔ ma_wp 34 20 [(2, 37), (2, 1), (2, 8), (0, x3), (0, x4), (3, x5), (3, x6), (3, x7), (3, x8), (3, x9), (3, x10)] [(2, 37)] mr_SH M Q := by
  rw [x34_19]
  exact ⟨fun h => h.2, fun h => ⟨by decide, h⟩⟩
theorem s34_20 (x3 : Int) (x4 : Int) (x5 : Int) (x6 : Int) (x7 : Int) (x8 : Int) (x9 : Int) (x10 : Int) (M : ma_M) (Q : Option ma_V → ma_S → ma_M → Prop) (hF : mr_FIX M) : ma_wp 34 20 [(2, 37), (2, 1), (2, 8), (0, x3), (0, x4), (3, x5), (3, x6), (3, x7), (3, x8), (3, x9), (3, x10)] [(2, 37)] mr_SH M Q ↔ ma_wp 34 23 [(2, 37), (2, 1), (2, 8), (0, x3), (0, x4), (3, x5), (3, x6), (3, x7), (3, x8), (3, x9), (3, x10)] [(2, 38)] mr_SH M Q := by
  rw [x34_20, mf_37_0 hF, ml_37]
  exact ⟨fun h => h.2, fun h => ⟨by decide, h⟩⟩
theorem s34_24 (x3 : Int) (x4 : Int) (x5 : Int) (x6 : Int) (x7 : Int) (x8 : Int) (x9 : Int) (x10 : Int) (y0 : Int) (M : ma_M) (Q : Option ma_V → ma_S → ma_M → Prop) : ma_wp 34 24 [(2, 37), (2, 1), (2, 8), (0, x3), (0, x4), (3, x5), (3, x6), (3, x7), (3, x8), (3, x9), (3, x10)] [(0, y0), (2, 38)] mr_SH M Q ↔ (0 ≤ y0 ∧ y0 < 24) ∧ ma_wp 34 25 [(2, 37), (2, 1), (2, 8), (0, x3), (0, x4), (3, x5), (3, x6), (3, x7), (3, x8), (3, x9), (3, x10)] [(0, M 38 y0)] mr_SH M Q := by
  rw [x34_24, ml_38]
theorem s34_28 (x3 : Int) (x4 : Int) (x5 : Int) (x6 : Int) (x7 : Int) (x8 : Int) (x9 : Int) (x10 : Int) (M : ma_M) (Q : Option ma_V → ma_S → ma_M → Prop) : ma_wp 34 28 [(2, 37), (2, 1), (2, 8), (0, x3), (0, x4), (3, x5), (3, x6), (3, x7), (3, x8), (3, x9), (3, x10)] [] mr_SH M Q ↔ ma_wp 34 29 [(2, 37), (2, 1), (2, 8), (0, x3), (0, x4), (3, x5), (3, x6), (3, x7), (3, x8), (3, x9), (3, x10)] [(2, 37)] mr_SH M Q := by
  rw [x34_28]
  exact ⟨fun h => h.2, fun h => ⟨by decide, h⟩⟩
theorem s34_29 (x3 : Int) (x4 : Int) (x5 : Int) (x6 : Int) (x7 : Int) (x8 : Int) (x9 : Int) (x10 : Int) (M : ma_M) (Q : Option ma_V → ma_S → ma_M → Prop) (hF : mr_FIX M) : ma_wp 34 29 [(2, 37), (2, 1), (2, 8), (0, x3), (0, x4), (3, x5), (3, x6), (3, x7), (3, x8), (3, x9), (3, x10)] [(2, 37)] mr_SH M Q ↔ ma_wp 34 32 [(2, 37), (2, 1), (2, 8), (0, x3), (0, x4), (3, x5), (3, x6), (3, x7), (3, x8), (3, x9), (3, x10)] [(2, 38)] mr_SH M Q := by
  rw [x34_29, mf_37_0 hF, ml_37]
  exact ⟨fun h => h.2, fun h => ⟨by decide, h⟩⟩
theorem s34_34 (x3 : Int) (x4 : Int) (x5 : Int) (x6 : Int) (x7 : Int) (x8 : Int) (x9 : Int) (x10 : Int) (y0 : Int) (M : ma_M) (Q : Option ma_V → ma_S → ma_M → Prop) : ma_wp 34 34 [(2, 37), (2, 1), (2, 8), (0, x3), (0, x4), (3, x5), (3, x6), (3, x7), (3, x8), (3, x9), (3, x10)] [(0, y0), (2, 38)] mr_SH M Q ↔ (0 ≤ y0 ∧ y0 < 24) ∧ ma_wp 34 35 [(2, 37), (2, 1), (2, 8), (0, x3), (0, x4), (3, x5), (3, x6), (3, x7), (3, x8), (3, x9), (3, x10)] [(0, M 38 y0)] mr_SH M Q := by
  rw [x34_34, ml_38]
theorem s34_38 (x3 : Int) (x4 : Int) (x5 : Int) (x6 : Int) (x7 : Int) (x8 : Int) (x9 : Int) (x10 : Int) (M : ma_M) (Q : Option ma_V → ma_S → ma_M → Prop) : ma_wp 34 38 [(2, 37), (2, 1), (2, 8), (0, x3), (0, x4), (3, x5), (3, x6), (3, x7), (3, x8), (3, x9), (3, x10)] [] mr_SH M Q ↔ ma_wp 34 39 [(2, 37), (2, 1), (2, 8), (0, x3), (0, x4), (3, x5), (3, x6), (3, x7), (3, x8), (3, x9), (3, x10)] [(2, 8)] mr_SH M Q := by
  rw [x34_38]
  exact ⟨fun h => h.2, fun h => ⟨by decide, h⟩⟩
theorem s34_39 (x3 : Int) (x4 : Int) (x5 : Int) (x6 : Int) (x7 : Int) (x8 : Int) (x9 : Int) (x10 : Int) (M : ma_M) (Q : Option ma_V → ma_S → ma_M → Prop) (hF : mr_FIX M) : ma_wp 34 39 [(2, 37), (2, 1), (2, 8), (0, x3), (0, x4), (3, x5), (3, x6), (3, x7), (3, x8), (3, x9), (3, x10)] [(2, 8)] mr_SH M Q ↔ ma_wp 34 42 [(2, 37), (2, 1), (2, 8), (0, x3), (0, x4), (3, x5), (3, x6), (3, x7), (3, x8), (3, x9), (3, x10)] [(2, 9)] mr_SH M Q := by
  rw [x34_39, mf_8_0 hF, ml_8]
  exact ⟨fun h => h.2, fun h => ⟨by decide, h⟩⟩
theorem s34_43 (x3 : Int) (x4 : Int) (x5 : Int) (x6 : Int) (x7 : Int) (x8 : Int) (x9 : Int) (x10 : Int) (y0 : Int) (M : ma_M) (Q : Option ma_V → ma_S → ma_M → Prop) (hF : mr_FIX M) : ma_wp 34 43 [(2, 37), (2, 1), (2, 8), (0, x3), (0, x4), (3, x5), (3, x6), (3, x7), (3, x8), (3, x9), (3, x10)] [(0, y0), (2, 9)] mr_SH M Q ↔ (0 ≤ y0 ∧ y0 < 24) ∧ ma_wp 34 44 [(2, 37), (2, 1), (2, 8), (0, x3), (0, x4), (3, x5), (3, x6), (3, x7), (3, x8), (3, x9), (3, x10)] [(2, 10 + y0)] mr_SH M Q := by
  rw [x34_43, ml_9]
  constructor
  · rintro ⟨h1, h2⟩
    rw [mg_9 hF h1.1 h1.2] at h2
    exact ⟨h1, h2⟩
  · rintro ⟨h1, h2⟩
    rw [mg_9 hF h1.1 h1.2]
    exact ⟨h1, h2⟩
theorem s34_46 (x3 : Int) (x4 : Int) (x5 : Int) (x6 : Int) (x7 : Int) (x8 : Int) (x9 : Int) (x10 : Int) (y0 : Int) (M : ma_M) (Q : Option ma_V → ma_S → ma_M → Prop) : ma_wp 34 46 [(2, 37), (2, 1), (2, 8), (0, x3), (0, x4), (3, x5), (3, x6), (3, x7), (3, x8), (3, x9), (3, x10)] [(0, y0)] mr_SH M Q ↔ ma_wp 34 47 [(2, 37), (2, 1), (2, 8), (0, x3), (0, x4), (3, x5), (3, x6), (3, x7), (3, x8), (3, x9), (3, x10)] [(2, 8), (0, y0)] mr_SH M Q := by
  rw [x34_46]
  exact ⟨fun h => h.2, fun h => ⟨by decide, h⟩⟩
theorem s34_47 (x3 : Int) (x4 : Int) (x5 : Int) (x6 : Int) (x7 : Int) (x8 : Int) (x9 : Int) (x10 : Int) (y1 : Int) (M : ma_M) (Q : Option ma_V → ma_S → ma_M → Prop) (hF : mr_FIX M) : ma_wp 34 47 [(2, 37), (2, 1), (2, 8), (0, x3), (0, x4), (3, x5), (3, x6), (3, x7), (3, x8), (3, x9), (3, x10)] [(2, 8), (0, y1)] mr_SH M Q ↔ ma_wp 34 50 [(2, 37), (2, 1), (2, 8), (0, x3), (0, x4), (3, x5), (3, x6), (3, x7), (3, x8), (3, x9), (3, x10)] [(2, 9), (0, y1)] mr_SH M Q := by
  rw [x34_47, mf_8_0 hF, ml_8]
  exact ⟨fun h => h.2, fun h => ⟨by decide, h⟩⟩
theorem s34_52 (x3 : Int) (x4 : Int) (x5 : Int) (x6 : Int) (x7 : Int) (x8 : Int) (x9 : Int) (x10 : Int) (y0 : Int) (y2 : Int) (M : ma_M) (Q : Option ma_V → ma_S → ma_M → Prop) (hF : mr_FIX M) : ma_wp 34 52 [(2, 37), (2, 1), (2, 8), (0, x3), (0, x4), (3, x5), (3, x6), (3, x7), (3, x8), (3, x9), (3, x10)] [(0, y0), (2, 9), (0, y2)] mr_SH M Q ↔ (0 ≤ y0 ∧ y0 < 24) ∧ ma_wp 34 53 [(2, 37), (2, 1), (2, 8), (0, x3), (0, x4), (3, x5), (3, x6), (3, x7), (3, x8), (3, x9), (3, x10)] [(2, 10 + y0), (0, y2)] mr_SH M Q := by
  rw [x34_52, ml_9]
  constructor
  · rintro ⟨h1, h2⟩
    rw [mg_9 hF h1.1 h1.2] at h2
    exact ⟨h1, h2⟩
  · rintro ⟨h1, h2⟩
    rw [mg_9 hF h1.1 h1.2]
    exact ⟨h1, h2⟩
theorem s34_64 (x3 : Int) (x4 : Int) (x5 : Int) (x6 : Int) (x7 : Int) (x8 : Int) (x9 : Int) (x10 : Int) (M : ma_M) (Q : Option ma_V → ma_S → ma_M → Prop) : ma_wp 34 64 [(2, 37), (2, 1), (2, 8), (0, x3), (0, x4), (3, x5), (3, x6), (3, x7), (3, x8), (3, x9), (3, x10)] [] mr_SH M Q ↔ ma_wp 34 65 [(2, 37), (2, 1), (2, 8), (0, x3), (0, x4), (3, x5), (3, x6), (3, x7), (3, x8), (3, x9), (3, x10)] [(2, 1)] mr_SH M Q := by
  rw [x34_64]
  exact ⟨fun h => h.2, fun h => ⟨by decide, h⟩⟩
theorem s34_65 (x3 : Int) (x4 : Int) (x5 : Int) (x6 : Int) (x7 : Int) (x8 : Int) (x9 : Int) (x10 : Int) (M : ma_M) (Q : Option ma_V → ma_S → ma_M → Prop) (hF : mr_FIX M) : ma_wp 34 65 [(2, 37), (2, 1), (2, 8), (0, x3), (0, x4), (3, x5), (3, x6), (3, x7), (3, x8), (3, x9), (3, x10)] [(2, 1)] mr_SH M Q ↔ ma_wp 34 68 [(2, 37), (2, 1), (2, 8), (0, x3), (0, x4), (3, x5), (3, x6), (3, x7), (3, x8), (3, x9), (3, x10)] [(2, 2)] mr_SH M Q := by
  rw [x34_65, mf_1_2 hF, ml_1]
  exact ⟨fun h => h.2, fun h => ⟨by decide, h⟩⟩
theorem s34_69 (x3 : Int) (x4 : Int) (x5 : Int) (x6 : Int) (x7 : Int) (x8 : Int) (x9 : Int) (x10 : Int) (y0 : Int) (M : ma_M) (Q : Option ma_V → ma_S → ma_M → Prop) : ma_wp 34 69 [(2, 37), (2, 1), (2, 8), (0, x3), (0, x4), (3, x5), (3, x6), (3, x7), (3, x8), (3, x9), (3, x10)] [(0, y0), (2, 2)] mr_SH M Q ↔ (0 ≤ y0 ∧ y0 < 24) ∧ ma_wp 34 70 [(2, 37), (2, 1), (2, 8), (0, x3), (0, x4), (3, x5), (3, x6), (3, x7), (3, x8), (3, x9), (3, x10)] [(0, M 2 y0)] mr_SH M Q := by
  rw [x34_69, ml_2]
theorem s34_81 (x3 : Int) (x4 : Int) (x5 : Int) (x6 : Int) (x7 : Int) (x8 : Int) (x9 : Int) (x10 : Int) (y0 : Int) (M : ma_M) (Q : Option ma_V → ma_S → ma_M → Prop) : ma_wp 34 81 [(2, 37), (2, 1), (2, 8), (0, x3), (0, x4), (0, x5), (3, x6), (3, x7), (3, x8), (3, x9), (3, x10)] [(0, y0)] mr_SH M Q ↔ ma_wp 34 82 [(2, 37), (2, 1), (2, 8), (0, x3), (0, x4), (0, x5), (3, x6), (3, x7), (3, x8), (3, x9), (3, x10)] [(2, 1), (0, y0)] mr_SH M Q := by
  rw [x34_81]
  exact ⟨fun h => h.2, fun h => ⟨by decide, h⟩⟩
theorem s34_82 (x3 : Int) (x4 : Int) (x5 : Int) (x6 : Int) (x7 : Int) (x8 : Int) (x9 : Int) (x10 : Int) (y1 : Int) (M : ma_M) (Q : Option ma_V → ma_S → ma_M → Prop) (hF : mr_FIX M) : ma_wp 34 82 [(2, 37), (2, 1), (2, 8), (0, x3), (0, x4), (0, x5), (3, x6), (3, x7), (3, x8), (3, x9), (3, x10)] [(2, 1), (0, y1)] mr_SH M Q ↔ ma_wp 34 85 [(2, 37), (2, 1), (2, 8), (0, x3), (0, x4), (0, x5), (3, x6), (3, x7), (3, x8), (3, x9), (3, x10)] [(2, 2), (0, y1)] mr_SH M Q := by
  rw [x34_82, mf_1_2 hF, ml_1]
  exact ⟨fun h => h.2, fun h => ⟨by decide, h⟩⟩
theorem s34_87 (x3 : Int) (x4 : Int) (x5 : Int) (x6 : Int) (x7 : Int) (x8 : Int) (x9 : Int) (x10 : Int) (y0 : Int) (y2 : Int) (M : ma_M) (Q : Option ma_V → ma_S → ma_M → Prop) : ma_wp 34 87 [(2, 37), (2, 1), (2, 8), (0, x3), (0, x4), (0, x5), (3, x6), (3, x7), (3, x8), (3, x9), (3, x10)] [(0, y0), (2, 2), (0, y2)] mr_SH M Q ↔ (0 ≤ y0 ∧ y0 < 24) ∧ ma_wp 34 88 [(2, 37), (2, 1), (2, 8), (0, x3), (0, x4), (0, x5), (3, x6), (3, x7), (3, x8), (3, x9), (3, x10)] [(0, M 2 y0), (0, y2)] mr_SH M Q := by
  rw [x34_87, ml_2]
theorem s34_91 (x3 : Int) (x4 : Int) (x5 : Int) (x6 : Int) (x7 : Int) (x8 : Int) (x9 : Int) (x10 : Int) (M : ma_M) (Q : Option ma_V → ma_S → ma_M → Prop) : ma_wp 34 91 [(2, 37), (2, 1), (2, 8), (0, x3), (0, x4), (0, x5), (3, x6), (3, x7), (3, x8), (3, x9), (3, x10)] [] mr_SH M Q ↔ ma_wp 34 92 [(2, 37), (2, 1), (2, 8), (0, x3), (0, x4), (0, x5), (3, x6), (3, x7), (3, x8), (3, x9), (3, x10)] [(2, 1)] mr_SH M Q := by
  rw [x34_91]
  exact ⟨fun h => h.2, fun h => ⟨by decide, h⟩⟩
theorem s34_92 (x3 : Int) (x4 : Int) (x5 : Int) (x6 : Int) (x7 : Int) (x8 : Int) (x9 : Int) (x10 : Int) (M : ma_M) (Q : Option ma_V → ma_S → ma_M → Prop) (hF : mr_FIX M) : ma_wp 34 92 [(2, 37), (2, 1), (2, 8), (0, x3), (0, x4), (0, x5), (3, x6), (3, x7), (3, x8), (3, x9), (3, x10)] [(2, 1)] mr_SH M Q ↔ ma_wp 34 95 [(2, 37), (2, 1), (2, 8), (0, x3), (0, x4), (0, x5), (3, x6), (3, x7), (3, x8), (3, x9), (3, x10)] [(2, 5)] mr_SH M Q := by
  rw [x34_92, mf_1_5 hF, ml_1]
  exact ⟨fun h => h.2, fun h => ⟨by decide, h⟩⟩
theorem s34_96 (x3 : Int) (x4 : Int) (x5 : Int) (x6 : Int) (x7 : Int) (x8 : Int) (x9 : Int) (x10 : Int) (y0 : Int) (M : ma_M) (Q : Option ma_V → ma_S → ma_M → Prop) : ma_wp 34 96 [(2, 37), (2, 1), (2, 8), (0, x3), (0, x4), (0, x5), (3, x6), (3, x7), (3, x8), (3, x9), (3, x10)] [(0, y0), (2, 5)] mr_SH M Q ↔ (0 ≤ y0 ∧ y0 < 24) ∧ ma_wp 34 97 [(2, 37), (2, 1), (2, 8), (0, x3), (0, x4), (0, x5), (3, x6), (3, x7), (3, x8), (3, x9), (3, x10)] [(0, M 5 y0)] mr_SH M Q := by
  rw [x34_96, ml_5]
theorem s34_97 (x3 : Int) (x4 : Int) (x5 : Int) (x6 : Int) (x7 : Int) (x8 : Int) (x9 : Int) (x10 : Int) (y0 : Int) (M : ma_M) (Q : Option ma_V → ma_S → ma_M → Prop) : ma_wp 34 97 [(2, 37), (2, 1), (2, 8), (0, x3), (0, x4), (0, x5), (3, x6), (3, x7), (3, x8), (3, x9), (3, x10)] [(0, y0)] mr_SH M Q ↔ ma_wp 34 98 [(2, 37), (2, 1), (2, 8), (0, x3), (0, x4), (0, x5), (3, x6), (3, x7), (3, x8), (3, x9), (3, x10)] [(2, 1), (0, y0)] mr_SH M Q := by
  rw [x34_97]
  exact ⟨fun h => h.2, fun h => ⟨by decide, h⟩⟩
theorem s34_98 (x3 : Int) (x4 : Int) (x5 : Int) (x6 : Int) (x7 : Int) (x8 : Int) (x9 : Int) (x10 : Int) (y1 : Int) (M : ma_M) (Q : Option ma_V → ma_S → ma_M → Prop) (hF : mr_FIX M) : ma_wp 34 98 [(2, 37), (2, 1), (2, 8), (0, x3), (0, x4), (0, x5), (3, x6), (3, x7), (3, x8), (3, x9), (3, x10)] [(2, 1), (0, y1)] mr_SH M Q ↔ ma_wp 34 101 [(2, 37), (2, 1), (2, 8), (0, x3), (0, x4), (0, x5), (3, x6), (3, x7), (3, x8), (3, x9), (3, x10)] [(2, 5), (0, y1)] mr_SH M Q := by
  rw [x34_98, mf_1_5 hF, ml_1]
  exact ⟨fun h => h.2, fun h => ⟨by decide, h⟩⟩
theorem s34_103 (x3 : Int) (x4 : Int) (x5 : Int) (x6 : Int) (x7 : Int) (x8 : Int) (x9 : Int) (x10 : Int) (y0 : Int) (y2 : Int) (M : ma_M) (Q : Option ma_V → ma_S → ma_M → Prop) : ma_wp 34 103 [(2, 37), (2, 1), (2, 8), (0, x3), (0, x4), (0, x5), (3, x6), (3, x7), (3, x8), (3, x9), (3, x10)] [(0, y0), (2, 5), (0, y2)] mr_SH M Q ↔ (0 ≤ y0 ∧ y0 < 24) ∧ ma_wp 34 104 [(2, 37), (2, 1), (2, 8), (0, x3), (0, x4), (0, x5), (3, x6), (3, x7), (3, x8), (3, x9), (3, x10)] [(0, M 5 y0), (0, y2)] mr_SH M Q := by
  rw [x34_103, ml_5]
theorem s34_109 (x3 : Int) (x4 : Int) (x5 : Int) (x6 : Int) (x7 : Int) (x8 : Int) (x9 : Int) (x10 : Int) (M : ma_M) (Q : Option ma_V → ma_S → ma_M → Prop) : ma_wp 34 109 [(2, 37), (2, 1), (2, 8), (0, x3), (0, x4), (0, x5), (3, x6), (3, x7), (3, x8), (3, x9), (3, x10)] [] mr_SH M Q ↔ ma_wp 34 110 [(2, 37), (2, 1), (2, 8), (0, x3), (0, x4), (0, x5), (3, x6), (3, x7), (3, x8), (3, x9), (3, x10)] [(2, 37)] mr_SH M Q := by
  rw [x34_109]
  exact ⟨fun h => h.2, fun h => ⟨by decide, h⟩⟩
theorem s34_110 (x3 : Int) (x4 : Int) (x5 : Int) (x6 : Int) (x7 : Int) (x8 : Int) (x9 : Int) (x10 : Int) (M : ma_M) (Q : Option ma_V → ma_S → ma_M → Prop) (hF : mr_FIX M) : ma_wp 34 110 [(2, 37), (2, 1), (2, 8), (0, x3), (0, x4), (0, x5), (3, x6), (3, x7), (3, x8), (3, x9), (3, x10)] [(2, 37)] mr_SH M Q ↔ ma_wp 34 113 [(2, 37), (2, 1), (2, 8), (0, x3), (0, x4), (0, x5), (3, x6), (3, x7), (3, x8), (3, x9), (3, x10)] [(2, 41)] mr_SH M Q := by
  rw [x34_110, mf_37_3 hF, ml_37]
  exact ⟨fun h => h.2, fun h => ⟨by decide, h⟩⟩
theorem s34_113 (x3 : Int) (x4 : Int) (x5 : Int) (x6 : Int) (x7 : Int) (x8 : Int) (x9 : Int) (x10 : Int) (M : ma_M) (Q : Option ma_V → ma_S → ma_M → Prop) : ma_wp 34 113 [(2, 37), (2, 1), (2, 8), (0, x3), (0, x4), (0, x5), (3, x6), (3, x7), (3, x8), (3, x9), (3, x10)] [(2, 41)] mr_SH M Q ↔ ma_wp 34 114 [(2, 37), (2, 1), (2, 8), (0, x3), (0, x4), (0, x5), (3, x6), (3, x7), (3, x8), (3, x9), (3, x10)] [(2, 1), (2, 41)] mr_SH M Q := by
  rw [x34_113]
  exact ⟨fun h => h.2, fun h => ⟨by decide, h⟩⟩
theorem s34_114 (x3 : Int) (x4 : Int) (x5 : Int) (x6 : Int) (x7 : Int) (x8 : Int) (x9 : Int) (x10 : Int) (M : ma_M) (Q : Option ma_V → ma_S → ma_M → Prop) (hF : mr_FIX M) : ma_wp 34 114 [(2, 37), (2, 1), (2, 8), (0, x3), (0, x4), (0, x5), (3, x6), (3, x7), (3, x8), (3, x9), (3, x10)] [(2, 1), (2, 41)] mr_SH M Q ↔ ma_wp 34 117 [(2, 37), (2, 1), (2, 8), (0, x3), (0, x4), (0, x5), (3, x6), (3, x7), (3, x8), (3, x9), (3, x10)] [(2, 3), (2, 41)] mr_SH M Q := by
  rw [x34_114, mf_1_3 hF, ml_1]
  exact ⟨fun h => h.2, fun h => ⟨by decide, h⟩⟩
theorem s34_118 (x3 : Int) (x4 : Int) (x5 : Int) (x6 : Int) (x7 : Int) (x8 : Int) (x9 : Int) (x10 : Int) (y0 : Int) (M : ma_M) (Q : Option ma_V → ma_S → ma_M → Prop) : ma_wp 34 118 [(2, 37), (2, 1), (2, 8), (0, x3), (0, x4), (0, x5), (3, x6), (3, x7), (3, x8), (3, x9), (3, x10)] [(0, y0), (2, 3), (2, 41)] mr_SH M Q ↔ (0 ≤ y0 ∧ y0 < 24) ∧ ma_wp 34 119 [(2, 37), (2, 1), (2, 8), (0, x3), (0, x4), (0, x5), (3, x6), (3, x7), (3, x8), (3, x9), (3, x10)] [(0, M 3 y0), (2, 41)] mr_SH M Q := by
  rw [x34_118, ml_3]
theorem s34_119 (x3 : Int) (x4 : Int) (x5 : Int) (x6 : Int) (x7 : Int) (x8 : Int) (x9 : Int) (x10 : Int) (y0 : Int) (M : ma_M) (Q : Option ma_V → ma_S → ma_M → Prop) : ma_wp 34 119 [(2, 37), (2, 1), (2, 8), (0, x3), (0, x4), (0, x5), (3, x6), (3, x7), (3, x8), (3, x9), (3, x10)] [(0, y0), (2, 41)] mr_SH M Q ↔ (0 ≤ y0 ∧ y0 < 24) ∧ ma_wp 34 120 [(2, 37), (2, 1), (2, 8), (0, x3), (0, x4), (0, x5), (3, x6), (3, x7), (3, x8), (3, x9), (3, x10)] [(0, M 41 y0)] mr_SH M Q := by
  rw [x34_119, ml_41]
theorem s34_122 (x3 : Int) (x4 : Int) (x5 : Int) (x6 : Int) (x7 : Int) (x8 : Int) (x9 : Int) (x10 : Int) (M : ma_M) (Q : Option ma_V → ma_S → ma_M → Prop) : ma_wp 34 122 [(2, 37), (2, 1), (2, 8), (0, x3), (0, x4), (0, x5), (0, x6), (3, x7), (3, x8), (3, x9), (3, x10)] [] mr_SH M Q ↔ ma_wp 34 123 [(2, 37), (2, 1), (2, 8), (0, x3), (0, x4), (0, x5), (0, x6), (3, x7), (3, x8), (3, x9), (3, x10)] [(2, 37)] mr_SH M Q := by
  rw [x34_122]
  exact ⟨fun h => h.2, fun h => ⟨by decide, h⟩⟩
theorem s34_123 (x3 : Int) (x4 : Int) (x5 : Int) (x6 : Int) (x7 : Int) (x8 : Int) (x9 : Int) (x10 : Int) (M : ma_M) (Q : Option ma_V → ma_S → ma_M → Prop) (hF : mr_FIX M) : ma_wp 34 123 [(2, 37), (2, 1), (2, 8), (0, x3), (0, x4), (0, x5), (0, x6), (3, x7), (3, x8), (3, x9), (3, x10)] [(2, 37)] mr_SH M Q ↔ ma_wp 34 126 [(2, 37), (2, 1), (2, 8), (0, x3), (0, x4), (0, x5), (0, x6), (3, x7), (3, x8), (3, x9), (3, x10)] [(2, 41)] mr_SH M Q := by
  rw [x34_123, mf_37_3 hF, ml_37]
  exact ⟨fun h => h.2, fun h => ⟨by decide, h⟩⟩
theorem s34_126 (x3 : Int) (x4 : Int) (x5 : Int) (x6 : Int) (x7 : Int) (x8 : Int) (x9 : Int) (x10 : Int) (M : ma_M) (Q : Option ma_V → ma_S → ma_M → Prop) : ma_wp 34 126 [(2, 37), (2, 1), (2, 8), (0, x3), (0, x4), (0, x5), (0, x6), (3, x7), (3, x8), (3, x9), (3, x10)] [(2, 41)] mr_SH M Q ↔ ma_wp 34 127 [(2, 37), (2, 1), (2, 8), (0, x3), (0, x4), (0, x5), (0, x6), (3, x7), (3, x8), (3, x9), (3, x10)] [(2, 1), (2, 41)] mr_SH M Q := by
  rw [x34_126]
  exact ⟨fun h => h.2, fun h => ⟨by decide, h⟩⟩
theorem s34_127 (x3 : Int) (x4 : Int) (x5 : Int) (x6 : Int) (x7 : Int) (x8 : Int) (x9 : Int) (x10 : Int) (M : ma_M) (Q : Option ma_V → ma_S → ma_M → Prop) (hF : mr_FIX M) : ma_wp 34 127 [(2, 37), (2, 1), (2, 8), (0, x3), (0, x4), (0, x5), (0, x6), (3, x7), (3, x8), (3, x9), (3, x10)] [(2, 1), (2, 41)] mr_SH M Q ↔ ma_wp 34 130 [(2, 37), (2, 1), (2, 8), (0, x3), (0, x4), (0, x5), (0, x6), (3, x7), (3, x8), (3, x9), (3, x10)] [(2, 4), (2, 41)] mr_SH M Q := by
  rw [x34_127, mf_1_4 hF, ml_1]
  exact ⟨fun h => h.2, fun h => ⟨by decide, h⟩⟩
theorem s34_131 (x3 : Int) (x4 : Int) (x5 : Int) (x6 : Int) (x7 : Int) (x8 : Int) (x9 : Int) (x10 : Int) (y0 : Int) (M : ma_M) (Q : Option ma_V → ma_S → ma_M → Prop) : ma_wp 34 131 [(2, 37), (2, 1), (2, 8), (0, x3), (0, x4), (0, x5), (0, x6), (3, x7), (3, x8), (3, x9), (3, x10)] [(0, y0), (2, 4), (2, 41)] mr_SH M Q ↔ (0 ≤ y0 ∧ y0 < 24) ∧ ma_wp 34 132 [(2, 37), (2, 1), (2, 8), (0, x3), (0, x4), (0, x5), (0, x6), (3, x7), (3, x8), (3, x9), (3, x10)] [(0, M 4 y0), (2, 41)] mr_SH M Q := by
  rw [x34_131, ml_4]
theorem s34_132 (x3 : Int) (x4 : Int) (x5 : Int) (x6 : Int) (x7 : Int) (x8 : Int) (x9 : Int) (x10 : Int) (y0 : Int) (M : ma_M) (Q : Option ma_V → ma_S → ma_M → Prop) : ma_wp 34 132 [(2, 37), (2, 1), (2, 8), (0, x3), (0, x4), (0, x5), (0, x6), (3, x7), (3, x8), (3, x9), (3, x10)] [(0, y0), (2, 41)] mr_SH M Q ↔ (0 ≤ y0 ∧ y0 < 24) ∧ ma_wp 34 133 [(2, 37), (2, 1), (2, 8), (0, x3), (0, x4), (0, x5), (0, x6), (3, x7), (3, x8), (3, x9), (3, x10)] [(0, M 41 y0)] mr_SH M Q := by
  rw [x34_132, ml_41]
theorem s34_135 (x3 : Int) (x4 : Int) (x5 : Int) (x6 : Int) (x7 : Int) (x8 : Int) (x9 : Int) (x10 : Int) (M : ma_M) (Q : Option ma_V → ma_S → ma_M → Prop) : ma_wp 34 135 [(2, 37), (2, 1), (2, 8), (0, x3), (0, x4), (0, x5), (0, x6), (0, x7), (3, x8), (3, x9), (3, x10)] [] mr_SH M Q ↔ ma_wp 34 136 [(2, 37), (2, 1), (2, 8), (0, x3), (0, x4), (0, x5), (0, x6), (0, x7), (3, x8), (3, x9), (3, x10)] [(2, 37)] mr_SH M Q := by
  rw [x34_135]
  exact ⟨fun h => h.2, fun h => ⟨by decide, h⟩⟩
theorem s34_136 (x3 : Int) (x4 : Int) (x5 : Int) (x6 : Int) (x7 : Int) (x8 : Int) (x9 : Int) (x10 : Int) (M : ma_M) (Q : Option ma_V → ma_S → ma_M → Prop) (hF : mr_FIX M) : ma_wp 34 136 [(2, 37), (2, 1), (2, 8), (0, x3), (0, x4), (0, x5), (0, x6), (0, x7), (3, x8), (3, x9), (3, x10)] [(2, 37)] mr_SH M Q ↔ ma_wp 34 139 [(2, 37), (2, 1), (2, 8), (0, x3), (0, x4), (0, x5), (0, x6), (0, x7), (3, x8), (3, x9), (3, x10)] [(2, 41)] mr_SH M Q := by
  rw [x34_136, mf_37_3 hF, ml_37]
  exact ⟨fun h => h.2, fun h => ⟨by decide, h⟩⟩
theorem s34_139 (x3 : Int) (x4 : Int) (x5 : Int) (x6 : Int) (x7 : Int) (x8 : Int) (x9 : Int) (x10 : Int) (M : ma_M) (Q : Option ma_V → ma_S → ma_M → Prop) : ma_wp 34 139 [(2, 37), (2, 1), (2, 8), (0, x3), (0, x4), (0, x5), (0, x6), (0, x7), (3, x8), (3, x9), (3, x10)] [(2, 41)] mr_SH M Q ↔ ma_wp 34 140 [(2, 37), (2, 1), (2, 8), (0, x3), (0, x4), (0, x5), (0, x6), (0, x7), (3, x8), (3, x9), (3, x10)] [(2, 1), (2, 41)] mr_SH M Q := by
  rw [x34_139]
  exact ⟨fun h => h.2, fun h => ⟨by decide, h⟩⟩
theorem s34_140 (x3 : Int) (x4 : Int) (x5 : Int) (x6 : Int) (x7 : Int) (x8 : Int) (x9 : Int) (x10 : Int) (M : ma_M) (Q : Option ma_V → ma_S → ma_M → Prop) (hF : mr_FIX M) : ma_wp 34 140 [(2, 37), (2, 1), (2, 8), (0, x3), (0, x4), (0, x5), (0, x6), (0, x7), (3, x8), (3, x9), (3, x10)] [(2, 1), (2, 41)] mr_SH M Q ↔ ma_wp 34 143 [(2, 37), (2, 1), (2, 8), (0, x3), (0, x4), (0, x5), (0, x6), (0, x7), (3, x8), (3, x9), (3, x10)] [(2, 3), (2, 41)] mr_SH M Q := by
  rw [x34_140, mf_1_3 hF, ml_1]
  exact ⟨fun h => h.2, fun h => ⟨by decide, h⟩⟩
theorem s34_145 (x3 : Int) (x4 : Int) (x5 : Int) (x6 : Int) (x7 : Int) (x8 : Int) (x9 : Int) (x10 : Int) (y0 : Int) (M : ma_M) (Q : Option ma_V → ma_S → ma_M → Prop) : ma_wp 34 145 [(2, 37), (2, 1), (2, 8), (0, x3), (0, x4), (0, x5), (0, x6), (0, x7), (3, x8), (3, x9), (3, x10)] [(0, y0), (2, 3), (2, 41)] mr_SH M Q ↔ (0 ≤ y0 ∧ y0 < 24) ∧ ma_wp 34 146 [(2, 37), (2, 1), (2, 8), (0, x3), (0, x4), (0, x5), (0, x6), (0, x7), (3, x8), (3, x9), (3, x10)] [(0, M 3 y0), (2, 41)] mr_SH M Q := by
  rw [x34_145, ml_3]
theorem s34_146 (x3 : Int) (x4 : Int) (x5 : Int) (x6 : Int) (x7 : Int) (x8 : Int) (x9 : Int) (x10 : Int) (y0 : Int) (M : ma_M) (Q : Option ma_V → ma_S → ma_M → Prop) : ma_wp 34 146 [(2, 37), (2, 1), (2, 8), (0, x3), (0, x4), (0, x5), (0, x6), (0, x7), (3, x8), (3, x9), (3, x10)] [(0, y0), (2, 41)] mr_SH M Q ↔ (0 ≤ y0 ∧ y0 < 24) ∧ ma_wp 34 147 [(2, 37), (2, 1), (2, 8), (0, x3), (0, x4), (0, x5), (0, x6), (0, x7), (3, x8), (3, x9), (3, x10)] [(0, M 41 y0)] mr_SH M Q := by
  rw [x34_146, ml_41]
theorem s34_149 (x3 : Int) (x4 : Int) (x5 : Int) (x6 : Int) (x7 : Int) (x8 : Int) (x9 : Int) (x10 : Int) (M : ma_M) (Q : Option ma_V → ma_S → ma_M → Prop) : ma_wp 34 149 [(2, 37), (2, 1), (2, 8), (0, x3), (0, x4), (0, x5), (0, x6), (0, x7), (0, x8), (3, x9), (3, x10)] [] mr_SH M Q ↔ ma_wp 34 150 [(2, 37), (2, 1), (2, 8), (0, x3), (0, x4), (0, x5), (0, x6), (0, x7), (0, x8), (3, x9), (3, x10)] [(2, 37)] mr_SH M Q := by
  rw [x34_149]
  exact ⟨fun h => h.2, fun h => ⟨by decide, h⟩⟩
theorem s34_150 (x3 : Int) (x4 : Int) (x5 : Int) (x6 : Int) (x7 : Int) (x8 : Int) (x9 : Int) (x10 : Int) (M : ma_M) (Q : Option ma_V → ma_S → ma_M → Prop) (hF : mr_FIX M) : ma_wp 34 150 [(2, 37), (2, 1), (2, 8), (0, x3), (0, x4), (0, x5), (0, x6), (0, x7), (0, x8), (3, x9), (3, x10)] [(2, 37)] mr_SH M Q ↔ ma_wp 34 153 [(2, 37), (2, 1), (2, 8), (0, x3), (0, x4), (0, x5), (0, x6), (0, x7), (0, x8), (3, x9), (3, x10)] [(2, 41)] mr_SH M Q := by
  rw [x34_150, mf_37_3 hF, ml_37]
  exact ⟨fun h => h.2, fun h => ⟨by decide, h⟩⟩
theorem s34_153 (x3 : Int) (x4 : Int) (x5 : Int) (x6 : Int) (x7 : Int) (x8 : Int) (x9 : Int) (x10 : Int) (M : ma_M) (Q : Option ma_V → ma_S → ma_M → Prop) : ma_wp 34 153 [(2, 37), (2, 1), (2, 8), (0, x3), (0, x4), (0, x5), (0, x6), (0, x7), (0, x8), (3, x9), (3, x10)] [(2, 41)] mr_SH M Q ↔ ma_wp 34 154 [(2, 37), (2, 1), (2, 8), (0, x3), (0, x4), (0, x5), (0, x6), (0, x7), (0, x8), (3, x9), (3, x10)] [(2, 1), (2, 41)] mr_SH M Q := by
  rw [x34_153]
  exact ⟨fun h => h.2, fun h => ⟨by decide, h⟩⟩
theorem s34_154 (x3 : Int) (x4 : Int) (x5 : Int) (x6 : Int) (x7 : Int) (x8 : Int) (x9 : Int) (x10 : Int) (M : ma_M) (Q : Option ma_V → ma_S → ma_M → Prop) (hF : mr_FIX M) : ma_wp 34 154 [(2, 37), (2, 1), (2, 8), (0, x3), (0, x4), (0, x5), (0, x6), (0, x7), (0, x8), (3, x9), (3, x10)] [(2, 1), (2, 41)] mr_SH M Q ↔ ma_wp 34 157 [(2, 37), (2, 1), (2, 8), (0, x3), (0, x4), (0, x5), (0, x6), (0, x7), (0, x8), (3, x9), (3, x10)] [(2, 4), (2, 41)] mr_SH M Q := by
  rw [x34_154, mf_1_4 hF, ml_1]
  exact ⟨fun h => h.2, fun h => ⟨by decide, h⟩⟩
theorem s34_159 (x3 : Int) (x4 : Int) (x5 : Int) (x6 : Int) (x7 : Int) (x8 : Int) (x9 : Int) (x10 : Int) (y0 : Int) (M : ma_M) (Q : Option ma_V → ma_S → ma_M → Prop) : ma_wp 34 159 [(2, 37), (2, 1), (2, 8), (0, x3), (0, x4), (0, x5), (0, x6), (0, x7), (0, x8), (3, x9), (3, x10)] [(0, y0), (2, 4), (2, 41)] mr_SH M Q ↔ (0 ≤ y0 ∧ y0 < 24) ∧ ma_wp 34 160 [(2, 37), (2, 1), (2, 8), (0, x3), (0, x4), (0, x5), (0, x6), (0, x7), (0, x8), (3, x9), (3, x10)] [(0, M 4 y0), (2, 41)] mr_SH M Q := by
  rw [x34_159, ml_4]
theorem s34_160 (x3 : Int) (x4 : Int) (x5 : Int) (x6 : Int) (x7 : Int) (x8 : Int) (x9 : Int) (x10 : Int) (y0 : Int) (M : ma_M) (Q : Option ma_V → ma_S → ma_M → Prop) : ma_wp 34 160 [(2, 37), (2, 1), (2, 8), (0, x3), (0, x4), (0, x5), (0, x6), (0, x7), (0, x8), (3, x9), (3, x10)] [(0, y0), (2, 41)] mr_SH M Q ↔ (0 ≤ y0 ∧ y0 < 24) ∧ ma_wp 34 161 [(2, 37), (2, 1), (2, 8), (0, x3), (0, x4), (0, x5), (0, x6), (0, x7), (0, x8), (3, x9), (3, x10)] [(0, M 41 y0)] mr_SH M Q := by
  rw [x34_160, ml_41]
theorem s35_0 (x2 : Int) (M : ma_M) (Q : Option ma_V → ma_S → ma_M → Prop) : ma_wp 35 0 [(2, 37), (2, 1), (0, x2)] [] mr_SH M Q ↔ ma_wp 35 1 [(2, 37), (2, 1), (0, x2)] [(2, 1)] mr_SH M Q := by
  rw [x35_0]
  exact ⟨fun h => h.2, fun h => ⟨by decide, h⟩⟩
theorem s35_2 (x2 : Int) (y0 : Int) (M : ma_M) (Q : Option ma_V → ma_S → ma_M → Prop) : ma_wp 35 2 [(2, 37), (2, 1), (0, x2)] [(0, y0), (2, 1)] mr_SH M Q ↔ mr_do 7 [(2, 1), (0, y0)] mr_SH M (fun r sh M => ma_wp 35 5 [(2, 37), (2, 1), (0, x2)] (r.toList ++ []) sh M Q) := by
  rw [x35_2, ml_1]
  exact ⟨fun h => h.2, fun h => ⟨by decide, h⟩⟩
theorem s35_8 (x2 : Int) (M : ma_M) (Q : Option ma_V → ma_S → ma_M → Prop) : ma_wp 35 8 [(2, 37), (2, 1), (0, x2)] [] mr_SH M Q ↔ ma_wp 35 9 [(2, 37), (2, 1), (0, x2)] [(2, 37)] mr_SH M Q := by
  rw [x35_8]
  exact ⟨fun h => h.2, fun h => ⟨by decide, h⟩⟩
theorem s35_9 (x2 : Int) (M : ma_M) (Q : Option ma_V → ma_S → ma_M → Prop) (hF : mr_FIX M) : ma_wp 35 9 [(2, 37), (2, 1), (0, x2)] [(2, 37)] mr_SH M Q ↔ ma_wp 35 12 [(2, 37), (2, 1), (0, x2)] [(2, 38)] mr_SH M Q := by
  rw [x35_9, mf_37_0 hF, ml_37]
  exact ⟨fun h => h.2, fun h => ⟨by decide, h⟩⟩
theorem s35_13 (x2 : Int) (y0 : Int) (M : ma_M) (Q : Option ma_V → ma_S → ma_M → Prop) : ma_wp 35 13 [(2, 37), (2, 1), (0, x2)] [(0, y0), (2, 38)] mr_SH M Q ↔ (0 ≤ y0 ∧ y0 < 24) ∧ ma_wp 35 14 [(2, 37), (2, 1), (0, x2)] [(0, M 38 y0)] mr_SH M Q := by
  rw [x35_13, ml_38]
theorem s35_17 (x2 : Int) (M : ma_M) (Q : Option ma_V → ma_S → ma_M → Prop) : ma_wp 35 17 [(2, 37), (2, 1), (0, x2)] [] mr_SH M Q ↔ ma_wp 35 18 [(2, 37), (2, 1), (0, x2)] [(2, 37)] mr_SH M Q := by
  rw [x35_17]
  exact ⟨fun h => h.2, fun h => ⟨by decide, h⟩⟩
theorem s35_18 (x2 : Int) (M : ma_M) (Q : Option ma_V → ma_S → ma_M → Prop) (hF : mr_FIX M) : ma_wp 35 18 [(2, 37), (2, 1), (0, x2)] [(2, 37)] mr_SH M Q ↔ ma_wp 35 21 [(2, 37), (2, 1), (0, x2)] [(2, 39)] mr_SH M Q := by
  rw [x35_18, mf_37_1 hF, ml_37]
  exact ⟨fun h => h.2, fun h => ⟨by decide, h⟩⟩
theorem s35_21 (x2 : Int) (M : ma_M) (Q : Option ma_V → ma_S → ma_M → Prop) : ma_wp 35 21 [(2, 37), (2, 1), (0, x2)] [(2, 39)] mr_SH M Q ↔ ma_wp 35 22 [(2, 37), (2, 1), (0, x2)] [(2, 1), (2, 39)] mr_SH M Q := by
  rw [x35_21]
  exact ⟨fun h => h.2, fun h => ⟨by decide, h⟩⟩
theorem s35_22 (x2 : Int) (M : ma_M) (Q : Option ma_V → ma_S → ma_M → Prop) (hF : mr_FIX M) : ma_wp 35 22 [(2, 37), (2, 1), (0, x2)] [(2, 1), (2, 39)] mr_SH M Q ↔ ma_wp 35 25 [(2, 37), (2, 1), (0, x2)] [(2, 3), (2, 39)] mr_SH M Q := by
  rw [x35_22, mf_1_3 hF, ml_1]
  exact ⟨fun h => h.2, fun h => ⟨by decide, h⟩⟩
theorem s35_26 (x2 : Int) (y0 : Int) (M : ma_M) (Q : Option ma_V → ma_S → ma_M → Prop) : ma_wp 35 26 [(2, 37), (2, 1), (0, x2)] [(0, y0), (2, 3), (2, 39)] mr_SH M Q ↔ (0 ≤ y0 ∧ y0 < 24) ∧ ma_wp 35 27 [(2, 37), (2, 1), (0, x2)] [(0, M 3 y0), (2, 39)] mr_SH M Q := by
  rw [x35_26, ml_3]
theorem s35_28 (x2 : Int) (y0 : Int) (y1 : Int) (M : ma_M) (Q : Option ma_V → ma_S → ma_M → Prop) : ma_wp 35 28 [(2, 37), (2, 1), (0, x2)] [(0, y0), (0, y1), (2, 39)] mr_SH M Q ↔ ((0 ≤ y1 ∧ y1 < 24) ∧ (y0 = 0 ∨ y0 = 1)) ∧ ma_wp 35 29 [(2, 37), (2, 1), (0, x2)] [] mr_SH (ma_up M 39 y1 y0) Q := by
  rw [x35_28, ml_39]
theorem s35_29 (x2 : Int) (M : ma_M) (Q : Option ma_V → ma_S → ma_M → Prop) : ma_wp 35 29 [(2, 37), (2, 1), (0, x2)] [] mr_SH M Q ↔ ma_wp 35 30 [(2, 37), (2, 1), (0, x2)] [(2, 37)] mr_SH M Q := by
  rw [x35_29]
  exact ⟨fun h => h.2, fun h => ⟨by decide, h⟩⟩
theorem s35_30 (x2 : Int) (M : ma_M) (Q : Option ma_V → ma_S → ma_M → Prop) (hF : mr_FIX M) : ma_wp 35 30 [(2, 37), (2, 1), (0, x2)] [(2, 37)] mr_SH M Q ↔ ma_wp 35 33 [(2, 37), (2, 1), (0, x2)] [(2, 39)] mr_SH M Q := by
  rw [x35_30, mf_37_1 hF, ml_37]
  exact ⟨fun h => h.2, fun h => ⟨by decide, h⟩⟩
theorem s35_33 (x2 : Int) (M : ma_M) (Q : Option ma_V → ma_S → ma_M → Prop) : ma_wp 35 33 [(2, 37), (2, 1), (0, x2)] [(2, 39)] mr_SH M Q ↔ ma_wp 35 34 [(2, 37), (2, 1), (0, x2)] [(2, 1), (2, 39)] mr_SH M Q := by
  rw [x35_33]
  exact ⟨fun h => h.2, fun h => ⟨by decide, h⟩⟩
theorem s35_34 (x2 : Int) (M : ma_M) (Q : Option ma_V → ma_S → ma_M → Prop) (hF : mr_FIX M) : ma_wp 35 34 [(2, 37), (2, 1), (0, x2)] [(2, 1), (2, 39)] mr_SH M Q ↔ ma_wp 35 37 [(2, 37), (2, 1), (0, x2)] [(2, 4), (2, 39)] mr_SH M Q := by
  rw [x35_34, mf_1_4 hF, ml_1]
  exact ⟨fun h => h.2, fun h => ⟨by decide, h⟩⟩
theorem s35_38 (x2 : Int) (y0 : Int) (M : ma_M) (Q : Option ma_V → ma_S → ma_M → Prop) : ma_wp 35 38 [(2, 37), (2, 1), (0, x2)] [(0, y0), (2, 4), (2, 39)] mr_SH M Q ↔ (0 ≤ y0 ∧ y0 < 24) ∧ ma_wp 35 39 [(2, 37), (2, 1), (0, x2)] [(0, M 4 y0), (2, 39)] mr_SH M Q := by
  rw [x35_38, ml_4]
theorem s35_40 (x2 : Int) (y0 : Int) (y1 : Int) (M : ma_M) (Q : Option ma_V → ma_S → ma_M → Prop) : ma_wp 35 40 [(2, 37), (2, 1), (0, x2)] [(0, y0), (0, y1), (2, 39)] mr_SH M Q ↔ ((0 ≤ y1 ∧ y1 < 24) ∧ (y0 = 0 ∨ y0 = 1)) ∧ ma_wp 35 41 [(2, 37), (2, 1), (0, x2)] [] mr_SH (ma_up M 39 y1 y0) Q := by
  rw [x35_40, ml_39]
theorem s37_0 (x1 : Int) (x2 : Int) (M : ma_M) (Q : Option ma_V → ma_S → ma_M → Prop) : ma_wp 37 0 [(2, 42), (0, x1), (0, x2)] [] mr_SH M Q ↔ ma_wp 37 1 [(2, 42), (0, x1), (0, x2)] [(2, 42)] mr_SH M Q := by
  rw [x37_0]
  exact ⟨fun h => h.2, fun h => ⟨by decide, h⟩⟩
theorem s37_1 (x1 : Int) (x2 : Int) (M : ma_M) (Q : Option ma_V → ma_S → ma_M → Prop) : ma_wp 37 1 [(2, 42), (0, x1), (0, x2)] [(2, 42)] mr_SH M Q ↔ ma_wp 37 4 [(2, 42), (0, x1), (0, x2)] [(0, M 42 1)] mr_SH M Q := by
  rw [x37_1, ml_42]
  exact ⟨fun h => h.2, fun h => ⟨by decide, h⟩⟩
theorem s37_7 (x1 : Int) (x2 : Int) (M : ma_M) (Q : Option ma_V → ma_S → ma_M → Prop) : ma_wp 37 7 [(2, 42), (0, x1), (0, x2)] [] mr_SH M Q ↔ ma_wp 37 8 [(2, 42), (0, x1), (0, x2)] [(2, 42)] mr_SH M Q := by
  rw [x37_7]
  exact ⟨fun h => h.2, fun h => ⟨by decide, h⟩⟩
theorem s37_8 (x1 : Int) (x2 : Int) (M : ma_M) (Q : Option ma_V → ma_S → ma_M → Prop) : ma_wp 37 8 [(2, 42), (0, x1), (0, x2)] [(2, 42)] mr_SH M Q ↔ mr_do 38 [(2, 42)] mr_SH M (fun r sh M => ma_wp 37 11 [(2, 42), (0, x1), (0, x2)] (r.toList ++ []) sh M Q) := by
  rw [x37_8, ml_42]
  exact ⟨fun h => h.2, fun h => ⟨by decide, h⟩⟩
theorem s37_11 (x1 : Int) (x2 : Int) (M : ma_M) (Q : Option ma_V → ma_S → ma_M → Prop) : ma_wp 37 11 [(2, 42), (0, x1), (0, x2)] [] mr_SH M Q ↔ ma_wp 37 12 [(2, 42), (0, x1), (0, x2)] [(2, 42)] mr_SH M Q := by
  rw [x37_11]
  exact ⟨fun h => h.2, fun h => ⟨by decide, h⟩⟩
theorem s37_13 (x1 : Int) (x2 : Int) (y0 : Int) (M : ma_M) (Q : Option ma_V → ma_S → ma_M → Prop) : ma_wp 37 13 [(2, 42), (0, x1), (0, x2)] [(0, y0), (2, 42)] mr_SH M Q ↔ (y0 = 0 ∨ y0 = 1) ∧ ma_wp 37 16 [(2, 42), (0, x1), (0, x2)] [] mr_SH (ma_up M 42 1 y0) Q := by
  rw [x37_13, ml_42]
  exact ⟨fun h => ⟨h.1.2, h.2⟩, fun h => ⟨⟨by decide, h.1⟩, h.2⟩⟩
theorem s37_16 (x1 : Int) (x2 : Int) (M : ma_M) (Q : Option ma_V → ma_S → ma_M → Prop) : ma_wp 37 16 [(2, 42), (0, x1), (0, x2)] [] mr_SH M Q ↔ ma_wp 37 17 [(2, 42), (0, x1), (0, x2)] [(2, 42)] mr_SH M Q := by
  rw [x37_16]
  exact ⟨fun h => h.2, fun h => ⟨by decide, h⟩⟩
theorem s37_17 (x1 : Int) (x2 : Int) (M : ma_M) (Q : Option ma_V → ma_S → ma_M → Prop) (hF : mr_FIX M) : ma_wp 37 17 [(2, 42), (0, x1), (0, x2)] [(2, 42)] mr_SH M Q ↔ ma_wp 37 20 [(2, 42), (0, x1), (0, x2)] [(2, 43)] mr_SH M Q := by
  rw [x37_17, mf_42_0 hF, ml_42]
  exact ⟨fun h => h.2, fun h => ⟨by decide, h⟩⟩
theorem s37_21 (x1 : Int) (x2 : Int) (y0 : Int) (M : ma_M) (Q : Option ma_V → ma_S → ma_M → Prop) (hF : mr_FIX M) : ma_wp 37 21 [(2, 42), (0, x1), (0, x2)] [(0, y0), (2, 43)] mr_SH M Q ↔ (0 ≤ y0 ∧ y0 < 6) ∧ ma_wp 37 22 [(2, 42), (0, x1), (0, x2)] [(2, 44 + y0)] mr_SH M Q := by
  rw [x37_21, ml_43]
  constructor
  · rintro ⟨h1, h2⟩
    rw [mg_43 hF h1.1 h1.2] at h2
    exact ⟨h1, h2⟩
  · rintro ⟨h1, h2⟩
    rw [mg_43 hF h1.1 h1.2]
    exact ⟨h1, h2⟩
theorem s38_8 (x1 : Int) (x2 : Int) (M : ma_M) (Q : Option ma_V → ma_S → ma_M → Prop) : ma_wp 38 8 [(2, 42), (0, x1), (3, x2)] [] mr_SH M Q ↔ ma_wp 38 9 [(2, 42), (0, x1), (3, x2)] [(2, 42)] mr_SH M Q := by
  rw [x38_8]
  exact ⟨fun h => h.2, fun h => ⟨by decide, h⟩⟩
theorem s38_9 (x1 : Int) (x2 : Int) (M : ma_M) (Q : Option ma_V → ma_S → ma_M → Prop) (hF : mr_FIX M) : ma_wp 38 9 [(2, 42), (0, x1), (3, x2)] [(2, 42)] mr_SH M Q ↔ ma_wp 38 12 [(2, 42), (0, x1), (3, x2)] [(2, 43)] mr_SH M Q := by
  rw [x38_9, mf_42_0 hF, ml_42]
  exact ⟨fun h => h.2, fun h => ⟨by decide, h⟩⟩
theorem s38_13 (x1 : Int) (x2 : Int) (y0 : Int) (M : ma_M) (Q : Option ma_V → ma_S → ma_M → Prop) (hF : mr_FIX M) : ma_wp 38 13 [(2, 42), (0, x1), (3, x2)] [(0, y0), (2, 43)] mr_SH M Q ↔ (0 ≤ y0 ∧ y0 < 6) ∧ ma_wp 38 14 [(2, 42), (0, x1), (3, x2)] [(2, 44 + y0)] mr_SH M Q := by
  rw [x38_13, ml_43]
  constructor
  · rintro ⟨h1, h2⟩
    rw [mg_43 hF h1.1 h1.2] at h2
    exact ⟨h1, h2⟩
  · rintro ⟨h1, h2⟩
    rw [mg_43 hF h1.1 h1.2]
    exact ⟨h1, h2⟩
theorem s38_44 (x1 : Int) (x2 : Int) (M : ma_M) (Q : Option ma_V → ma_S → ma_M → Prop) : ma_wp 38 44 [(2, 42), (0, x1), (0, x2)] [] mr_SH M Q ↔ ma_wp 38 45 [(2, 42), (0, x1), (0, x2)] [(2, 42)] mr_SH M Q := by
  rw [x38_44]
  exact ⟨fun h => h.2, fun h => ⟨by decide, h⟩⟩
theorem s38_45 (x1 : Int) (x2 : Int) (M : ma_M) (Q : Option ma_V → ma_S → ma_M → Prop) (hF : mr_FIX M) : ma_wp 38 45 [(2, 42), (0, x1), (0, x2)] [(2, 42)] mr_SH M Q ↔ ma_wp 38 48 [(2, 42), (0, x1), (0, x2)] [(2, 43)] mr_SH M Q := by
  rw [x38_45, mf_42_0 hF, ml_42]
  exact ⟨fun h => h.2, fun h => ⟨by decide, h⟩⟩
theorem s38_49 (x1 : Int) (x2 : Int) (y0 : Int) (M : ma_M) (Q : Option ma_V → ma_S → ma_M → Prop) (hF : mr_FIX M) : ma_wp 38 49 [(2, 42), (0, x1), (0, x2)] [(0, y0), (2, 43)] mr_SH M Q ↔ (0 ≤ y0 ∧ y0 < 6) ∧ ma_wp 38 50 [(2, 42), (0, x1), (0, x2)] [(2, 44 + y0)] mr_SH M Q := by
  rw [x38_49, ml_43]
  constructor
  · rintro ⟨h1, h2⟩
    rw [mg_43 hF h1.1 h1.2] at h2
    exact ⟨h1, h2⟩
  · rintro ⟨h1, h2⟩
    rw [mg_43 hF h1.1 h1.2]
    exact ⟨h1, h2⟩
theorem s38_51 (x1 : Int) (x2 : Int) (y0 : Int) (y1 : Int) (M : ma_M) (Q : Option ma_V → ma_S → ma_M → Prop) : ma_wp 38 51 [(2, 42), (0, x1), (0, x2)] [(0, y0), (2, y1)] mr_SH M Q ↔ ma_wp 38 52 [(2, 42), (0, x1), (0, x2)] [(2, 42), (0, y0), (2, y1)] mr_SH M Q := by
  rw [x38_51]
  exact ⟨fun h => h.2, fun h => ⟨by decide, h⟩⟩
theorem s38_54 (x1 : Int) (x2 : Int) (y0 : Int) (y1 : Int) (y3 : Int) (y4 : Int) (M : ma_M) (Q : Option ma_V → ma_S → ma_M → Prop) : ma_wp 38 54 [(2, 42), (0, x1), (0, x2)] [(0, y0), (0, y1), (2, 42), (0, y3), (2, y4)] mr_SH M Q ↔ mr_do 39 [(2, 42), (0, y1), (0, y0)] mr_SH M (fun r sh M => ma_wp 38 57 [(2, 42), (0, x1), (0, x2)] (r.toList ++ [(0, y3), (2, y4)]) sh M Q) := by
  rw [x38_54, ml_42]
  exact ⟨fun h => h.2, fun h => ⟨by decide, h⟩⟩
theorem s39_15 (x1 : Int) (x2 : Int) (x3 : Int) (x4 : Int) (y0 : Int) (y1 : Int) (M : ma_M) (Q : Option ma_V → ma_S → ma_M → Prop) : ma_wp 39 15 [(2, 42), (0, x1), (0, x2), (0, x3), (0, x4)] [(0, y0), (0, y1)] mr_SH M Q ↔ ma_wp 39 16 [(2, 42), (0, x1), (0, x2), (0, x3), (0, x4)] [(2, 42), (0, y0), (0, y1)] mr_SH M Q := by
  rw [x39_15]
  exact ⟨fun h => h.2, fun h => ⟨by decide, h⟩⟩
theorem s39_16 (x1 : Int) (x2 : Int) (x3 : Int) (x4 : Int) (y1 : Int) (y2 : Int) (M : ma_M) (Q : Option ma_V → ma_S → ma_M → Prop) (hF : mr_FIX M) : ma_wp 39 16 [(2, 42), (0, x1), (0, x2), (0, x3), (0, x4)] [(2, 42), (0, y1), (0, y2)] mr_SH M Q ↔ ma_wp 39 19 [(2, 42), (0, x1), (0, x2), (0, x3), (0, x4)] [(2, 43), (0, y1), (0, y2)] mr_SH M Q := by
  rw [x39_16, mf_42_0 hF, ml_42]
  exact ⟨fun h => h.2, fun h => ⟨by decide, h⟩⟩
theorem s39_22 (x1 : Int) (x2 : Int) (x3 : Int) (x4 : Int) (y0 : Int) (y2 : Int) (y3 : Int) (M : ma_M) (Q : Option ma_V → ma_S → ma_M → Prop) (hF : mr_FIX M) : ma_wp 39 22 [(2, 42), (0, x1), (0, x2), (0, x3), (0, x4)] [(0, y0), (2, 43), (0, y2), (0, y3)] mr_SH M Q ↔ (0 ≤ y0 ∧ y0 < 6) ∧ ma_wp 39 23 [(2, 42), (0, x1), (0, x2), (0, x3), (0, x4)] [(2, 44 + y0), (0, y2), (0, y3)] mr_SH M Q := by
  rw [x39_22, ml_43]
  constructor
  · rintro ⟨h1, h2⟩
    rw [mg_43 hF h1.1 h1.2] at h2
    exact ⟨h1, h2⟩
  · rintro ⟨h1, h2⟩
    rw [mg_43 hF h1.1 h1.2]
    exact ⟨h1, h2⟩
theorem s39_29 (x1 : Int) (x2 : Int) (x3 : Int) (x4 : Int) (y0 : Int) (y1 : Int) (M : ma_M) (Q : Option ma_V → ma_S → ma_M → Prop) : ma_wp 39 29 [(2, 42), (0, x1), (0, x2), (0, x3), (0, x4)] [(0, y0), (0, y1)] mr_SH M Q ↔ ma_wp 39 30 [(2, 42), (0, x1), (0, x2), (0, x3), (0, x4)] [(2, 42), (0, y0), (0, y1)] mr_SH M Q := by
  rw [x39_29]
  exact ⟨fun h => h.2, fun h => ⟨by decide, h⟩⟩
theorem s39_30 (x1 : Int) (x2 : Int) (x3 : Int) (x4 : Int) (y1 : Int) (y2 : Int) (M : ma_M) (Q : Option ma_V → ma_S → ma_M → Prop) (hF : mr_FIX M) : ma_wp 39 30 [(2, 42), (0, x1), (0, x2), (0, x3), (0, x4)] [(2, 42), (0, y1), (0, y2)] mr_SH M Q ↔ ma_wp 39 33 [(2, 42), (0, x1), (0, x2), (0, x3), (0, x4)] [(2, 43), (0, y1), (0, y2)] mr_SH M Q := by
  rw [x39_30, mf_42_0 hF, ml_42]
  exact ⟨fun h => h.2, fun h => ⟨by decide, h⟩⟩
theorem s39_34 (x1 : Int) (x2 : Int) (x3 : Int) (x4 : Int) (y0 : Int) (y2 : Int) (y3 : Int) (M : ma_M) (Q : Option ma_V → ma_S → ma_M → Prop) (hF : mr_FIX M) : ma_wp 39 34 [(2, 42), (0, x1), (0, x2), (0, x3), (0, x4)] [(0, y0), (2, 43), (0, y2), (0, y3)] mr_SH M Q ↔ (0 ≤ y0 ∧ y0 < 6) ∧ ma_wp 39 35 [(2, 42), (0, x1), (0, x2), (0, x3), (0, x4)] [(2, 44 + y0), (0, y2), (0, y3)] mr_SH M Q := by
  rw [x39_34, ml_43]
  constructor
  · rintro ⟨h1, h2⟩
    rw [mg_43 hF h1.1 h1.2] at h2
    exact ⟨h1, h2⟩
  · rintro ⟨h1, h2⟩
    rw [mg_43 hF h1.1 h1.2]
    exact ⟨h1, h2⟩
