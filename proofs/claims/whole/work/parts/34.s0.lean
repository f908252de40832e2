theorem s3_0  (M : ma_M) (Q : Option ma_V → ma_S → ma_M → Prop) : ma_wp 3 0 [(2, 1)] [] mr_SH M Q ↔ ma_wp 3 1 [(2, 1)] [(2, 1)] mr_SH M Q := by
  rw [x3_0]
  exact ⟨fun h => h.2, fun h => ⟨by decide, h⟩⟩
theorem s3_4  (M : ma_M) (Q : Option ma_V → ma_S → ma_M → Prop) : ma_wp 3 4 [(2, 1)] [] mr_SH M Q ↔ ma_wp 3 5 [(2, 1)] [(2, 1)] mr_SH M Q := by
  rw [x3_4]
  exact ⟨fun h => h.2, fun h => ⟨by decide, h⟩⟩
theorem s3_9 (y0 : Int) (M : ma_M) (Q : Option ma_V → ma_S → ma_M → Prop) : ma_wp 3 9 [(2, 1)] [(2, y0), (2, 1)] mr_SH M Q ↔ ma_wp 3 12 [(2, 1)] [] mr_SH (ma_up M 1 2 y0) Q := by
  rw [x3_9, ml_1]
  exact ⟨fun h => h.2, fun h => ⟨by decide, h⟩⟩
theorem s3_12  (M : ma_M) (Q : Option ma_V → ma_S → ma_M → Prop) : ma_wp 3 12 [(2, 1)] [] mr_SH M Q ↔ ma_wp 3 13 [(2, 1)] [(2, 1)] mr_SH M Q := by
  rw [x3_12]
  exact ⟨fun h => h.2, fun h => ⟨by decide, h⟩⟩
theorem s3_17 (y0 : Int) (M : ma_M) (Q : Option ma_V → ma_S → ma_M → Prop) : ma_wp 3 17 [(2, 1)] [(2, y0), (2, 1)] mr_SH M Q ↔ ma_wp 3 20 [(2, 1)] [] mr_SH (ma_up M 1 3 y0) Q := by
  rw [x3_17, ml_1]
  exact ⟨fun h => h.2, fun h => ⟨by decide, h⟩⟩
theorem s3_20  (M : ma_M) (Q : Option ma_V → ma_S → ma_M → Prop) : ma_wp 3 20 [(2, 1)] [] mr_SH M Q ↔ ma_wp 3 21 [(2, 1)] [(2, 1)] mr_SH M Q := by
  rw [x3_20]
  exact ⟨fun h => h.2, fun h => ⟨by decide, h⟩⟩
theorem s3_25 (y0 : Int) (M : ma_M) (Q : Option ma_V → ma_S → ma_M → Prop) : ma_wp 3 25 [(2, 1)] [(2, y0), (2, 1)] mr_SH M Q ↔ ma_wp 3 28 [(2, 1)] [] mr_SH (ma_up M 1 4 y0) Q := by
  rw [x3_25, ml_1]
  exact ⟨fun h => h.2, fun h => ⟨by decide, h⟩⟩
theorem s3_28  (M : ma_M) (Q : Option ma_V → ma_S → ma_M → Prop) : ma_wp 3 28 [(2, 1)] [] mr_SH M Q ↔ ma_wp 3 29 [(2, 1)] [(2, 1)] mr_SH M Q := by
  rw [x3_28]
  exact ⟨fun h => h.2, fun h => ⟨by decide, h⟩⟩
theorem s3_33 (y0 : Int) (M : ma_M) (Q : Option ma_V → ma_S → ma_M → Prop) : ma_wp 3 33 [(2, 1)] [(2, y0), (2, 1)] mr_SH M Q ↔ ma_wp 3 36 [(2, 1)] [] mr_SH (ma_up M 1 5 y0) Q := by
  rw [x3_33, ml_1]
  exact ⟨fun h => h.2, fun h => ⟨by decide, h⟩⟩
theorem s3_36  (M : ma_M) (Q : Option ma_V → ma_S → ma_M → Prop) : ma_wp 3 36 [(2, 1)] [] mr_SH M Q ↔ ma_wp 3 37 [(2, 1)] [(2, 1)] mr_SH M Q := by
  rw [x3_36]
  exact ⟨fun h => h.2, fun h => ⟨by decide, h⟩⟩
theorem s3_41 (y0 : Int) (M : ma_M) (Q : Option ma_V → ma_S → ma_M → Prop) : ma_wp 3 41 [(2, 1)] [(2, y0), (2, 1)] mr_SH M Q ↔ ma_wp 3 44 [(2, 1)] [] mr_SH (ma_up M 1 6 y0) Q := by
  rw [x3_41, ml_1]
  exact ⟨fun h => h.2, fun h => ⟨by decide, h⟩⟩
theorem s3_44  (M : ma_M) (Q : Option ma_V → ma_S → ma_M → Prop) : ma_wp 3 44 [(2, 1)] [] mr_SH M Q ↔ ma_wp 3 45 [(2, 1)] [(2, 1)] mr_SH M Q := by
  rw [x3_44]
  exact ⟨fun h => h.2, fun h => ⟨by decide, h⟩⟩
theorem s3_48 (y0 : Int) (M : ma_M) (Q : Option ma_V → ma_S → ma_M → Prop) : ma_wp 3 48 [(2, 1)] [(2, y0), (2, 1)] mr_SH M Q ↔ ma_wp 3 51 [(2, 1)] [] mr_SH (ma_up M 1 7 y0) Q := by
  rw [x3_48, ml_1]
  exact ⟨fun h => h.2, fun h => ⟨by decide, h⟩⟩
theorem s4_0  (M : ma_M) (Q : Option ma_V → ma_S → ma_M → Prop) : ma_wp 4 0 [(2, 1)] [] mr_SH M Q ↔ ma_wp 4 1 [(2, 1)] [(2, 1)] mr_SH M Q := by
  rw [x4_0]
  exact ⟨fun h => h.2, fun h => ⟨by decide, h⟩⟩
theorem s4_1  (M : ma_M) (Q : Option ma_V → ma_S → ma_M → Prop) : ma_wp 4 1 [(2, 1)] [(2, 1)] mr_SH M Q ↔ ma_wp 4 4 [(2, 1)] [(0, M 1 0)] mr_SH M Q := by
  rw [x4_1, ml_1]
  exact ⟨fun h => h.2, fun h => ⟨by decide, h⟩⟩
theorem s5_5 (x1 : Int) (y0 : Int) (M : ma_M) (Q : Option ma_V → ma_S → ma_M → Prop) : ma_wp 5 5 [(2, 1), (0, x1)] [(0, y0)] mr_SH M Q ↔ ma_wp 5 6 [(2, 1), (0, x1)] [(2, 1), (0, y0)] mr_SH M Q := by
  rw [x5_5]
  exact ⟨fun h => h.2, fun h => ⟨by decide, h⟩⟩
theorem s5_6 (x1 : Int) (y1 : Int) (M : ma_M) (Q : Option ma_V → ma_S → ma_M → Prop) : ma_wp 5 6 [(2, 1), (0, x1)] [(2, 1), (0, y1)] mr_SH M Q ↔ ma_wp 5 9 [(2, 1), (0, x1)] [(0, M 1 0), (0, y1)] mr_SH M Q := by
  rw [x5_6, ml_1]
  exact ⟨fun h => h.2, fun h => ⟨by decide, h⟩⟩
theorem s6_5 (x1 : Int) (y0 : Int) (M : ma_M) (Q : Option ma_V → ma_S → ma_M → Prop) : ma_wp 6 5 [(2, 1), (0, x1)] [(0, y0)] mr_SH M Q ↔ ma_wp 6 6 [(2, 1), (0, x1)] [(2, 1), (0, y0)] mr_SH M Q := by
  rw [x6_5]
  exact ⟨fun h => h.2, fun h => ⟨by decide, h⟩⟩
theorem s6_6 (x1 : Int) (y1 : Int) (M : ma_M) (Q : Option ma_V → ma_S → ma_M → Prop) : ma_wp 6 6 [(2, 1), (0, x1)] [(2, 1), (0, y1)] mr_SH M Q ↔ ma_wp 6 9 [(2, 1), (0, x1)] [(0, M 1 1), (0, y1)] mr_SH M Q := by
  rw [x6_6, ml_1]
  exact ⟨fun h => h.2, fun h => ⟨by decide, h⟩⟩
theorem s7_0 (x1 : Int) (M : ma_M) (Q : Option ma_V → ma_S → ma_M → Prop) : ma_wp 7 0 [(2, 1), (0, x1)] [] mr_SH M Q ↔ ma_wp 7 1 [(2, 1), (0, x1)] [(2, 1)] mr_SH M Q := by
  rw [x7_0]
  exact ⟨fun h => h.2, fun h => ⟨by decide, h⟩⟩
theorem s7_1 (x1 : Int) (M : ma_M) (Q : Option ma_V → ma_S → ma_M → Prop) (hF : mr_FIX M) : ma_wp 7 1 [(2, 1), (0, x1)] [(2, 1)] mr_SH M Q ↔ ma_wp 7 4 [(2, 1), (0, x1)] [(2, 2)] mr_SH M Q := by
  rw [x7_1, mf_1_2 hF, ml_1]
  exact ⟨fun h => h.2, fun h => ⟨by decide, h⟩⟩
theorem s7_5 (x1 : Int) (y0 : Int) (M : ma_M) (Q : Option ma_V → ma_S → ma_M → Prop) : ma_wp 7 5 [(2, 1), (0, x1)] [(0, y0), (2, 2)] mr_SH M Q ↔ (0 ≤ y0 ∧ y0 < 24) ∧ ma_wp 7 6 [(2, 1), (0, x1)] [(0, M 2 y0)] mr_SH M Q := by
  rw [x7_5, ml_2]
theorem s8_0 (x1 : Int) (x2 : Int) (M : ma_M) (Q : Option ma_V → ma_S → ma_M → Prop) : ma_wp 8 0 [(2, 1), (0, x1), (0, x2)] [] mr_SH M Q ↔ ma_wp 8 1 [(2, 1), (0, x1), (0, x2)] [(2, 1)] mr_SH M Q := by
  rw [x8_0]
  exact ⟨fun h => h.2, fun h => ⟨by decide, h⟩⟩
theorem s8_1 (x1 : Int) (x2 : Int) (M : ma_M) (Q : Option ma_V → ma_S → ma_M → Prop) (hF : mr_FIX M) : ma_wp 8 1 [(2, 1), (0, x1), (0, x2)] [(2, 1)] mr_SH M Q ↔ ma_wp 8 4 [(2, 1), (0, x1), (0, x2)] [(2, 6)] mr_SH M Q := by
  rw [x8_1, mf_1_6 hF, ml_1]
  exact ⟨fun h => h.2, fun h => ⟨by decide, h⟩⟩
theorem s8_5 (x1 : Int) (x2 : Int) (y0 : Int) (M : ma_M) (Q : Option ma_V → ma_S → ma_M → Prop) : ma_wp 8 5 [(2, 1), (0, x1), (0, x2)] [(0, y0), (2, 6)] mr_SH M Q ↔ (0 ≤ y0 ∧ y0 < 24) ∧ ma_wp 8 6 [(2, 1), (0, x1), (0, x2)] [(0, M 6 y0)] mr_SH M Q := by
  rw [x8_5, ml_6]
theorem s9_0 (x1 : Int) (M : ma_M) (Q : Option ma_V → ma_S → ma_M → Prop) : ma_wp 9 0 [(2, 1), (3, x1)] [] mr_SH M Q ↔ ma_wp 9 1 [(2, 1), (3, x1)] [(2, 1)] mr_SH M Q := by
  rw [x9_0]
  exact ⟨fun h => h.2, fun h => ⟨by decide, h⟩⟩
theorem s9_3 (x1 : Int) (y0 : Int) (M : ma_M) (Q : Option ma_V → ma_S → ma_M → Prop) : ma_wp 9 3 [(2, 1), (3, x1)] [(0, y0), (2, 1)] mr_SH M Q ↔ ma_wp 9 4 [(2, 1), (3, x1)] [(2, 1), (0, y0), (2, 1)] mr_SH M Q := by
  rw [x9_3]
  exact ⟨fun h => h.2, fun h => ⟨by decide, h⟩⟩
theorem s9_4 (x1 : Int) (y1 : Int) (M : ma_M) (Q : Option ma_V → ma_S → ma_M → Prop) : ma_wp 9 4 [(2, 1), (3, x1)] [(2, 1), (0, y1), (2, 1)] mr_SH M Q ↔ ma_wp 9 7 [(2, 1), (3, x1)] [(0, M 1 1), (0, y1), (2, 1)] mr_SH M Q := by
  rw [x9_4, ml_1]
  exact ⟨fun h => h.2, fun h => ⟨by decide, h⟩⟩
theorem s9_7 (x1 : Int) (y0 : Int) (y1 : Int) (M : ma_M) (Q : Option ma_V → ma_S → ma_M → Prop) : ma_wp 9 7 [(2, 1), (3, x1)] [(0, y0), (0, y1), (2, 1)] mr_SH M Q ↔ mr_do 12 [(2, 1), (0, y1), (0, y0)] mr_SH M (fun r sh M => ma_wp 9 10 [(2, 1), (3, x1)] (r.toList ++ []) sh M Q) := by
  rw [x9_7, ml_1]
  exact ⟨fun h => h.2, fun h => ⟨by decide, h⟩⟩
theorem s9_11 (x1 : Int) (M : ma_M) (Q : Option ma_V → ma_S → ma_M → Prop) : ma_wp 9 11 [(2, 1), (0, x1)] [] mr_SH M Q ↔ ma_wp 9 12 [(2, 1), (0, x1)] [(2, 1)] mr_SH M Q := by
  rw [x9_11]
  exact ⟨fun h => h.2, fun h => ⟨by decide, h⟩⟩
theorem s9_12 (x1 : Int) (M : ma_M) (Q : Option ma_V → ma_S → ma_M → Prop) (hF : mr_FIX M) : ma_wp 9 12 [(2, 1), (0, x1)] [(2, 1)] mr_SH M Q ↔ ma_wp 9 15 [(2, 1), (0, x1)] [(2, 6)] mr_SH M Q := by
  rw [x9_12, mf_1_6 hF, ml_1]
  exact ⟨fun h => h.2, fun h => ⟨by decide, h⟩⟩
theorem s9_17 (x1 : Int) (y0 : Int) (y1 : Int) (M : ma_M) (Q : Option ma_V → ma_S → ma_M → Prop) : ma_wp 9 17 [(2, 1), (0, x1)] [(0, y0), (0, y1), (2, 6)] mr_SH M Q ↔ ma_wp 9 18 [(2, 1), (0, x1)] [(2, 1), (0, y0), (0, y1), (2, 6)] mr_SH M Q := by
  rw [x9_17]
  exact ⟨fun h => h.2, fun h => ⟨by decide, h⟩⟩
theorem s9_18 (x1 : Int) (y1 : Int) (y2 : Int) (M : ma_M) (Q : Option ma_V → ma_S → ma_M → Prop) : ma_wp 9 18 [(2, 1), (0, x1)] [(2, 1), (0, y1), (0, y2), (2, 6)] mr_SH M Q ↔ ma_wp 9 21 [(2, 1), (0, x1)] [(0, M 1 1), (0, y1), (0, y2), (2, 6)] mr_SH M Q := by
  rw [x9_18, ml_1]
  exact ⟨fun h => h.2, fun h => ⟨by decide, h⟩⟩
theorem s9_22 (x1 : Int) (y0 : Int) (y1 : Int) (M : ma_M) (Q : Option ma_V → ma_S → ma_M → Prop) : ma_wp 9 22 [(2, 1), (0, x1)] [(0, y0), (0, y1), (2, 6)] mr_SH M Q ↔ (0 ≤ y1 ∧ y1 < 24) ∧ ma_wp 9 23 [(2, 1), (0, x1)] [] mr_SH (ma_up M 6 y1 y0) Q := by
  rw [x9_22, ml_6]
theorem s9_23 (x1 : Int) (M : ma_M) (Q : Option ma_V → ma_S → ma_M → Prop) : ma_wp 9 23 [(2, 1), (0, x1)] [] mr_SH M Q ↔ ma_wp 9 24 [(2, 1), (0, x1)] [(2, 1)] mr_SH M Q := by
  rw [x9_23]
  exact ⟨fun h => h.2, fun h => ⟨by decide, h⟩⟩
theorem s9_24 (x1 : Int) (M : ma_M) (Q : Option ma_V → ma_S → ma_M → Prop) (hF : mr_FIX M) : ma_wp 9 24 [(2, 1), (0, x1)] [(2, 1)] mr_SH M Q ↔ ma_wp 9 27 [(2, 1), (0, x1)] [(2, 7)] mr_SH M Q := by
  rw [x9_24, mf_1_7 hF, ml_1]
  exact ⟨fun h => h.2, fun h => ⟨by decide, h⟩⟩
theorem s9_27 (x1 : Int) (M : ma_M) (Q : Option ma_V → ma_S → ma_M → Prop) : ma_wp 9 27 [(2, 1), (0, x1)] [(2, 7)] mr_SH M Q ↔ ma_wp 9 28 [(2, 1), (0, x1)] [(2, 1), (2, 7)] mr_SH M Q := by
  rw [x9_27]
  exact ⟨fun h => h.2, fun h => ⟨by decide, h⟩⟩
theorem s9_28 (x1 : Int) (M : ma_M) (Q : Option ma_V → ma_S → ma_M → Prop) : ma_wp 9 28 [(2, 1), (0, x1)] [(2, 1), (2, 7)] mr_SH M Q ↔ ma_wp 9 31 [(2, 1), (0, x1)] [(0, M 1 1), (2, 7)] mr_SH M Q := by
  rw [x9_28, ml_1]
  exact ⟨fun h => h.2, fun h => ⟨by decide, h⟩⟩
theorem s9_32 (x1 : Int) (y0 : Int) (y1 : Int) (M : ma_M) (Q : Option ma_V → ma_S → ma_M → Prop) : ma_wp 9 32 [(2, 1), (0, x1)] [(0, y0), (0, y1), (2, 7)] mr_SH M Q ↔ (0 ≤ y1 ∧ y1 < 5) ∧ ma_wp 9 33 [(2, 1), (0, x1)] [] mr_SH (ma_up M 7 y1 y0) Q := by
  rw [x9_32, ml_7]
theorem s9_33 (x1 : Int) (M : ma_M) (Q : Option ma_V → ma_S → ma_M → Prop) : ma_wp 9 33 [(2, 1), (0, x1)] [] mr_SH M Q ↔ ma_wp 9 34 [(2, 1), (0, x1)] [(2, 1)] mr_SH M Q := by
  rw [x9_33]
  exact ⟨fun h => h.2, fun h => ⟨by decide, h⟩⟩
theorem s9_35 (x1 : Int) (M : ma_M) (Q : Option ma_V → ma_S → ma_M → Prop) : ma_wp 9 35 [(2, 1), (0, x1)] [(2, 1), (2, 1)] mr_SH M Q ↔ ma_wp 9 38 [(2, 1), (0, x1)] [(0, M 1 1), (2, 1)] mr_SH M Q := by
  rw [x9_35, ml_1]
  exact ⟨fun h => h.2, fun h => ⟨by decide, h⟩⟩
theorem s9_40 (x1 : Int) (y0 : Int) (M : ma_M) (Q : Option ma_V → ma_S → ma_M → Prop) : ma_wp 9 40 [(2, 1), (0, x1)] [(0, y0), (2, 1)] mr_SH M Q ↔ ma_wp 9 43 [(2, 1), (0, x1)] [] mr_SH (ma_up M 1 1 y0) Q := by
  rw [x9_40, ml_1]
  exact ⟨fun h => h.2, fun h => ⟨by decide, h⟩⟩
theorem s10_0 (x1 : Int) (M : ma_M) (Q : Option ma_V → ma_S → ma_M → Prop) : ma_wp 10 0 [(2, 1), (0, x1)] [] mr_SH M Q ↔ ma_wp 10 1 [(2, 1), (0, x1)] [(2, 1)] mr_SH M Q := by
  rw [x10_0]
  exact ⟨fun h => h.2, fun h => ⟨by decide, h⟩⟩
theorem s10_4 (x1 : Int) (y0 : Int) (y1 : Int) (M : ma_M) (Q : Option ma_V → ma_S → ma_M → Prop) : ma_wp 10 4 [(2, 1), (0, x1)] [(0, y0), (0, y1), (2, 1)] mr_SH M Q ↔ mr_do 12 [(2, 1), (0, y1), (0, y0)] mr_SH M (fun r sh M => ma_wp 10 7 [(2, 1), (0, x1)] (r.toList ++ []) sh M Q) := by
  rw [x10_4, ml_1]
  exact ⟨fun h => h.2, fun h => ⟨by decide, h⟩⟩
theorem s11_0 (x1 : Int) (x2 : Int) (x3 : Int) (x4 : Int) (x5 : Int) (x6 : Int) (M : ma_M) (Q : Option ma_V → ma_S → ma_M → Prop) : ma_wp 11 0 [(2, 1), (0, x1), (0, x2), (0, x3), (0, x4), (3, x5), (3, x6)] [] mr_SH M Q ↔ ma_wp 11 1 [(2, 1), (0, x1), (0, x2), (0, x3), (0, x4), (3, x5), (3, x6)] [(2, 1)] mr_SH M Q := by
  rw [x11_0]
  exact ⟨fun h => h.2, fun h => ⟨by decide, h⟩⟩
theorem s11_4 (x1 : Int) (x2 : Int) (x3 : Int) (x4 : Int) (x5 : Int) (x6 : Int) (y0 : Int) (y1 : Int) (M : ma_M) (Q : Option ma_V → ma_S → ma_M → Prop) : ma_wp 11 4 [(2, 1), (0, x1), (0, x2), (0, x3), (0, x4), (3, x5), (3, x6)] [(0, y0), (0, y1), (2, 1)] mr_SH M Q ↔ mr_do 12 [(2, 1), (0, y1), (0, y0)] mr_SH M (fun r sh M => ma_wp 11 7 [(2, 1), (0, x1), (0, x2), (0, x3), (0, x4), (3, x5), (3, x6)] (r.toList ++ []) sh M Q) := by
  rw [x11_4, ml_1]
  exact ⟨fun h => h.2, fun h => ⟨by decide, h⟩⟩
theorem s11_9 (x1 : Int) (x2 : Int) (x3 : Int) (x4 : Int) (x5 : Int) (x6 : Int) (M : ma_M) (Q : Option ma_V → ma_S → ma_M → Prop) : ma_wp 11 9 [(2, 1), (0, x1), (0, x2), (0, x3), (0, x4), (0, x5), (3, x6)] [] mr_SH M Q ↔ ma_wp 11 10 [(2, 1), (0, x1), (0, x2), (0, x3), (0, x4), (0, x5), (3, x6)] [(2, 1)] mr_SH M Q := by
  rw [x11_9]
  exact ⟨fun h => h.2, fun h => ⟨by decide, h⟩⟩
theorem s11_10 (x1 : Int) (x2 : Int) (x3 : Int) (x4 : Int) (x5 : Int) (x6 : Int) (M : ma_M) (Q : Option ma_V → ma_S → ma_M → Prop) (hF : mr_FIX M) : ma_wp 11 10 [(2, 1), (0, x1), (0, x2), (0, x3), (0, x4), (0, x5), (3, x6)] [(2, 1)] mr_SH M Q ↔ ma_wp 11 13 [(2, 1), (0, x1), (0, x2), (0, x3), (0, x4), (0, x5), (3, x6)] [(2, 3)] mr_SH M Q := by
  rw [x11_10, mf_1_3 hF, ml_1]
  exact ⟨fun h => h.2, fun h => ⟨by decide, h⟩⟩
theorem s11_16 (x1 : Int) (x2 : Int) (x3 : Int) (x4 : Int) (x5 : Int) (x6 : Int) (y0 : Int) (y1 : Int) (M : ma_M) (Q : Option ma_V → ma_S → ma_M → Prop) : ma_wp 11 16 [(2, 1), (0, x1), (0, x2), (0, x3), (0, x4), (0, x5), (3, x6)] [(0, y0), (0, y1), (2, 3)] mr_SH M Q ↔ (0 ≤ y1 ∧ y1 < 24) ∧ ma_wp 11 17 [(2, 1), (0, x1), (0, x2), (0, x3), (0, x4), (0, x5), (3, x6)] [] mr_SH (ma_up M 3 y1 y0) Q := by
  rw [x11_16, ml_3]
theorem s11_17 (x1 : Int) (x2 : Int) (x3 : Int) (x4 : Int) (x5 : Int) (x6 : Int) (M : ma_M) (Q : Option ma_V → ma_S → ma_M → Prop) : ma_wp 11 17 [(2, 1), (0, x1), (0, x2), (0, x3), (0, x4), (0, x5), (3, x6)] [] mr_SH M Q ↔ ma_wp 11 18 [(2, 1), (0, x1), (0, x2), (0, x3), (0, x4), (0, x5), (3, x6)] [(2, 1)] mr_SH M Q := by
  rw [x11_17]
  exact ⟨fun h => h.2, fun h => ⟨by decide, h⟩⟩
theorem s11_18 (x1 : Int) (x2 : Int) (x3 : Int) (x4 : Int) (x5 : Int) (x6 : Int) (M : ma_M) (Q : Option ma_V → ma_S → ma_M → Prop) (hF : mr_FIX M) : ma_wp 11 18 [(2, 1), (0, x1), (0, x2), (0, x3), (0, x4), (0, x5), (3, x6)] [(2, 1)] mr_SH M Q ↔ ma_wp 11 21 [(2, 1), (0, x1), (0, x2), (0, x3), (0, x4), (0, x5), (3, x6)] [(2, 4)] mr_SH M Q := by
  rw [x11_18, mf_1_4 hF, ml_1]
  exact ⟨fun h => h.2, fun h => ⟨by decide, h⟩⟩
theorem s11_24 (x1 : Int) (x2 : Int) (x3 : Int) (x4 : Int) (x5 : Int) (x6 : Int) (y0 : Int) (y1 : Int) (M : ma_M) (Q : Option ma_V → ma_S → ma_M → Prop) : ma_wp 11 24 [(2, 1), (0, x1), (0, x2), (0, x3), (0, x4), (0, x5), (3, x6)] [(0, y0), (0, y1), (2, 4)] mr_SH M Q ↔ (0 ≤ y1 ∧ y1 < 24) ∧ ma_wp 11 25 [(2, 1), (0, x1), (0, x2), (0, x3), (0, x4), (0, x5), (3, x6)] [] mr_SH (ma_up M 4 y1 y0) Q := by
  rw [x11_24, ml_4]
theorem s11_43 (x1 : Int) (x2 : Int) (x3 : Int) (x4 : Int) (x5 : Int) (x6 : Int) (M : ma_M) (Q : Option ma_V → ma_S → ma_M → Prop) : ma_wp 11 43 [(2, 1), (0, x1), (0, x2), (0, x3), (0, x4), (0, x5), (0, x6)] [] mr_SH M Q ↔ ma_wp 11 44 [(2, 1), (0, x1), (0, x2), (0, x3), (0, x4), (0, x5), (0, x6)] [(2, 1)] mr_SH M Q := by
  rw [x11_43]
  exact ⟨fun h => h.2, fun h => ⟨by decide, h⟩⟩
theorem s11_44 (x1 : Int) (x2 : Int) (x3 : Int) (x4 : Int) (x5 : Int) (x6 : Int) (M : ma_M) (Q : Option ma_V → ma_S → ma_M → Prop) (hF : mr_FIX M) : ma_wp 11 44 [(2, 1), (0, x1), (0, x2), (0, x3), (0, x4), (0, x5), (0, x6)] [(2, 1)] mr_SH M Q ↔ ma_wp 11 47 [(2, 1), (0, x1), (0, x2), (0, x3), (0, x4), (0, x5), (0, x6)] [(2, 6)] mr_SH M Q := by
  rw [x11_44, mf_1_6 hF, ml_1]
  exact ⟨fun h => h.2, fun h => ⟨by decide, h⟩⟩
theorem s11_58 (x1 : Int) (x2 : Int) (x3 : Int) (x4 : Int) (x5 : Int) (x6 : Int) (y0 : Int) (M : ma_M) (Q : Option ma_V → ma_S → ma_M → Prop) : ma_wp 11 58 [(2, 1), (0, x1), (0, x2), (0, x3), (0, x4), (0, x5), (0, x6)] [(0, y0), (2, 6)] mr_SH M Q ↔ ma_wp 11 59 [(2, 1), (0, x1), (0, x2), (0, x3), (0, x4), (0, x5), (0, x6)] [(2, 1), (0, y0), (2, 6)] mr_SH M Q := by
  rw [x11_58]
  exact ⟨fun h => h.2, fun h => ⟨by decide, h⟩⟩
theorem s11_59 (x1 : Int) (x2 : Int) (x3 : Int) (x4 : Int) (x5 : Int) (x6 : Int) (y1 : Int) (M : ma_M) (Q : Option ma_V → ma_S → ma_M → Prop) (hF : mr_FIX M) : ma_wp 11 59 [(2, 1), (0, x1), (0, x2), (0, x3), (0, x4), (0, x5), (0, x6)] [(2, 1), (0, y1), (2, 6)] mr_SH M Q ↔ ma_wp 11 62 [(2, 1), (0, x1), (0, x2), (0, x3), (0, x4), (0, x5), (0, x6)] [(2, 6), (0, y1), (2, 6)] mr_SH M Q := by
  rw [x11_59, mf_1_6 hF, ml_1]
  exact ⟨fun h => h.2, fun h => ⟨by decide, h⟩⟩
theorem s11_63 (x1 : Int) (x2 : Int) (x3 : Int) (x4 : Int) (x5 : Int) (x6 : Int) (y0 : Int) (y2 : Int) (M : ma_M) (Q : Option ma_V → ma_S → ma_M → Prop) : ma_wp 11 63 [(2, 1), (0, x1), (0, x2), (0, x3), (0, x4), (0, x5), (0, x6)] [(0, y0), (2, 6), (0, y2), (2, 6)] mr_SH M Q ↔ (0 ≤ y0 ∧ y0 < 24) ∧ ma_wp 11 64 [(2, 1), (0, x1), (0, x2), (0, x3), (0, x4), (0, x5), (0, x6)] [(0, M 6 y0), (0, y2), (2, 6)] mr_SH M Q := by
  rw [x11_63, ml_6]
theorem s11_64 (x1 : Int) (x2 : Int) (x3 : Int) (x4 : Int) (x5 : Int) (x6 : Int) (y0 : Int) (y1 : Int) (M : ma_M) (Q : Option ma_V → ma_S → ma_M → Prop) : ma_wp 11 64 [(2, 1), (0, x1), (0, x2), (0, x3), (0, x4), (0, x5), (0, x6)] [(0, y0), (0, y1), (2, 6)] mr_SH M Q ↔ ma_wp 11 65 [(2, 1), (0, x1), (0, x2), (0, x3), (0, x4), (0, x5), (0, x6)] [(2, 1), (0, y0), (0, y1), (2, 6)] mr_SH M Q := by
  rw [x11_64]
  exact ⟨fun h => h.2, fun h => ⟨by decide, h⟩⟩
theorem s11_65 (x1 : Int) (x2 : Int) (x3 : Int) (x4 : Int) (x5 : Int) (x6 : Int) (y1 : Int) (y2 : Int) (M : ma_M) (Q : Option ma_V → ma_S → ma_M → Prop) (hF : mr_FIX M) : ma_wp 11 65 [(2, 1), (0, x1), (0, x2), (0, x3), (0, x4), (0, x5), (0, x6)] [(2, 1), (0, y1), (0, y2), (2, 6)] mr_SH M Q ↔ ma_wp 11 68 [(2, 1), (0, x1), (0, x2), (0, x3), (0, x4), (0, x5), (0, x6)] [(2, 6), (0, y1), (0, y2), (2, 6)] mr_SH M Q := by
  rw [x11_65, mf_1_6 hF, ml_1]
  exact ⟨fun h => h.2, fun h => ⟨by decide, h⟩⟩
theorem s11_69 (x1 : Int) (x2 : Int) (x3 : Int) (x4 : Int) (x5 : Int) (x6 : Int) (y0 : Int) (y2 : Int) (y3 : Int) (M : ma_M) (Q : Option ma_V → ma_S → ma_M → Prop) : ma_wp 11 69 [(2, 1), (0, x1), (0, x2), (0, x3), (0, x4), (0, x5), (0, x6)] [(0, y0), (2, 6), (0, y2), (0, y3), (2, 6)] mr_SH M Q ↔ (0 ≤ y0 ∧ y0 < 24) ∧ ma_wp 11 70 [(2, 1), (0, x1), (0, x2), (0, x3), (0, x4), (0, x5), (0, x6)] [(0, M 6 y0), (0, y2), (0, y3), (2, 6)] mr_SH M Q := by
  rw [x11_69, ml_6]
theorem s11_71 (x1 : Int) (x2 : Int) (x3 : Int) (x4 : Int) (x5 : Int) (x6 : Int) (y0 : Int) (y1 : Int) (M : ma_M) (Q : Option ma_V → ma_S → ma_M → Prop) : ma_wp 11 71 [(2, 1), (0, x1), (0, x2), (0, x3), (0, x4), (0, x5), (0, x6)] [(0, y0), (0, y1), (2, 6)] mr_SH M Q ↔ (0 ≤ y1 ∧ y1 < 24) ∧ ma_wp 11 72 [(2, 1), (0, x1), (0, x2), (0, x3), (0, x4), (0, x5), (0, x6)] [] mr_SH (ma_up M 6 y1 y0) Q := by
  rw [x11_71, ml_6]
theorem s12_0 (x1 : Int) (x2 : Int) (M : ma_M) (Q : Option ma_V → ma_S → ma_M → Prop) : ma_wp 12 0 [(2, 1), (0, x1), (0, x2)] [] mr_SH M Q ↔ ma_wp 12 1 [(2, 1), (0, x1), (0, x2)] [(2, 1)] mr_SH M Q := by
  rw [x12_0]
  exact ⟨fun h => h.2, fun h => ⟨by decide, h⟩⟩
theorem s12_1 (x1 : Int) (x2 : Int) (M : ma_M) (Q : Option ma_V → ma_S → ma_M → Prop) (hF : mr_FIX M) : ma_wp 12 1 [(2, 1), (0, x1), (0, x2)] [(2, 1)] mr_SH M Q ↔ ma_wp 12 4 [(2, 1), (0, x1), (0, x2)] [(2, 2)] mr_SH M Q := by
  rw [x12_1, mf_1_2 hF, ml_1]
  exact ⟨fun h => h.2, fun h => ⟨by decide, h⟩⟩
theorem s12_4 (x1 : Int) (x2 : Int) (M : ma_M) (Q : Option ma_V → ma_S → ma_M → Prop) : ma_wp 12 4 [(2, 1), (0, x1), (0, x2)] [(2, 2)] mr_SH M Q ↔ ma_wp 12 5 [(2, 1), (0, x1), (0, x2)] [(2, 1), (2, 2)] mr_SH M Q := by
  rw [x12_4]
  exact ⟨fun h => h.2, fun h => ⟨by decide, h⟩⟩
theorem s12_5 (x1 : Int) (x2 : Int) (M : ma_M) (Q : Option ma_V → ma_S → ma_M → Prop) : ma_wp 12 5 [(2, 1), (0, x1), (0, x2)] [(2, 1), (2, 2)] mr_SH M Q ↔ ma_wp 12 8 [(2, 1), (0, x1), (0, x2)] [(0, M 1 0), (2, 2)] mr_SH M Q := by
  rw [x12_5, ml_1]
  exact ⟨fun h => h.2, fun h => ⟨by decide, h⟩⟩
theorem s12_9 (x1 : Int) (x2 : Int) (y0 : Int) (y1 : Int) (M : ma_M) (Q : Option ma_V → ma_S → ma_M → Prop) : ma_wp 12 9 [(2, 1), (0, x1), (0, x2)] [(0, y0), (0, y1), (2, 2)] mr_SH M Q ↔ (0 ≤ y1 ∧ y1 < 24) ∧ ma_wp 12 10 [(2, 1), (0, x1), (0, x2)] [] mr_SH (ma_up M 2 y1 y0) Q := by
  rw [x12_9, ml_2]
theorem s12_10 (x1 : Int) (x2 : Int) (M : ma_M) (Q : Option ma_V → ma_S → ma_M → Prop) : ma_wp 12 10 [(2, 1), (0, x1), (0, x2)] [] mr_SH M Q ↔ ma_wp 12 11 [(2, 1), (0, x1), (0, x2)] [(2, 1)] mr_SH M Q := by
  rw [x12_10]
  exact ⟨fun h => h.2, fun h => ⟨by decide, h⟩⟩
theorem s12_11 (x1 : Int) (x2 : Int) (M : ma_M) (Q : Option ma_V → ma_S → ma_M → Prop) (hF : mr_FIX M) : ma_wp 12 11 [(2, 1), (0, x1), (0, x2)] [(2, 1)] mr_SH M Q ↔ ma_wp 12 14 [(2, 1), (0, x1), (0, x2)] [(2, 5)] mr_SH M Q := by
  rw [x12_11, mf_1_5 hF, ml_1]
  exact ⟨fun h => h.2, fun h => ⟨by decide, h⟩⟩
theorem s12_14 (x1 : Int) (x2 : Int) (M : ma_M) (Q : Option ma_V → ma_S → ma_M → Prop) : ma_wp 12 14 [(2, 1), (0, x1), (0, x2)] [(2, 5)] mr_SH M Q ↔ ma_wp 12 15 [(2, 1), (0, x1), (0, x2)] [(2, 1), (2, 5)] mr_SH M Q := by
  rw [x12_14]
  exact ⟨fun h => h.2, fun h => ⟨by decide, h⟩⟩
theorem s12_15 (x1 : Int) (x2 : Int) (M : ma_M) (Q : Option ma_V → ma_S → ma_M → Prop) : ma_wp 12 15 [(2, 1), (0, x1), (0, x2)] [(2, 1), (2, 5)] mr_SH M Q ↔ ma_wp 12 18 [(2, 1), (0, x1), (0, x2)] [(0, M 1 0), (2, 5)] mr_SH M Q := by
  rw [x12_15, ml_1]
  exact ⟨fun h => h.2, fun h => ⟨by decide, h⟩⟩
theorem s12_19 (x1 : Int) (x2 : Int) (y0 : Int) (y1 : Int) (M : ma_M) (Q : Option ma_V → ma_S → ma_M → Prop) : ma_wp 12 19 [(2, 1), (0, x1), (0, x2)] [(0, y0), (0, y1), (2, 5)] mr_SH M Q ↔ (0 ≤ y1 ∧ y1 < 24) ∧ ma_wp 12 20 [(2, 1), (0, x1), (0, x2)] [] mr_SH (ma_up M 5 y1 y0) Q := by
  rw [x12_19, ml_5]
theorem s12_20 (x1 : Int) (x2 : Int) (M : ma_M) (Q : Option ma_V → ma_S → ma_M → Prop) : ma_wp 12 20 [(2, 1), (0, x1), (0, x2)] [] mr_SH M Q ↔ ma_wp 12 21 [(2, 1), (0, x1), (0, x2)] [(2, 1)] mr_SH M Q := by
  rw [x12_20]
  exact ⟨fun h => h.2, fun h => ⟨by decide, h⟩⟩
theorem s12_22 (x1 : Int) (x2 : Int) (M : ma_M) (Q : Option ma_V → ma_S → ma_M → Prop) : ma_wp 12 22 [(2, 1), (0, x1), (0, x2)] [(2, 1), (2, 1)] mr_SH M Q ↔ ma_wp 12 25 [(2, 1), (0, x1), (0, x2)] [(0, M 1 0), (2, 1)] mr_SH M Q := by
  rw [x12_22, ml_1]
  exact ⟨fun h => h.2, fun h => ⟨by decide, h⟩⟩
theorem s12_27 (x1 : Int) (x2 : Int) (y0 : Int) (M : ma_M) (Q : Option ma_V → ma_S → ma_M → Prop) : ma_wp 12 27 [(2, 1), (0, x1), (0, x2)] [(0, y0), (2, 1)] mr_SH M Q ↔ ma_wp 12 30 [(2, 1), (0, x1), (0, x2)] [] mr_SH (ma_up M 1 0 y0) Q := by
  rw [x12_27, ml_1]
  exact ⟨fun h => h.2, fun h => ⟨by decide, h⟩⟩
theorem s12_30 (x1 : Int) (x2 : Int) (M : ma_M) (Q : Option ma_V → ma_S → ma_M → Prop) : ma_wp 12 30 [(2, 1), (0, x1), (0, x2)] [] mr_SH M Q ↔ ma_wp 12 31 [(2, 1), (0, x1), (0, x2)] [(2, 1)] mr_SH M Q := by
  rw [x12_30]
  exact ⟨fun h => h.2, fun h => ⟨by decide, h⟩⟩
theorem s12_31 (x1 : Int) (x2 : Int) (M : ma_M) (Q : Option ma_V → ma_S → ma_M → Prop) : ma_wp 12 31 [(2, 1), (0, x1), (0, x2)] [(2, 1)] mr_SH M Q ↔ ma_wp 12 34 [(2, 1), (0, x1), (0, x2)] [(0, M 1 0)] mr_SH M Q := by
  rw [x12_31, ml_1]
  exact ⟨fun h => h.2, fun h => ⟨by decide, h⟩⟩
theorem s41_0  (M : ma_M) (Q : Option ma_V → ma_S → ma_M → Prop) : ma_wp 41 0 [(2, 0)] [] mr_SH M Q ↔ ma_wp 41 1 [(2, 0)] [(2, 0)] mr_SH M Q := by
  rw [x41_0]
  exact ⟨fun h => h.2, fun h => ⟨by decide, h⟩⟩
theorem s41_1  (M : ma_M) (Q : Option ma_V → ma_S → ma_M → Prop) (hF : mr_FIX M) : ma_wp 41 1 [(2, 0)] [(2, 0)] mr_SH M Q ↔ ma_wp 41 4 [(2, 0)] [(2, 1)] mr_SH M Q := by
  rw [x41_1, mf_0_0 hF, ml_0]
  exact ⟨fun h => h.2, fun h => ⟨by decide, h⟩⟩
theorem s41_4  (M : ma_M) (Q : Option ma_V → ma_S → ma_M → Prop) : ma_wp 41 4 [(2, 0)] [(2, 1)] mr_SH M Q ↔ mr_do 4 [(2, 1)] mr_SH M (fun r sh M => ma_wp 41 7 [(2, 0)] (r.toList ++ []) sh M Q) := by
  rw [x41_4, ml_1]
  exact ⟨fun h => h.2, fun h => ⟨by decide, h⟩⟩
theorem s41_10  (M : ma_M) (Q : Option ma_V → ma_S → ma_M → Prop) : ma_wp 41 10 [(2, 0)] [] mr_SH M Q ↔ ma_wp 41 11 [(2, 0)] [(2, 0)] mr_SH M Q := by
  rw [x41_10]
  exact ⟨fun h => h.2, fun h => ⟨by decide, h⟩⟩
theorem s41_11  (M : ma_M) (Q : Option ma_V → ma_S → ma_M → Prop) (hF : mr_FIX M) : ma_wp 41 11 [(2, 0)] [(2, 0)] mr_SH M Q ↔ ma_wp 41 14 [(2, 0)] [(2, 1)] mr_SH M Q := by
  rw [x41_11, mf_0_0 hF, ml_0]
  exact ⟨fun h => h.2, fun h => ⟨by decide, h⟩⟩
theorem s41_14  (M : ma_M) (Q : Option ma_V → ma_S → ma_M → Prop) : ma_wp 41 14 [(2, 0)] [(2, 1)] mr_SH M Q ↔ ma_wp 41 17 [(2, 0)] [(0, M 1 1)] mr_SH M Q := by
  rw [x41_14, ml_1]
  exact ⟨fun h => h.2, fun h => ⟨by decide, h⟩⟩
theorem s41_24  (M : ma_M) (Q : Option ma_V → ma_S → ma_M → Prop) : ma_wp 41 24 [(2, 0)] [] mr_SH M Q ↔ ma_wp 41 25 [(2, 0)] [(2, 0)] mr_SH M Q := by
  rw [x41_24]
  exact ⟨fun h => h.2, fun h => ⟨by decide, h⟩⟩
theorem s41_25  (M : ma_M) (Q : Option ma_V → ma_S → ma_M → Prop) (hF : mr_FIX M) : ma_wp 41 25 [(2, 0)] [(2, 0)] mr_SH M Q ↔ ma_wp 41 28 [(2, 0)] [(2, 1)] mr_SH M Q := by
  rw [x41_25, mf_0_0 hF, ml_0]
  exact ⟨fun h => h.2, fun h => ⟨by decide, h⟩⟩
theorem s41_28  (M : ma_M) (Q : Option ma_V → ma_S → ma_M → Prop) : ma_wp 41 28 [(2, 0)] [(2, 1)] mr_SH M Q ↔ mr_do 9 [(2, 1)] mr_SH M (fun r sh M => ma_wp 41 31 [(2, 0)] (r.toList ++ []) sh M Q) := by
  rw [x41_28, ml_1]
  exact ⟨fun h => h.2, fun h => ⟨by decide, h⟩⟩
theorem s42_0 (x1 : Int) (M : ma_M) (Q : Option ma_V → ma_S → ma_M → Prop) : ma_wp 42 0 [(2, 0), (0, x1)] [] mr_SH M Q ↔ ma_wp 42 1 [(2, 0), (0, x1)] [(2, 0)] mr_SH M Q := by
  rw [x42_0]
  exact ⟨fun h => h.2, fun h => ⟨by decide, h⟩⟩
theorem s42_1 (x1 : Int) (M : ma_M) (Q : Option ma_V → ma_S → ma_M → Prop) (hF : mr_FIX M) : ma_wp 42 1 [(2, 0), (0, x1)] [(2, 0)] mr_SH M Q ↔ ma_wp 42 4 [(2, 0), (0, x1)] [(2, 1)] mr_SH M Q := by
  rw [x42_1, mf_0_0 hF, ml_0]
  exact ⟨fun h => h.2, fun h => ⟨by decide, h⟩⟩
theorem s42_4 (x1 : Int) (M : ma_M) (Q : Option ma_V → ma_S → ma_M → Prop) : ma_wp 42 4 [(2, 0), (0, x1)] [(2, 1)] mr_SH M Q ↔ mr_do 4 [(2, 1)] mr_SH M (fun r sh M => ma_wp 42 7 [(2, 0), (0, x1)] (r.toList ++ []) sh M Q) := by
  rw [x42_4, ml_1]
  exact ⟨fun h => h.2, fun h => ⟨by decide, h⟩⟩
theorem s42_13 (x1 : Int) (M : ma_M) (Q : Option ma_V → ma_S → ma_M → Prop) : ma_wp 42 13 [(2, 0), (0, x1)] [] mr_SH M Q ↔ ma_wp 42 14 [(2, 0), (0, x1)] [(2, 0)] mr_SH M Q := by
  rw [x42_13]
  exact ⟨fun h => h.2, fun h => ⟨by decide, h⟩⟩
theorem s42_14 (x1 : Int) (M : ma_M) (Q : Option ma_V → ma_S → ma_M → Prop) (hF : mr_FIX M) : ma_wp 42 14 [(2, 0), (0, x1)] [(2, 0)] mr_SH M Q ↔ ma_wp 42 17 [(2, 0), (0, x1)] [(2, 1)] mr_SH M Q := by
  rw [x42_14, mf_0_0 hF, ml_0]
  exact ⟨fun h => h.2, fun h => ⟨by decide, h⟩⟩
theorem s42_22 (x1 : Int) (y0 : Int) (M : ma_M) (Q : Option ma_V → ma_S → ma_M → Prop) : ma_wp 42 22 [(2, 0), (0, x1)] [(0, y0), (2, 1)] mr_SH M Q ↔ mr_do 10 [(2, 1), (0, y0)] mr_SH M (fun r sh M => ma_wp 42 25 [(2, 0), (0, x1)] (r.toList ++ []) sh M Q) := by
  rw [x42_22, ml_1]
  exact ⟨fun h => h.2, fun h => ⟨by decide, h⟩⟩
theorem s43_10 (x1 : Int) (x2 : Int) (x3 : Int) (M : ma_M) (Q : Option ma_V → ma_S → ma_M → Prop) : ma_wp 43 10 [(2, 0), (0, x1), (0, x2), (0, x3)] [] mr_SH M Q ↔ ma_wp 43 11 [(2, 0), (0, x1), (0, x2), (0, x3)] [(2, 0)] mr_SH M Q := by
  rw [x43_10]
  exact ⟨fun h => h.2, fun h => ⟨by decide, h⟩⟩
theorem s43_11 (x1 : Int) (x2 : Int) (x3 : Int) (M : ma_M) (Q : Option ma_V → ma_S → ma_M → Prop) (hF : mr_FIX M) : ma_wp 43 11 [(2, 0), (0, x1), (0, x2), (0, x3)] [(2, 0)] mr_SH M Q ↔ ma_wp 43 14 [(2, 0), (0, x1), (0, x2), (0, x3)] [(2, 1)] mr_SH M Q := by
  rw [x43_11, mf_0_0 hF, ml_0]
  exact ⟨fun h => h.2, fun h => ⟨by decide, h⟩⟩
theorem s43_15 (x1 : Int) (x2 : Int) (x3 : Int) (y0 : Int) (M : ma_M) (Q : Option ma_V → ma_S → ma_M → Prop) : ma_wp 43 15 [(2, 0), (0, x1), (0, x2), (0, x3)] [(0, y0), (2, 1)] mr_SH M Q ↔ mr_do 5 [(2, 1), (0, y0)] mr_SH M (fun r sh M => ma_wp 43 18 [(2, 0), (0, x1), (0, x2), (0, x3)] (r.toList ++ []) sh M Q) := by
  rw [x43_15, ml_1]
  exact ⟨fun h => h.2, fun h => ⟨by decide, h⟩⟩
theorem s43_21 (x1 : Int) (x2 : Int) (x3 : Int) (M : ma_M) (Q : Option ma_V → ma_S → ma_M → Prop) : ma_wp 43 21 [(2, 0), (0, x1), (0, x2), (0, x3)] [] mr_SH M Q ↔ ma_wp 43 22 [(2, 0), (0, x1), (0, x2), (0, x3)] [(2, 0)] mr_SH M Q := by
  rw [x43_21]
  exact ⟨fun h => h.2, fun h => ⟨by decide, h⟩⟩
theorem s43_22 (x1 : Int) (x2 : Int) (x3 : Int) (M : ma_M) (Q : Option ma_V → ma_S → ma_M → Prop) (hF : mr_FIX M) : ma_wp 43 22 [(2, 0), (0, x1), (0, x2), (0, x3)] [(2, 0)] mr_SH M Q ↔ ma_wp 43 25 [(2, 0), (0, x1), (0, x2), (0, x3)] [(2, 1)] mr_SH M Q := by
  rw [x43_22, mf_0_0 hF, ml_0]
  exact ⟨fun h => h.2, fun h => ⟨by decide, h⟩⟩
theorem s43_25 (x1 : Int) (x2 : Int) (x3 : Int) (M : ma_M) (Q : Option ma_V → ma_S → ma_M → Prop) : ma_wp 43 25 [(2, 0), (0, x1), (0, x2), (0, x3)] [(2, 1)] mr_SH M Q ↔ mr_do 4 [(2, 1)] mr_SH M (fun r sh M => ma_wp 43 28 [(2, 0), (0, x1), (0, x2), (0, x3)] (r.toList ++ []) sh M Q) := by
  rw [x43_25, ml_1]
  exact ⟨fun h => h.2, fun h => ⟨by decide, h⟩⟩
theorem s43_55 (x1 : Int) (x2 : Int) (x3 : Int) (M : ma_M) (Q : Option ma_V → ma_S → ma_M → Prop) : ma_wp 43 55 [(2, 0), (0, x1), (0, x2), (0, x3)] [] mr_SH M Q ↔ ma_wp 43 56 [(2, 0), (0, x1), (0, x2), (0, x3)] [(2, 0)] mr_SH M Q := by
  rw [x43_55]
  exact ⟨fun h => h.2, fun h => ⟨by decide, h⟩⟩
theorem s43_56 (x1 : Int) (x2 : Int) (x3 : Int) (M : ma_M) (Q : Option ma_V → ma_S → ma_M → Prop) (hF : mr_FIX M) : ma_wp 43 56 [(2, 0), (0, x1), (0, x2), (0, x3)] [(2, 0)] mr_SH M Q ↔ ma_wp 43 59 [(2, 0), (0, x1), (0, x2), (0, x3)] [(2, 1)] mr_SH M Q := by
  rw [x43_56, mf_0_0 hF, ml_0]
  exact ⟨fun h => h.2, fun h => ⟨by decide, h⟩⟩
theorem s43_64 (x1 : Int) (x2 : Int) (x3 : Int) (y0 : Int) (y1 : Int) (y2 : Int) (y3 : Int) (M : ma_M) (Q : Option ma_V → ma_S → ma_M → Prop) : ma_wp 43 64 [(2, 0), (0, x1), (0, x2), (0, x3)] [(0, y0), (0, y1), (0, y2), (0, y3), (2, 1)] mr_SH M Q ↔ mr_do 11 [(2, 1), (0, y3), (0, y2), (0, y1), (0, y0)] mr_SH M (fun r sh M => ma_wp 43 67 [(2, 0), (0, x1), (0, x2), (0, x3)] (r.toList ++ []) sh M Q) := by
  rw [x43_64, ml_1]
  exact ⟨fun h => h.2, fun h => ⟨by decide, h⟩⟩
theorem s43_68 (x1 : Int) (x2 : Int) (x3 : Int) (M : ma_M) (Q : Option ma_V → ma_S → ma_M → Prop) : ma_wp 43 68 [(2, 0), (0, x1), (0, x2), (0, x3)] [] mr_SH M Q ↔ ma_wp 43 69 [(2, 0), (0, x1), (0, x2), (0, x3)] [(2, 0)] mr_SH M Q := by
  rw [x43_68]
  exact ⟨fun h => h.2, fun h => ⟨by decide, h⟩⟩
theorem s43_69 (x1 : Int) (x2 : Int) (x3 : Int) (M : ma_M) (Q : Option ma_V → ma_S → ma_M → Prop) (hF : mr_FIX M) : ma_wp 43 69 [(2, 0), (0, x1), (0, x2), (0, x3)] [(2, 0)] mr_SH M Q ↔ ma_wp 43 72 [(2, 0), (0, x1), (0, x2), (0, x3)] [(2, 1)] mr_SH M Q := by
  rw [x43_69, mf_0_0 hF, ml_0]
  exact ⟨fun h => h.2, fun h => ⟨by decide, h⟩⟩
theorem s43_73 (x1 : Int) (x2 : Int) (x3 : Int) (y0 : Int) (M : ma_M) (Q : Option ma_V → ma_S → ma_M → Prop) : ma_wp 43 73 [(2, 0), (0, x1), (0, x2), (0, x3)] [(0, y0), (2, 1)] mr_SH M Q ↔ mr_do 5 [(2, 1), (0, y0)] mr_SH M (fun r sh M => ma_wp 43 76 [(2, 0), (0, x1), (0, x2), (0, x3)] (r.toList ++ []) sh M Q) := by
  rw [x43_73, ml_1]
  exact ⟨fun h => h.2, fun h => ⟨by decide, h⟩⟩
theorem s43_79 (x1 : Int) (x2 : Int) (x3 : Int) (M : ma_M) (Q : Option ma_V → ma_S → ma_M → Prop) : ma_wp 43 79 [(2, 0), (0, x1), (0, x2), (0, x3)] [] mr_SH M Q ↔ ma_wp 43 80 [(2, 0), (0, x1), (0, x2), (0, x3)] [(2, 0)] mr_SH M Q := by
  rw [x43_79]
  exact ⟨fun h => h.2, fun h => ⟨by decide, h⟩⟩
theorem s43_80 (x1 : Int) (x2 : Int) (x3 : Int) (M : ma_M) (Q : Option ma_V → ma_S → ma_M → Prop) (hF : mr_FIX M) : ma_wp 43 80 [(2, 0), (0, x1), (0, x2), (0, x3)] [(2, 0)] mr_SH M Q ↔ ma_wp 43 83 [(2, 0), (0, x1), (0, x2), (0, x3)] [(2, 1)] mr_SH M Q := by
  rw [x43_80, mf_0_0 hF, ml_0]
  exact ⟨fun h => h.2, fun h => ⟨by decide, h⟩⟩
theorem s43_87 (x1 : Int) (x2 : Int) (x3 : Int) (y0 : Int) (y1 : Int) (y2 : Int) (y3 : Int) (M : ma_M) (Q : Option ma_V → ma_S → ma_M → Prop) : ma_wp 43 87 [(2, 0), (0, x1), (0, x2), (0, x3)] [(0, y0), (0, y1), (0, y2), (0, y3), (2, 1)] mr_SH M Q ↔ mr_do 11 [(2, 1), (0, y3), (0, y2), (0, y1), (0, y0)] mr_SH M (fun r sh M => ma_wp 43 90 [(2, 0), (0, x1), (0, x2), (0, x3)] (r.toList ++ []) sh M Q) := by
  rw [x43_87, ml_1]
  exact ⟨fun h => h.2, fun h => ⟨by decide, h⟩⟩
theorem s44_0 (x1 : Int) (M : ma_M) (Q : Option ma_V → ma_S → ma_M → Prop) : ma_wp 44 0 [(2, 0), (0, x1)] [] mr_SH M Q ↔ ma_wp 44 1 [(2, 0), (0, x1)] [(2, 0)] mr_SH M Q := by
  rw [x44_0]
  exact ⟨fun h => h.2, fun h => ⟨by decide, h⟩⟩
theorem s44_1 (x1 : Int) (M : ma_M) (Q : Option ma_V → ma_S → ma_M → Prop) (hF : mr_FIX M) : ma_wp 44 1 [(2, 0), (0, x1)] [(2, 0)] mr_SH M Q ↔ ma_wp 44 4 [(2, 0), (0, x1)] [(2, 1)] mr_SH M Q := by
  rw [x44_1, mf_0_0 hF, ml_0]
  exact ⟨fun h => h.2, fun h => ⟨by decide, h⟩⟩
theorem s44_5 (x1 : Int) (y0 : Int) (M : ma_M) (Q : Option ma_V → ma_S → ma_M → Prop) : ma_wp 44 5 [(2, 0), (0, x1)] [(0, y0), (2, 1)] mr_SH M Q ↔ mr_do 5 [(2, 1), (0, y0)] mr_SH M (fun r sh M => ma_wp 44 8 [(2, 0), (0, x1)] (r.toList ++ []) sh M Q) := by
  rw [x44_5, ml_1]
  exact ⟨fun h => h.2, fun h => ⟨by decide, h⟩⟩
theorem s44_11 (x1 : Int) (M : ma_M) (Q : Option ma_V → ma_S → ma_M → Prop) : ma_wp 44 11 [(2, 0), (0, x1)] [] mr_SH M Q ↔ ma_wp 44 12 [(2, 0), (0, x1)] [(2, 0)] mr_SH M Q := by
  rw [x44_11]
  exact ⟨fun h => h.2, fun h => ⟨by decide, h⟩⟩
theorem s44_12 (x1 : Int) (M : ma_M) (Q : Option ma_V → ma_S → ma_M → Prop) : ma_wp 44 12 [(2, 0), (0, x1)] [(2, 0)] mr_SH M Q ↔ ma_wp 44 15 [(2, 0), (0, x1)] [(0, M 0 11)] mr_SH M Q := by
  rw [x44_12, ml_0]
  exact ⟨fun h => h.2, fun h => ⟨by decide, h⟩⟩
theorem s44_22 (x1 : Int) (M : ma_M) (Q : Option ma_V → ma_S → ma_M → Prop) : ma_wp 44 22 [(2, 0), (0, x1)] [] mr_SH M Q ↔ ma_wp 44 23 [(2, 0), (0, x1)] [(2, 0)] mr_SH M Q := by
  rw [x44_22]
  exact ⟨fun h => h.2, fun h => ⟨by decide, h⟩⟩
theorem s44_23 (x1 : Int) (M : ma_M) (Q : Option ma_V → ma_S → ma_M → Prop) (hF : mr_FIX M) : ma_wp 44 23 [(2, 0), (0, x1)] [(2, 0)] mr_SH M Q ↔ ma_wp 44 26 [(2, 0), (0, x1)] [(2, 54)] mr_SH M Q := by
  rw [x44_23, mf_0_9 hF, ml_0]
  exact ⟨fun h => h.2, fun h => ⟨by decide, h⟩⟩
theorem s44_26 (x1 : Int) (M : ma_M) (Q : Option ma_V → ma_S → ma_M → Prop) : ma_wp 44 26 [(2, 0), (0, x1)] [(2, 54)] mr_SH M Q ↔ ma_wp 44 27 [(2, 0), (0, x1)] [(2, 0), (2, 54)] mr_SH M Q := by
  rw [x44_26]
  exact ⟨fun h => h.2, fun h => ⟨by decide, h⟩⟩
theorem s44_27 (x1 : Int) (M : ma_M) (Q : Option ma_V → ma_S → ma_M → Prop) : ma_wp 44 27 [(2, 0), (0, x1)] [(2, 0), (2, 54)] mr_SH M Q ↔ ma_wp 44 30 [(2, 0), (0, x1)] [(0, M 0 11), (2, 54)] mr_SH M Q := by
  rw [x44_27, ml_0]
  exact ⟨fun h => h.2, fun h => ⟨by decide, h⟩⟩
theorem s44_31 (x1 : Int) (y0 : Int) (y1 : Int) (M : ma_M) (Q : Option ma_V → ma_S → ma_M → Prop) : ma_wp 44 31 [(2, 0), (0, x1)] [(0, y0), (0, y1), (2, 54)] mr_SH M Q ↔ (0 ≤ y1 ∧ y1 < 5) ∧ ma_wp 44 32 [(2, 0), (0, x1)] [] mr_SH (ma_up M 54 y1 y0) Q := by
  rw [x44_31, ml_54]
theorem s44_32 (x1 : Int) (M : ma_M) (Q : Option ma_V → ma_S → ma_M → Prop) : ma_wp 44 32 [(2, 0), (0, x1)] [] mr_SH M Q ↔ ma_wp 44 33 [(2, 0), (0, x1)] [(2, 0)] mr_SH M Q := by
  rw [x44_32]
  exact ⟨fun h => h.2, fun h => ⟨by decide, h⟩⟩
theorem s44_34 (x1 : Int) (M : ma_M) (Q : Option ma_V → ma_S → ma_M → Prop) : ma_wp 44 34 [(2, 0), (0, x1)] [(2, 0), (2, 0)] mr_SH M Q ↔ ma_wp 44 37 [(2, 0), (0, x1)] [(0, M 0 11), (2, 0)] mr_SH M Q := by
  rw [x44_34, ml_0]
  exact ⟨fun h => h.2, fun h => ⟨by decide, h⟩⟩
theorem s44_39 (x1 : Int) (y0 : Int) (M : ma_M) (Q : Option ma_V → ma_S → ma_M → Prop) : ma_wp 44 39 [(2, 0), (0, x1)] [(0, y0), (2, 0)] mr_SH M Q ↔ ma_wp 44 42 [(2, 0), (0, x1)] [] mr_SH (ma_up M 0 11 y0) Q := by
  rw [x44_39, ml_0]
  exact ⟨fun h => h.2, fun h => ⟨by decide, h⟩⟩
theorem s44_42 (x1 : Int) (M : ma_M) (Q : Option ma_V → ma_S → ma_M → Prop) : ma_wp 44 42 [(2, 0), (0, x1)] [] mr_SH M Q ↔ ma_wp 44 43 [(2, 0), (0, x1)] [(2, 0)] mr_SH M Q := by
  rw [x44_42]
  exact ⟨fun h => h.2, fun h => ⟨by decide, h⟩⟩
theorem s44_43 (x1 : Int) (M : ma_M) (Q : Option ma_V → ma_S → ma_M → Prop) : ma_wp 44 43 [(2, 0), (0, x1)] [(2, 0)] mr_SH M Q ↔ ma_wp 44 46 [(2, 0), (0, x1)] [(0, M 0 11)] mr_SH M Q := by
  rw [x44_43, ml_0]
  exact ⟨fun h => h.2, fun h => ⟨by decide, h⟩⟩
theorem s45_0 (x1 : Int) (x2 : Int) (M : ma_M) (Q : Option ma_V → ma_S → ma_M → Prop) : ma_wp 45 0 [(2, 0), (0, x1), (0, x2)] [] mr_SH M Q ↔ ma_wp 45 1 [(2, 0), (0, x1), (0, x2)] [(2, 0)] mr_SH M Q := by
  rw [x45_0]
  exact ⟨fun h => h.2, fun h => ⟨by decide, h⟩⟩
theorem s45_1 (x1 : Int) (x2 : Int) (M : ma_M) (Q : Option ma_V → ma_S → ma_M → Prop) (hF : mr_FIX M) : ma_wp 45 1 [(2, 0), (0, x1), (0, x2)] [(2, 0)] mr_SH M Q ↔ ma_wp 45 4 [(2, 0), (0, x1), (0, x2)] [(2, 1)] mr_SH M Q := by
  rw [x45_1, mf_0_0 hF, ml_0]
  exact ⟨fun h => h.2, fun h => ⟨by decide, h⟩⟩
theorem s45_5 (x1 : Int) (x2 : Int) (y0 : Int) (M : ma_M) (Q : Option ma_V → ma_S → ma_M → Prop) : ma_wp 45 5 [(2, 0), (0, x1), (0, x2)] [(0, y0), (2, 1)] mr_SH M Q ↔ mr_do 6 [(2, 1), (0, y0)] mr_SH M (fun r sh M => ma_wp 45 8 [(2, 0), (0, x1), (0, x2)] (r.toList ++ []) sh M Q) := by
  rw [x45_5, ml_1]
  exact ⟨fun h => h.2, fun h => ⟨by decide, h⟩⟩
theorem s45_13 (x1 : Int) (x2 : Int) (M : ma_M) (Q : Option ma_V → ma_S → ma_M → Prop) : ma_wp 45 13 [(2, 0), (0, x1), (0, x2)] [] mr_SH M Q ↔ ma_wp 45 14 [(2, 0), (0, x1), (0, x2)] [(2, 0)] mr_SH M Q := by
  rw [x45_13]
  exact ⟨fun h => h.2, fun h => ⟨by decide, h⟩⟩
theorem s45_14 (x1 : Int) (x2 : Int) (M : ma_M) (Q : Option ma_V → ma_S → ma_M → Prop) (hF : mr_FIX M) : ma_wp 45 14 [(2, 0), (0, x1), (0, x2)] [(2, 0)] mr_SH M Q ↔ ma_wp 45 17 [(2, 0), (0, x1), (0, x2)] [(2, 50)] mr_SH M Q := by
  rw [x45_14, mf_0_5 hF, ml_0]
  exact ⟨fun h => h.2, fun h => ⟨by decide, h⟩⟩
theorem s45_23 (x1 : Int) (x2 : Int) (y0 : Int) (y1 : Int) (M : ma_M) (Q : Option ma_V → ma_S → ma_M → Prop) : ma_wp 45 23 [(2, 0), (0, x1), (0, x2)] [(0, y0), (0, y1), (2, 50)] mr_SH M Q ↔ (0 ≤ y1 ∧ y1 < 5) ∧ ma_wp 45 24 [(2, 0), (0, x1), (0, x2)] [] mr_SH (ma_up M 50 y1 y0) Q := by
  rw [x45_23, ml_50]
theorem s46_0 (x1 : Int) (x2 : Int) (M : ma_M) (Q : Option ma_V → ma_S → ma_M → Prop) : ma_wp 46 0 [(2, 0), (0, x1), (0, x2)] [] mr_SH M Q ↔ ma_wp 46 1 [(2, 0), (0, x1), (0, x2)] [(2, 0)] mr_SH M Q := by
  rw [x46_0]
  exact ⟨fun h => h.2, fun h => ⟨by decide, h⟩⟩
theorem s46_1 (x1 : Int) (x2 : Int) (M : ma_M) (Q : Option ma_V → ma_S → ma_M → Prop) (hF : mr_FIX M) : ma_wp 46 1 [(2, 0), (0, x1), (0, x2)] [(2, 0)] mr_SH M Q ↔ ma_wp 46 4 [(2, 0), (0, x1), (0, x2)] [(2, 1)] mr_SH M Q := by
  rw [x46_1, mf_0_0 hF, ml_0]
  exact ⟨fun h => h.2, fun h => ⟨by decide, h⟩⟩
theorem s46_5 (x1 : Int) (x2 : Int) (y0 : Int) (M : ma_M) (Q : Option ma_V → ma_S → ma_M → Prop) : ma_wp 46 5 [(2, 0), (0, x1), (0, x2)] [(0, y0), (2, 1)] mr_SH M Q ↔ mr_do 6 [(2, 1), (0, y0)] mr_SH M (fun r sh M => ma_wp 46 8 [(2, 0), (0, x1), (0, x2)] (r.toList ++ []) sh M Q) := by
  rw [x46_5, ml_1]
  exact ⟨fun h => h.2, fun h => ⟨by decide, h⟩⟩
theorem s46_13 (x1 : Int) (x2 : Int) (M : ma_M) (Q : Option ma_V → ma_S → ma_M → Prop) : ma_wp 46 13 [(2, 0), (0, x1), (0, x2)] [] mr_SH M Q ↔ ma_wp 46 14 [(2, 0), (0, x1), (0, x2)] [(2, 0)] mr_SH M Q := by
  rw [x46_13]
  exact ⟨fun h => h.2, fun h => ⟨by decide, h⟩⟩
theorem s46_14 (x1 : Int) (x2 : Int) (M : ma_M) (Q : Option ma_V → ma_S → ma_M → Prop) (hF : mr_FIX M) : ma_wp 46 14 [(2, 0), (0, x1), (0, x2)] [(2, 0)] mr_SH M Q ↔ ma_wp 46 17 [(2, 0), (0, x1), (0, x2)] [(2, 51)] mr_SH M Q := by
  rw [x46_14, mf_0_6 hF, ml_0]
  exact ⟨fun h => h.2, fun h => ⟨by decide, h⟩⟩
theorem s46_23 (x1 : Int) (x2 : Int) (y0 : Int) (y1 : Int) (M : ma_M) (Q : Option ma_V → ma_S → ma_M → Prop) : ma_wp 46 23 [(2, 0), (0, x1), (0, x2)] [(0, y0), (0, y1), (2, 51)] mr_SH M Q ↔ (0 ≤ y1 ∧ y1 < 5) ∧ ma_wp 46 24 [(2, 0), (0, x1), (0, x2)] [] mr_SH (ma_up M 51 y1 y0) Q := by
  rw [x46_23, ml_51]
theorem s47_0 (x1 : Int) (x2 : Int) (M : ma_M) (Q : Option ma_V → ma_S → ma_M → Prop) : ma_wp 47 0 [(2, 0), (0, x1), (0, x2)] [] mr_SH M Q ↔ ma_wp 47 1 [(2, 0), (0, x1), (0, x2)] [(2, 0)] mr_SH M Q := by
  rw [x47_0]
  exact ⟨fun h => h.2, fun h => ⟨by decide, h⟩⟩
theorem s47_2 (x1 : Int) (x2 : Int) (y0 : Int) (M : ma_M) (Q : Option ma_V → ma_S → ma_M → Prop) : ma_wp 47 2 [(2, 0), (0, x1), (0, x2)] [(0, y0), (2, 0)] mr_SH M Q ↔ mr_do 61 [(2, 0), (0, y0)] mr_SH M (fun r sh M => ma_wp 47 5 [(2, 0), (0, x1), (0, x2)] (r.toList ++ []) sh M Q) := by
  rw [x47_2, ml_0]
  exact ⟨fun h => h.2, fun h => ⟨by decide, h⟩⟩
theorem s47_10 (x1 : Int) (x2 : Int) (M : ma_M) (Q : Option ma_V → ma_S → ma_M → Prop) : ma_wp 47 10 [(2, 0), (0, x1), (0, x2)] [] mr_SH M Q ↔ ma_wp 47 11 [(2, 0), (0, x1), (0, x2)] [(2, 0)] mr_SH M Q := by
  rw [x47_10]
  exact ⟨fun h => h.2, fun h => ⟨by decide, h⟩⟩
theorem s47_11 (x1 : Int) (x2 : Int) (M : ma_M) (Q : Option ma_V → ma_S → ma_M → Prop) (hF : mr_FIX M) : ma_wp 47 11 [(2, 0), (0, x1), (0, x2)] [(2, 0)] mr_SH M Q ↔ ma_wp 47 14 [(2, 0), (0, x1), (0, x2)] [(2, 55)] mr_SH M Q := by
  rw [x47_11, mf_0_10 hF, ml_0]
  exact ⟨fun h => h.2, fun h => ⟨by decide, h⟩⟩
theorem s47_20 (x1 : Int) (x2 : Int) (y0 : Int) (y1 : Int) (M : ma_M) (Q : Option ma_V → ma_S → ma_M → Prop) : ma_wp 47 20 [(2, 0), (0, x1), (0, x2)] [(0, y0), (0, y1), (2, 55)] mr_SH M Q ↔ (0 ≤ y1 ∧ y1 < 5) ∧ ma_wp 47 21 [(2, 0), (0, x1), (0, x2)] [] mr_SH (ma_up M 55 y1 y0) Q := by
  rw [x47_20, ml_55]
theorem s59_5 (x1 : Int) (y0 : Int) (M : ma_M) (Q : Option ma_V → ma_S → ma_M → Prop) : ma_wp 59 5 [(2, 0), (0, x1)] [(0, y0)] mr_SH M Q ↔ ma_wp 59 6 [(2, 0), (0, x1)] [(2, 0), (0, y0)] mr_SH M Q := by
  rw [x59_5]
  exact ⟨fun h => h.2, fun h => ⟨by decide, h⟩⟩
theorem s59_6 (x1 : Int) (y1 : Int) (M : ma_M) (Q : Option ma_V → ma_S → ma_M → Prop) : ma_wp 59 6 [(2, 0), (0, x1)] [(2, 0), (0, y1)] mr_SH M Q ↔ ma_wp 59 9 [(2, 0), (0, x1)] [(0, M 0 15), (0, y1)] mr_SH M Q := by
  rw [x59_6, ml_0]
  exact ⟨fun h => h.2, fun h => ⟨by decide, h⟩⟩
theorem s59_17 (x1 : Int) (M : ma_M) (Q : Option ma_V → ma_S → ma_M → Prop) : ma_wp 59 17 [(2, 0), (0, x1)] [] mr_SH M Q ↔ ma_wp 59 18 [(2, 0), (0, x1)] [(2, 0)] mr_SH M Q := by
  rw [x59_17]
  exact ⟨fun h => h.2, fun h => ⟨by decide, h⟩⟩
theorem s59_18 (x1 : Int) (M : ma_M) (Q : Option ma_V → ma_S → ma_M → Prop) (hF : mr_FIX M) : ma_wp 59 18 [(2, 0), (0, x1)] [(2, 0)] mr_SH M Q ↔ ma_wp 59 21 [(2, 0), (0, x1)] [(2, 78)] mr_SH M Q := by
  rw [x59_18, mf_0_13 hF, ml_0]
  exact ⟨fun h => h.2, fun h => ⟨by decide, h⟩⟩
theorem s59_22 (x1 : Int) (y0 : Int) (M : ma_M) (Q : Option ma_V → ma_S → ma_M → Prop) : ma_wp 59 22 [(2, 0), (0, x1)] [(0, y0), (2, 78)] mr_SH M Q ↔ (0 ≤ y0 ∧ y0 < 5) ∧ ma_wp 59 23 [(2, 0), (0, x1)] [(0, M 78 y0)] mr_SH M Q := by
  rw [x59_22, ml_78]
theorem s60_5 (x1 : Int) (y0 : Int) (M : ma_M) (Q : Option ma_V → ma_S → ma_M → Prop) : ma_wp 60 5 [(2, 0), (0, x1)] [(0, y0)] mr_SH M Q ↔ ma_wp 60 6 [(2, 0), (0, x1)] [(2, 0), (0, y0)] mr_SH M Q := by
  rw [x60_5]
  exact ⟨fun h => h.2, fun h => ⟨by decide, h⟩⟩
theorem s60_6 (x1 : Int) (y1 : Int) (M : ma_M) (Q : Option ma_V → ma_S → ma_M → Prop) : ma_wp 60 6 [(2, 0), (0, x1)] [(2, 0), (0, y1)] mr_SH M Q ↔ ma_wp 60 9 [(2, 0), (0, x1)] [(0, M 0 15), (0, y1)] mr_SH M Q := by
  rw [x60_6, ml_0]
  exact ⟨fun h => h.2, fun h => ⟨by decide, h⟩⟩
theorem s60_17 (x1 : Int) (M : ma_M) (Q : Option ma_V → ma_S → ma_M → Prop) : ma_wp 60 17 [(2, 0), (0, x1)] [] mr_SH M Q ↔ ma_wp 60 18 [(2, 0), (0, x1)] [(2, 0)] mr_SH M Q := by
  rw [x60_17]
  exact ⟨fun h => h.2, fun h => ⟨by decide, h⟩⟩
theorem s60_18 (x1 : Int) (M : ma_M) (Q : Option ma_V → ma_S → ma_M → Prop) (hF : mr_FIX M) : ma_wp 60 18 [(2, 0), (0, x1)] [(2, 0)] mr_SH M Q ↔ ma_wp 60 21 [(2, 0), (0, x1)] [(2, 79)] mr_SH M Q := by
  rw [x60_18, mf_0_14 hF, ml_0]
  exact ⟨fun h => h.2, fun h => ⟨by decide, h⟩⟩
theorem s60_22 (x1 : Int) (y0 : Int) (M : ma_M) (Q : Option ma_V → ma_S → ma_M → Prop) : ma_wp 60 22 [(2, 0), (0, x1)] [(0, y0), (2, 79)] mr_SH M Q ↔ (0 ≤ y0 ∧ y0 < 5) ∧ ma_wp 60 23 [(2, 0), (0, x1)] [(0, M 79 y0)] mr_SH M Q := by
  rw [x60_22, ml_79]
theorem s61_5 (x1 : Int) (y0 : Int) (M : ma_M) (Q : Option ma_V → ma_S → ma_M → Prop) : ma_wp 61 5 [(2, 0), (0, x1)] [(0, y0)] mr_SH M Q ↔ ma_wp 61 6 [(2, 0), (0, x1)] [(2, 0), (0, y0)] mr_SH M Q := by
  rw [x61_5]
  exact ⟨fun h => h.2, fun h => ⟨by decide, h⟩⟩
theorem s61_6 (x1 : Int) (y1 : Int) (M : ma_M) (Q : Option ma_V → ma_S → ma_M → Prop) : ma_wp 61 6 [(2, 0), (0, x1)] [(2, 0), (0, y1)] mr_SH M Q ↔ ma_wp 61 9 [(2, 0), (0, x1)] [(0, M 0 11), (0, y1)] mr_SH M Q := by
  rw [x61_6, ml_0]
  exact ⟨fun h => h.2, fun h => ⟨by decide, h⟩⟩
theorem s74_5 (x1 : Int) (y0 : Int) (M : ma_M) (Q : Option ma_V → ma_S → ma_M → Prop) : ma_wp 74 5 [(2, 80), (0, x1)] [(0, y0)] mr_SH M Q ↔ ma_wp 74 6 [(2, 80), (0, x1)] [(2, 80), (0, y0)] mr_SH M Q := by
  rw [x74_5]
  exact ⟨fun h => h.2, fun h => ⟨by decide, h⟩⟩
theorem s74_6 (x1 : Int) (y1 : Int) (M : ma_M) (Q : Option ma_V → ma_S → ma_M → Prop) : ma_wp 74 6 [(2, 80), (0, x1)] [(2, 80), (0, y1)] mr_SH M Q ↔ ma_wp 74 9 [(2, 80), (0, x1)] [(0, M 80 0), (0, y1)] mr_SH M Q := by
  rw [x74_6, ml_80]
  exact ⟨fun h => h.2, fun h => ⟨by decide, h⟩⟩
theorem s75_5 (x1 : Int) (y0 : Int) (M : ma_M) (Q : Option ma_V → ma_S → ma_M → Prop) : ma_wp 75 5 [(2, 80), (0, x1)] [(0, y0)] mr_SH M Q ↔ ma_wp 75 6 [(2, 80), (0, x1)] [(2, 80), (0, y0)] mr_SH M Q := by
  rw [x75_5]
  exact ⟨fun h => h.2, fun h => ⟨by decide, h⟩⟩
theorem s75_6 (x1 : Int) (y1 : Int) (M : ma_M) (Q : Option ma_V → ma_S → ma_M → Prop) : ma_wp 75 6 [(2, 80), (0, x1)] [(2, 80), (0, y1)] mr_SH M Q ↔ ma_wp 75 9 [(2, 80), (0, x1)] [(0, M 80 5), (0, y1)] mr_SH M Q := by
  rw [x75_6, ml_80]
  exact ⟨fun h => h.2, fun h => ⟨by decide, h⟩⟩
theorem s76_5 (x1 : Int) (y0 : Int) (M : ma_M) (Q : Option ma_V → ma_S → ma_M → Prop) : ma_wp 76 5 [(2, 80), (0, x1)] [(0, y0)] mr_SH M Q ↔ ma_wp 76 6 [(2, 80), (0, x1)] [(2, 80), (0, y0)] mr_SH M Q := by
  rw [x76_5]
  exact ⟨fun h => h.2, fun h => ⟨by decide, h⟩⟩
theorem s76_6 (x1 : Int) (y1 : Int) (M : ma_M) (Q : Option ma_V → ma_S → ma_M → Prop) : ma_wp 76 6 [(2, 80), (0, x1)] [(2, 80), (0, y1)] mr_SH M Q ↔ ma_wp 76 9 [(2, 80), (0, x1)] [(0, M 80 9), (0, y1)] mr_SH M Q := by
  rw [x76_6, ml_80]
  exact ⟨fun h => h.2, fun h => ⟨by decide, h⟩⟩
theorem s77_0 (x1 : Int) (x2 : Int) (x3 : Int) (x4 : Int) (x5 : Int) (M : ma_M) (Q : Option ma_V → ma_S → ma_M → Prop) : ma_wp 77 0 [(2, 80), (0, x1), (0, x2), (0, x3), (1, x4), (3, x5)] [] mr_SH M Q ↔ ma_wp 77 1 [(2, 80), (0, x1), (0, x2), (0, x3), (1, x4), (3, x5)] [(2, 80)] mr_SH M Q := by
  rw [x77_0]
  exact ⟨fun h => h.2, fun h => ⟨by decide, h⟩⟩
theorem s77_1 (x1 : Int) (x2 : Int) (x3 : Int) (x4 : Int) (x5 : Int) (M : ma_M) (Q : Option ma_V → ma_S → ma_M → Prop) (hF : mr_FIX M) : ma_wp 77 1 [(2, 80), (0, x1), (0, x2), (0, x3), (1, x4), (3, x5)] [(2, 80)] mr_SH M Q ↔ ma_wp 77 4 [(2, 80), (0, x1), (0, x2), (0, x3), (1, x4), (3, x5)] [(2, 81)] mr_SH M Q := by
  rw [x77_1, mf_80_1 hF, ml_80]
  exact ⟨fun h => h.2, fun h => ⟨by decide, h⟩⟩
theorem s77_4 (x1 : Int) (x2 : Int) (x3 : Int) (x4 : Int) (x5 : Int) (M : ma_M) (Q : Option ma_V → ma_S → ma_M → Prop) : ma_wp 77 4 [(2, 80), (0, x1), (0, x2), (0, x3), (1, x4), (3, x5)] [(2, 81)] mr_SH M Q ↔ ma_wp 77 5 [(2, 80), (0, x1), (0, x2), (0, x3), (1, x4), (3, x5)] [(2, 80), (2, 81)] mr_SH M Q := by
  rw [x77_4]
  exact ⟨fun h => h.2, fun h => ⟨by decide, h⟩⟩
theorem s77_5 (x1 : Int) (x2 : Int) (x3 : Int) (x4 : Int) (x5 : Int) (M : ma_M) (Q : Option ma_V → ma_S → ma_M → Prop) : ma_wp 77 5 [(2, 80), (0, x1), (0, x2), (0, x3), (1, x4), (3, x5)] [(2, 80), (2, 81)] mr_SH M Q ↔ ma_wp 77 8 [(2, 80), (0, x1), (0, x2), (0, x3), (1, x4), (3, x5)] [(0, M 80 0), (2, 81)] mr_SH M Q := by
  rw [x77_5, ml_80]
  exact ⟨fun h => h.2, fun h => ⟨by decide, h⟩⟩
theorem s77_9 (x1 : Int) (x2 : Int) (x3 : Int) (x4 : Int) (x5 : Int) (y0 : Int) (y1 : Int) (M : ma_M) (Q : Option ma_V → ma_S → ma_M → Prop) : ma_wp 77 9 [(2, 80), (0, x1), (0, x2), (0, x3), (1, x4), (3, x5)] [(0, y0), (0, y1), (2, 81)] mr_SH M Q ↔ (0 ≤ y1 ∧ y1 < 24) ∧ ma_wp 77 10 [(2, 80), (0, x1), (0, x2), (0, x3), (1, x4), (3, x5)] [] mr_SH (ma_up M 81 y1 y0) Q := by
  rw [x77_9, ml_81]
theorem s77_10 (x1 : Int) (x2 : Int) (x3 : Int) (x4 : Int) (x5 : Int) (M : ma_M) (Q : Option ma_V → ma_S → ma_M → Prop) : ma_wp 77 10 [(2, 80), (0, x1), (0, x2), (0, x3), (1, x4), (3, x5)] [] mr_SH M Q ↔ ma_wp 77 11 [(2, 80), (0, x1), (0, x2), (0, x3), (1, x4), (3, x5)] [(2, 80)] mr_SH M Q := by
  rw [x77_10]
  exact ⟨fun h => h.2, fun h => ⟨by decide, h⟩⟩
theorem s77_11 (x1 : Int) (x2 : Int) (x3 : Int) (x4 : Int) (x5 : Int) (M : ma_M) (Q : Option ma_V → ma_S → ma_M → Prop) (hF : mr_FIX M) : ma_wp 77 11 [(2, 80), (0, x1), (0, x2), (0, x3), (1, x4), (3, x5)] [(2, 80)] mr_SH M Q ↔ ma_wp 77 14 [(2, 80), (0, x1), (0, x2), (0, x3), (1, x4), (3, x5)] [(2, 82)] mr_SH M Q := by
  rw [x77_11, mf_80_2 hF, ml_80]
  exact ⟨fun h => h.2, fun h => ⟨by decide, h⟩⟩
theorem s77_14 (x1 : Int) (x2 : Int) (x3 : Int) (x4 : Int) (x5 : Int) (M : ma_M) (Q : Option ma_V → ma_S → ma_M → Prop) : ma_wp 77 14 [(2, 80), (0, x1), (0, x2), (0, x3), (1, x4), (3, x5)] [(2, 82)] mr_SH M Q ↔ ma_wp 77 15 [(2, 80), (0, x1), (0, x2), (0, x3), (1, x4), (3, x5)] [(2, 80), (2, 82)] mr_SH M Q := by
  rw [x77_14]
  exact ⟨fun h => h.2, fun h => ⟨by decide, h⟩⟩
theorem s77_15 (x1 : Int) (x2 : Int) (x3 : Int) (x4 : Int) (x5 : Int) (M : ma_M) (Q : Option ma_V → ma_S → ma_M → Prop) : ma_wp 77 15 [(2, 80), (0, x1), (0, x2), (0, x3), (1, x4), (3, x5)] [(2, 80), (2, 82)] mr_SH M Q ↔ ma_wp 77 18 [(2, 80), (0, x1), (0, x2), (0, x3), (1, x4), (3, x5)] [(0, M 80 0), (2, 82)] mr_SH M Q := by
  rw [x77_15, ml_80]
  exact ⟨fun h => h.2, fun h => ⟨by decide, h⟩⟩
theorem s77_19 (x1 : Int) (x2 : Int) (x3 : Int) (x4 : Int) (x5 : Int) (y0 : Int) (y1 : Int) (M : ma_M) (Q : Option ma_V → ma_S → ma_M → Prop) : ma_wp 77 19 [(2, 80), (0, x1), (0, x2), (0, x3), (1, x4), (3, x5)] [(0, y0), (0, y1), (2, 82)] mr_SH M Q ↔ (0 ≤ y1 ∧ y1 < 24) ∧ ma_wp 77 20 [(2, 80), (0, x1), (0, x2), (0, x3), (1, x4), (3, x5)] [] mr_SH (ma_up M 82 y1 y0) Q := by
  rw [x77_19, ml_82]
theorem s77_20 (x1 : Int) (x2 : Int) (x3 : Int) (x4 : Int) (x5 : Int) (M : ma_M) (Q : Option ma_V → ma_S → ma_M → Prop) : ma_wp 77 20 [(2, 80), (0, x1), (0, x2), (0, x3), (1, x4), (3, x5)] [] mr_SH M Q ↔ ma_wp 77 21 [(2, 80), (0, x1), (0, x2), (0, x3), (1, x4), (3, x5)] [(2, 80)] mr_SH M Q := by
  rw [x77_20]
  exact ⟨fun h => h.2, fun h => ⟨by decide, h⟩⟩
theorem s77_21 (x1 : Int) (x2 : Int) (x3 : Int) (x4 : Int) (x5 : Int) (M : ma_M) (Q : Option ma_V → ma_S → ma_M → Prop) (hF : mr_FIX M) : ma_wp 77 21 [(2, 80), (0, x1), (0, x2), (0, x3), (1, x4), (3, x5)] [(2, 80)] mr_SH M Q ↔ ma_wp 77 24 [(2, 80), (0, x1), (0, x2), (0, x3), (1, x4), (3, x5)] [(2, 83)] mr_SH M Q := by
  rw [x77_21, mf_80_3 hF, ml_80]
  exact ⟨fun h => h.2, fun h => ⟨by decide, h⟩⟩
theorem s77_24 (x1 : Int) (x2 : Int) (x3 : Int) (x4 : Int) (x5 : Int) (M : ma_M) (Q : Option ma_V → ma_S → ma_M → Prop) : ma_wp 77 24 [(2, 80), (0, x1), (0, x2), (0, x3), (1, x4), (3, x5)] [(2, 83)] mr_SH M Q ↔ ma_wp 77 25 [(2, 80), (0, x1), (0, x2), (0, x3), (1, x4), (3, x5)] [(2, 80), (2, 83)] mr_SH M Q := by
  rw [x77_24]
  exact ⟨fun h => h.2, fun h => ⟨by decide, h⟩⟩
theorem s77_25 (x1 : Int) (x2 : Int) (x3 : Int) (x4 : Int) (x5 : Int) (M : ma_M) (Q : Option ma_V → ma_S → ma_M → Prop) : ma_wp 77 25 [(2, 80), (0, x1), (0, x2), (0, x3), (1, x4), (3, x5)] [(2, 80), (2, 83)] mr_SH M Q ↔ ma_wp 77 28 [(2, 80), (0, x1), (0, x2), (0, x3), (1, x4), (3, x5)] [(0, M 80 0), (2, 83)] mr_SH M Q := by
  rw [x77_25, ml_80]
  exact ⟨fun h => h.2, fun h => ⟨by decide, h⟩⟩
theorem s77_29 (x1 : Int) (x2 : Int) (x3 : Int) (x4 : Int) (x5 : Int) (y0 : Int) (y1 : Int) (M : ma_M) (Q : Option ma_V → ma_S → ma_M → Prop) : ma_wp 77 29 [(2, 80), (0, x1), (0, x2), (0, x3), (1, x4), (3, x5)] [(0, y0), (0, y1), (2, 83)] mr_SH M Q ↔ (0 ≤ y1 ∧ y1 < 24) ∧ ma_wp 77 30 [(2, 80), (0, x1), (0, x2), (0, x3), (1, x4), (3, x5)] [] mr_SH (ma_up M 83 y1 y0) Q := by
  rw [x77_29, ml_83]
theorem s77_30 (x1 : Int) (x2 : Int) (x3 : Int) (x4 : Int) (x5 : Int) (M : ma_M) (Q : Option ma_V → ma_S → ma_M → Prop) : ma_wp 77 30 [(2, 80), (0, x1), (0, x2), (0, x3), (1, x4), (3, x5)] [] mr_SH M Q ↔ ma_wp 77 31 [(2, 80), (0, x1), (0, x2), (0, x3), (1, x4), (3, x5)] [(2, 80)] mr_SH M Q := by
  rw [x77_30]
  exact ⟨fun h => h.2, fun h => ⟨by decide, h⟩⟩
theorem s77_31 (x1 : Int) (x2 : Int) (x3 : Int) (x4 : Int) (x5 : Int) (M : ma_M) (Q : Option ma_V → ma_S → ma_M → Prop) (hF : mr_FIX M) : ma_wp 77 31 [(2, 80), (0, x1), (0, x2), (0, x3), (1, x4), (3, x5)] [(2, 80)] mr_SH M Q ↔ ma_wp 77 34 [(2, 80), (0, x1), (0, x2), (0, x3), (1, x4), (3, x5)] [(2, 84)] mr_SH M Q := by
  rw [x77_31, mf_80_4 hF, ml_80]
  exact ⟨fun h => h.2, fun h => ⟨by decide, h⟩⟩
theorem s77_34 (x1 : Int) (x2 : Int) (x3 : Int) (x4 : Int) (x5 : Int) (M : ma_M) (Q : Option ma_V → ma_S → ma_M → Prop) : ma_wp 77 34 [(2, 80), (0, x1), (0, x2), (0, x3), (1, x4), (3, x5)] [(2, 84)] mr_SH M Q ↔ ma_wp 77 35 [(2, 80), (0, x1), (0, x2), (0, x3), (1, x4), (3, x5)] [(2, 80), (2, 84)] mr_SH M Q := by
  rw [x77_34]
  exact ⟨fun h => h.2, fun h => ⟨by decide, h⟩⟩
theorem s77_35 (x1 : Int) (x2 : Int) (x3 : Int) (x4 : Int) (x5 : Int) (M : ma_M) (Q : Option ma_V → ma_S → ma_M → Prop) : ma_wp 77 35 [(2, 80), (0, x1), (0, x2), (0, x3), (1, x4), (3, x5)] [(2, 80), (2, 84)] mr_SH M Q ↔ ma_wp 77 38 [(2, 80), (0, x1), (0, x2), (0, x3), (1, x4), (3, x5)] [(0, M 80 0), (2, 84)] mr_SH M Q := by
  rw [x77_35, ml_80]
  exact ⟨fun h => h.2, fun h => ⟨by decide, h⟩⟩
theorem s77_40 (x1 : Int) (x2 : Int) (x3 : Int) (x4 : Int) (x5 : Int) (y0 : Int) (y1 : Int) (M : ma_M) (Q : Option ma_V → ma_S → ma_M → Prop) : ma_wp 77 40 [(2, 80), (0, x1), (0, x2), (0, x3), (1, x4), (3, x5)] [(1, y0), (0, y1), (2, 84)] mr_SH M Q ↔ (0 ≤ y1 ∧ y1 < 24) ∧ ma_wp 77 41 [(2, 80), (0, x1), (0, x2), (0, x3), (1, x4), (3, x5)] [] mr_SH (ma_up M 84 y1 y0) Q := by
  rw [x77_40, ml_84]
theorem s77_41 (x1 : Int) (x2 : Int) (x3 : Int) (x4 : Int) (x5 : Int) (M : ma_M) (Q : Option ma_V → ma_S → ma_M → Prop) : ma_wp 77 41 [(2, 80), (0, x1), (0, x2), (0, x3), (1, x4), (3, x5)] [] mr_SH M Q ↔ ma_wp 77 42 [(2, 80), (0, x1), (0, x2), (0, x3), (1, x4), (3, x5)] [(2, 80)] mr_SH M Q := by
  rw [x77_41]
  exact ⟨fun h => h.2, fun h => ⟨by decide, h⟩⟩
theorem s77_43 (x1 : Int) (x2 : Int) (x3 : Int) (x4 : Int) (x5 : Int) (M : ma_M) (Q : Option ma_V → ma_S → ma_M → Prop) : ma_wp 77 43 [(2, 80), (0, x1), (0, x2), (0, x3), (1, x4), (3, x5)] [(2, 80), (2, 80)] mr_SH M Q ↔ ma_wp 77 46 [(2, 80), (0, x1), (0, x2), (0, x3), (1, x4), (3, x5)] [(0, M 80 0), (2, 80)] mr_SH M Q := by
  rw [x77_43, ml_80]
  exact ⟨fun h => h.2, fun h => ⟨by decide, h⟩⟩
theorem s77_48 (x1 : Int) (x2 : Int) (x3 : Int) (x4 : Int) (x5 : Int) (y0 : Int) (M : ma_M) (Q : Option ma_V → ma_S → ma_M → Prop) : ma_wp 77 48 [(2, 80), (0, x1), (0, x2), (0, x3), (1, x4), (3, x5)] [(0, y0), (2, 80)] mr_SH M Q ↔ ma_wp 77 51 [(2, 80), (0, x1), (0, x2), (0, x3), (1, x4), (3, x5)] [] mr_SH (ma_up M 80 0 y0) Q := by
  rw [x77_48, ml_80]
  exact ⟨fun h => h.2, fun h => ⟨by decide, h⟩⟩
theorem s77_51 (x1 : Int) (x2 : Int) (x3 : Int) (x4 : Int) (x5 : Int) (M : ma_M) (Q : Option ma_V → ma_S → ma_M → Prop) : ma_wp 77 51 [(2, 80), (0, x1), (0, x2), (0, x3), (1, x4), (3, x5)] [] mr_SH M Q ↔ ma_wp 77 52 [(2, 80), (0, x1), (0, x2), (0, x3), (1, x4), (3, x5)] [(2, 80)] mr_SH M Q := by
  rw [x77_51]
  exact ⟨fun h => h.2, fun h => ⟨by decide, h⟩⟩
theorem s77_52 (x1 : Int) (x2 : Int) (x3 : Int) (x4 : Int) (x5 : Int) (M : ma_M) (Q : Option ma_V → ma_S → ma_M → Prop) : ma_wp 77 52 [(2, 80), (0, x1), (0, x2), (0, x3), (1, x4), (3, x5)] [(2, 80)] mr_SH M Q ↔ ma_wp 77 55 [(2, 80), (0, x1), (0, x2), (0, x3), (1, x4), (3, x5)] [(0, M 80 0)] mr_SH M Q := by
  rw [x77_52, ml_80]
  exact ⟨fun h => h.2, fun h => ⟨by decide, h⟩⟩
theorem s78_0  (M : ma_M) (Q : Option ma_V → ma_S → ma_M → Prop) : ma_wp 78 0 [(2, 80)] [] mr_SH M Q ↔ ma_wp 78 1 [(2, 80)] [(2, 80)] mr_SH M Q := by
  rw [x78_0]
  exact ⟨fun h => h.2, fun h => ⟨by decide, h⟩⟩
theorem s78_1  (M : ma_M) (Q : Option ma_V → ma_S → ma_M → Prop) : ma_wp 78 1 [(2, 80)] [(2, 80)] mr_SH M Q ↔ ma_wp 78 4 [(2, 80)] [(0, M 80 0)] mr_SH M Q := by
  rw [x78_1, ml_80]
  exact ⟨fun h => h.2, fun h => ⟨by decide, h⟩⟩
theorem s78_9  (M : ma_M) (Q : Option ma_V → ma_S → ma_M → Prop) : ma_wp 78 9 [(2, 80)] [] mr_SH M Q ↔ ma_wp 78 10 [(2, 80)] [(2, 80)] mr_SH M Q := by
  rw [x78_9]
  exact ⟨fun h => h.2, fun h => ⟨by decide, h⟩⟩
theorem s78_10  (M : ma_M) (Q : Option ma_V → ma_S → ma_M → Prop) : ma_wp 78 10 [(2, 80)] [(2, 80)] mr_SH M Q ↔ ma_wp 78 13 [(2, 80)] [(0, M 80 5)] mr_SH M Q := by
  rw [x78_10, ml_80]
  exact ⟨fun h => h.2, fun h => ⟨by decide, h⟩⟩
theorem s78_20  (M : ma_M) (Q : Option ma_V → ma_S → ma_M → Prop) : ma_wp 78 20 [(2, 80)] [] mr_SH M Q ↔ ma_wp 78 21 [(2, 80)] [(2, 80)] mr_SH M Q := by
  rw [x78_20]
  exact ⟨fun h => h.2, fun h => ⟨by decide, h⟩⟩
theorem s78_21  (M : ma_M) (Q : Option ma_V → ma_S → ma_M → Prop) (hF : mr_FIX M) : ma_wp 78 21 [(2, 80)] [(2, 80)] mr_SH M Q ↔ ma_wp 78 24 [(2, 80)] [(2, 85)] mr_SH M Q := by
  rw [x78_21, mf_80_6 hF, ml_80]
  exact ⟨fun h => h.2, fun h => ⟨by decide, h⟩⟩
theorem s78_24  (M : ma_M) (Q : Option ma_V → ma_S → ma_M → Prop) : ma_wp 78 24 [(2, 80)] [(2, 85)] mr_SH M Q ↔ ma_wp 78 25 [(2, 80)] [(2, 80), (2, 85)] mr_SH M Q := by
  rw [x78_24]
  exact ⟨fun h => h.2, fun h => ⟨by decide, h⟩⟩
theorem s78_25  (M : ma_M) (Q : Option ma_V → ma_S → ma_M → Prop) : ma_wp 78 25 [(2, 80)] [(2, 80), (2, 85)] mr_SH M Q ↔ ma_wp 78 28 [(2, 80)] [(0, M 80 5), (2, 85)] mr_SH M Q := by
  rw [x78_25, ml_80]
  exact ⟨fun h => h.2, fun h => ⟨by decide, h⟩⟩
theorem s78_28 (y0 : Int) (M : ma_M) (Q : Option ma_V → ma_S → ma_M → Prop) : ma_wp 78 28 [(2, 80)] [(0, y0), (2, 85)] mr_SH M Q ↔ ma_wp 78 29 [(2, 80)] [(2, 80), (0, y0), (2, 85)] mr_SH M Q := by
  rw [x78_28]
  exact ⟨fun h => h.2, fun h => ⟨by decide, h⟩⟩
theorem s78_29 (y1 : Int) (M : ma_M) (Q : Option ma_V → ma_S → ma_M → Prop) : ma_wp 78 29 [(2, 80)] [(2, 80), (0, y1), (2, 85)] mr_SH M Q ↔ ma_wp 78 32 [(2, 80)] [(0, M 80 0), (0, y1), (2, 85)] mr_SH M Q := by
  rw [x78_29, ml_80]
  exact ⟨fun h => h.2, fun h => ⟨by decide, h⟩⟩
theorem s78_32 (y0 : Int) (y1 : Int) (M : ma_M) (Q : Option ma_V → ma_S → ma_M → Prop) : ma_wp 78 32 [(2, 80)] [(0, y0), (0, y1), (2, 85)] mr_SH M Q ↔ (0 ≤ y1 ∧ y1 < 5) ∧ ma_wp 78 33 [(2, 80)] [] mr_SH (ma_up M 85 y1 y0) Q := by
  rw [x78_32, ml_85]
theorem s78_33  (M : ma_M) (Q : Option ma_V → ma_S → ma_M → Prop) : ma_wp 78 33 [(2, 80)] [] mr_SH M Q ↔ ma_wp 78 34 [(2, 80)] [(2, 80)] mr_SH M Q := by
  rw [x78_33]
  exact ⟨fun h => h.2, fun h => ⟨by decide, h⟩⟩
theorem s78_35  (M : ma_M) (Q : Option ma_V → ma_S → ma_M → Prop) : ma_wp 78 35 [(2, 80)] [(2, 80), (2, 80)] mr_SH M Q ↔ ma_wp 78 38 [(2, 80)] [(0, M 80 5), (2, 80)] mr_SH M Q := by
  rw [x78_35, ml_80]
  exact ⟨fun h => h.2, fun h => ⟨by decide, h⟩⟩
theorem s78_40 (y0 : Int) (M : ma_M) (Q : Option ma_V → ma_S → ma_M → Prop) : ma_wp 78 40 [(2, 80)] [(0, y0), (2, 80)] mr_SH M Q ↔ ma_wp 78 43 [(2, 80)] [] mr_SH (ma_up M 80 5 y0) Q := by
  rw [x78_40, ml_80]
  exact ⟨fun h => h.2, fun h => ⟨by decide, h⟩⟩
theorem s78_43  (M : ma_M) (Q : Option ma_V → ma_S → ma_M → Prop) : ma_wp 78 43 [(2, 80)] [] mr_SH M Q ↔ ma_wp 78 44 [(2, 80)] [(2, 80)] mr_SH M Q := by
  rw [x78_43]
  exact ⟨fun h => h.2, fun h => ⟨by decide, h⟩⟩
theorem s78_46 (y0 : Int) (M : ma_M) (Q : Option ma_V → ma_S → ma_M → Prop) : ma_wp 78 46 [(2, 80)] [(0, y0), (2, 80)] mr_SH M Q ↔ ma_wp 78 47 [(2, 80)] [(2, 80), (0, y0), (2, 80)] mr_SH M Q := by
  rw [x78_46]
  exact ⟨fun h => h.2, fun h => ⟨by decide, h⟩⟩
theorem s78_47 (y1 : Int) (M : ma_M) (Q : Option ma_V → ma_S → ma_M → Prop) : ma_wp 78 47 [(2, 80)] [(2, 80), (0, y1), (2, 80)] mr_SH M Q ↔ ma_wp 78 50 [(2, 80)] [(0, M 80 5), (0, y1), (2, 80)] mr_SH M Q := by
  rw [x78_47, ml_80]
  exact ⟨fun h => h.2, fun h => ⟨by decide, h⟩⟩
theorem s78_54 (y0 : Int) (y1 : Int) (y2 : Int) (y3 : Int) (M : ma_M) (Q : Option ma_V → ma_S → ma_M → Prop) : ma_wp 78 54 [(2, 80)] [(1, y0), (0, y1), (0, y2), (0, y3), (2, 80)] mr_SH M Q ↔ mr_do 77 [(2, 80), (0, y3), (0, y2), (0, y1), (1, y0)] mr_SH M (fun r sh M => ma_wp 78 57 [(2, 80)] (r.toList ++ []) sh M Q) := by
  rw [x78_54, ml_80]
  exact ⟨fun h => h.2, fun h => ⟨by decide, h⟩⟩
theorem s79_0 (x1 : Int) (M : ma_M) (Q : Option ma_V → ma_S → ma_M → Prop) : ma_wp 79 0 [(2, 80), (0, x1)] [] mr_SH M Q ↔ ma_wp 79 1 [(2, 80), (0, x1)] [(2, 80)] mr_SH M Q := by
  rw [x79_0]
  exact ⟨fun h => h.2, fun h => ⟨by decide, h⟩⟩
theorem s79_1 (x1 : Int) (M : ma_M) (Q : Option ma_V → ma_S → ma_M → Prop) : ma_wp 79 1 [(2, 80), (0, x1)] [(2, 80)] mr_SH M Q ↔ ma_wp 79 4 [(2, 80), (0, x1)] [(0, M 80 0)] mr_SH M Q := by
  rw [x79_1, ml_80]
  exact ⟨fun h => h.2, fun h => ⟨by decide, h⟩⟩
theorem s79_14 (x1 : Int) (M : ma_M) (Q : Option ma_V → ma_S → ma_M → Prop) : ma_wp 79 14 [(2, 80), (0, x1)] [] mr_SH M Q ↔ ma_wp 79 15 [(2, 80), (0, x1)] [(2, 80)] mr_SH M Q := by
  rw [x79_14]
  exact ⟨fun h => h.2, fun h => ⟨by decide, h⟩⟩
theorem s79_23 (x1 : Int) (y0 : Int) (y1 : Int) (y2 : Int) (y3 : Int) (M : ma_M) (Q : Option ma_V → ma_S → ma_M → Prop) : ma_wp 79 23 [(2, 80), (0, x1)] [(1, y0), (0, y1), (0, y2), (0, y3), (2, 80)] mr_SH M Q ↔ mr_do 77 [(2, 80), (0, y3), (0, y2), (0, y1), (1, y0)] mr_SH M (fun r sh M => ma_wp 79 26 [(2, 80), (0, x1)] (r.toList ++ []) sh M Q) := by
  rw [x79_23, ml_80]
  exact ⟨fun h => h.2, fun h => ⟨by decide, h⟩⟩
theorem s80_24 (x1 : Int) (x2 : Int) (x3 : Int) (x4 : Int) (M : ma_M) (Q : Option ma_V → ma_S → ma_M → Prop) : ma_wp 80 24 [(2, 80), (0, x1), (0, x2), (0, x3), (3, x4)] [] mr_SH M Q ↔ ma_wp 80 25 [(2, 80), (0, x1), (0, x2), (0, x3), (3, x4)] [(2, 80)] mr_SH M Q := by
  rw [x80_24]
  exact ⟨fun h => h.2, fun h => ⟨by decide, h⟩⟩
theorem s80_26 (x1 : Int) (x2 : Int) (x3 : Int) (x4 : Int) (y0 : Int) (M : ma_M) (Q : Option ma_V → ma_S → ma_M → Prop) : ma_wp 80 26 [(2, 80), (0, x1), (0, x2), (0, x3), (3, x4)] [(0, y0), (2, 80)] mr_SH M Q ↔ mr_do 74 [(2, 80), (0, y0)] mr_SH M (fun r sh M => ma_wp 80 29 [(2, 80), (0, x1), (0, x2), (0, x3), (3, x4)] (r.toList ++ []) sh M Q) := by
  rw [x80_26, ml_80]
  exact ⟨fun h => h.2, fun h => ⟨by decide, h⟩⟩
theorem s80_41 (x1 : Int) (x2 : Int) (x3 : Int) (x4 : Int) (M : ma_M) (Q : Option ma_V → ma_S → ma_M → Prop) : ma_wp 80 41 [(2, 80), (0, x1), (0, x2), (0, x3), (0, x4)] [] mr_SH M Q ↔ ma_wp 80 42 [(2, 80), (0, x1), (0, x2), (0, x3), (0, x4)] [(2, 80)] mr_SH M Q := by
  rw [x80_41]
  exact ⟨fun h => h.2, fun h => ⟨by decide, h⟩⟩
theorem s80_43 (x1 : Int) (x2 : Int) (x3 : Int) (x4 : Int) (y0 : Int) (M : ma_M) (Q : Option ma_V → ma_S → ma_M → Prop) : ma_wp 80 43 [(2, 80), (0, x1), (0, x2), (0, x3), (0, x4)] [(0, y0), (2, 80)] mr_SH M Q ↔ mr_do 74 [(2, 80), (0, y0)] mr_SH M (fun r sh M => ma_wp 80 46 [(2, 80), (0, x1), (0, x2), (0, x3), (0, x4)] (r.toList ++ []) sh M Q) := by
  rw [x80_43, ml_80]
  exact ⟨fun h => h.2, fun h => ⟨by decide, h⟩⟩
theorem s80_54 (x1 : Int) (x2 : Int) (x3 : Int) (x4 : Int) (M : ma_M) (Q : Option ma_V → ma_S → ma_M → Prop) : ma_wp 80 54 [(2, 80), (0, x1), (0, x2), (0, x3), (0, x4)] [] mr_SH M Q ↔ ma_wp 80 55 [(2, 80), (0, x1), (0, x2), (0, x3), (0, x4)] [(2, 80)] mr_SH M Q := by
  rw [x80_54]
  exact ⟨fun h => h.2, fun h => ⟨by decide, h⟩⟩
theorem s80_55 (x1 : Int) (x2 : Int) (x3 : Int) (x4 : Int) (M : ma_M) (Q : Option ma_V → ma_S → ma_M → Prop) : ma_wp 80 55 [(2, 80), (0, x1), (0, x2), (0, x3), (0, x4)] [(2, 80)] mr_SH M Q ↔ ma_wp 80 58 [(2, 80), (0, x1), (0, x2), (0, x3), (0, x4)] [(0, M 80 0)] mr_SH M Q := by
  rw [x80_55, ml_80]
  exact ⟨fun h => h.2, fun h => ⟨by decide, h⟩⟩
theorem s80_66 (x1 : Int) (x2 : Int) (x3 : Int) (x4 : Int) (M : ma_M) (Q : Option ma_V → ma_S → ma_M → Prop) : ma_wp 80 66 [(2, 80), (0, x1), (0, x2), (0, x3), (0, x4)] [] mr_SH M Q ↔ ma_wp 80 67 [(2, 80), (0, x1), (0, x2), (0, x3), (0, x4)] [(2, 80)] mr_SH M Q := by
  rw [x80_66]
  exact ⟨fun h => h.2, fun h => ⟨by decide, h⟩⟩
theorem s80_71 (x1 : Int) (x2 : Int) (x3 : Int) (x4 : Int) (y0 : Int) (y1 : Int) (y2 : Int) (y3 : Int) (M : ma_M) (Q : Option ma_V → ma_S → ma_M → Prop) : ma_wp 80 71 [(2, 80), (0, x1), (0, x2), (0, x3), (0, x4)] [(1, y0), (0, y1), (0, y2), (0, y3), (2, 80)] mr_SH M Q ↔ mr_do 77 [(2, 80), (0, y3), (0, y2), (0, y1), (1, y0)] mr_SH M (fun r sh M => ma_wp 80 74 [(2, 80), (0, x1), (0, x2), (0, x3), (0, x4)] (r.toList ++ []) sh M Q) := by
  rw [x80_71, ml_80]
  exact ⟨fun h => h.2, fun h => ⟨by decide, h⟩⟩
theorem s81_0 (x1 : Int) (M : ma_M) (Q : Option ma_V → ma_S → ma_M → Prop) : ma_wp 81 0 [(2, 80), (0, x1)] [] mr_SH M Q ↔ ma_wp 81 1 [(2, 80), (0, x1)] [(2, 80)] mr_SH M Q := by
  rw [x81_0]
  exact ⟨fun h => h.2, fun h => ⟨by decide, h⟩⟩
theorem s81_2 (x1 : Int) (y0 : Int) (M : ma_M) (Q : Option ma_V → ma_S → ma_M → Prop) : ma_wp 81 2 [(2, 80), (0, x1)] [(0, y0), (2, 80)] mr_SH M Q ↔ mr_do 74 [(2, 80), (0, y0)] mr_SH M (fun r sh M => ma_wp 81 5 [(2, 80), (0, x1)] (r.toList ++ []) sh M Q) := by
  rw [x81_2, ml_80]
  exact ⟨fun h => h.2, fun h => ⟨by decide, h⟩⟩
theorem s81_8 (x1 : Int) (M : ma_M) (Q : Option ma_V → ma_S → ma_M → Prop) : ma_wp 81 8 [(2, 80), (0, x1)] [] mr_SH M Q ↔ ma_wp 81 9 [(2, 80), (0, x1)] [(2, 80)] mr_SH M Q := by
  rw [x81_8]
  exact ⟨fun h => h.2, fun h => ⟨by decide, h⟩⟩
theorem s81_9 (x1 : Int) (M : ma_M) (Q : Option ma_V → ma_S → ma_M → Prop) : ma_wp 81 9 [(2, 80), (0, x1)] [(2, 80)] mr_SH M Q ↔ ma_wp 81 12 [(2, 80), (0, x1)] [(0, M 80 9)] mr_SH M Q := by
  rw [x81_9, ml_80]
  exact ⟨fun h => h.2, fun h => ⟨by decide, h⟩⟩
theorem s81_19 (x1 : Int) (M : ma_M) (Q : Option ma_V → ma_S → ma_M → Prop) : ma_wp 81 19 [(2, 80), (0, x1)] [] mr_SH M Q ↔ ma_wp 81 20 [(2, 80), (0, x1)] [(2, 80)] mr_SH M Q := by
  rw [x81_19]
  exact ⟨fun h => h.2, fun h => ⟨by decide, h⟩⟩
theorem s81_20 (x1 : Int) (M : ma_M) (Q : Option ma_V → ma_S → ma_M → Prop) (hF : mr_FIX M) : ma_wp 81 20 [(2, 80), (0, x1)] [(2, 80)] mr_SH M Q ↔ ma_wp 81 23 [(2, 80), (0, x1)] [(2, 88)] mr_SH M Q := by
  rw [x81_20, mf_80_10 hF, ml_80]
  exact ⟨fun h => h.2, fun h => ⟨by decide, h⟩⟩
theorem s81_23 (x1 : Int) (M : ma_M) (Q : Option ma_V → ma_S → ma_M → Prop) : ma_wp 81 23 [(2, 80), (0, x1)] [(2, 88)] mr_SH M Q ↔ ma_wp 81 24 [(2, 80), (0, x1)] [(2, 80), (2, 88)] mr_SH M Q := by
  rw [x81_23]
  exact ⟨fun h => h.2, fun h => ⟨by decide, h⟩⟩
theorem s81_24 (x1 : Int) (M : ma_M) (Q : Option ma_V → ma_S → ma_M → Prop) : ma_wp 81 24 [(2, 80), (0, x1)] [(2, 80), (2, 88)] mr_SH M Q ↔ ma_wp 81 27 [(2, 80), (0, x1)] [(0, M 80 9), (2, 88)] mr_SH M Q := by
  rw [x81_24, ml_80]
  exact ⟨fun h => h.2, fun h => ⟨by decide, h⟩⟩
theorem s81_28 (x1 : Int) (y0 : Int) (y1 : Int) (M : ma_M) (Q : Option ma_V → ma_S → ma_M → Prop) : ma_wp 81 28 [(2, 80), (0, x1)] [(0, y0), (0, y1), (2, 88)] mr_SH M Q ↔ (0 ≤ y1 ∧ y1 < 5) ∧ ma_wp 81 29 [(2, 80), (0, x1)] [] mr_SH (ma_up M 88 y1 y0) Q := by
  rw [x81_28, ml_88]
theorem s81_29 (x1 : Int) (M : ma_M) (Q : Option ma_V → ma_S → ma_M → Prop) : ma_wp 81 29 [(2, 80), (0, x1)] [] mr_SH M Q ↔ ma_wp 81 30 [(2, 80), (0, x1)] [(2, 80)] mr_SH M Q := by
  rw [x81_29]
  exact ⟨fun h => h.2, fun h => ⟨by decide, h⟩⟩
theorem s81_31 (x1 : Int) (M : ma_M) (Q : Option ma_V → ma_S → ma_M → Prop) : ma_wp 81 31 [(2, 80), (0, x1)] [(2, 80), (2, 80)] mr_SH M Q ↔ ma_wp 81 34 [(2, 80), (0, x1)] [(0, M 80 9), (2, 80)] mr_SH M Q := by
  rw [x81_31, ml_80]
  exact ⟨fun h => h.2, fun h => ⟨by decide, h⟩⟩
theorem s81_36 (x1 : Int) (y0 : Int) (M : ma_M) (Q : Option ma_V → ma_S → ma_M → Prop) : ma_wp 81 36 [(2, 80), (0, x1)] [(0, y0), (2, 80)] mr_SH M Q ↔ ma_wp 81 39 [(2, 80), (0, x1)] [] mr_SH (ma_up M 80 9 y0) Q := by
  rw [x81_36, ml_80]
  exact ⟨fun h => h.2, fun h => ⟨by decide, h⟩⟩
theorem s81_39 (x1 : Int) (M : ma_M) (Q : Option ma_V → ma_S → ma_M → Prop) : ma_wp 81 39 [(2, 80), (0, x1)] [] mr_SH M Q ↔ ma_wp 81 40 [(2, 80), (0, x1)] [(2, 80)] mr_SH M Q := by
  rw [x81_39]
  exact ⟨fun h => h.2, fun h => ⟨by decide, h⟩⟩
theorem s81_40 (x1 : Int) (M : ma_M) (Q : Option ma_V → ma_S → ma_M → Prop) : ma_wp 81 40 [(2, 80), (0, x1)] [(2, 80)] mr_SH M Q ↔ ma_wp 81 43 [(2, 80), (0, x1)] [(0, M 80 9)] mr_SH M Q := by
  rw [x81_40, ml_80]
  exact ⟨fun h => h.2, fun h => ⟨by decide, h⟩⟩
theorem s82_0 (x1 : Int) (x2 : Int) (M : ma_M) (Q : Option ma_V → ma_S → ma_M → Prop) : ma_wp 82 0 [(2, 80), (0, x1), (0, x2)] [] mr_SH M Q ↔ ma_wp 82 1 [(2, 80), (0, x1), (0, x2)] [(2, 80)] mr_SH M Q := by
  rw [x82_0]
  exact ⟨fun h => h.2, fun h => ⟨by decide, h⟩⟩
theorem s82_2 (x1 : Int) (x2 : Int) (y0 : Int) (M : ma_M) (Q : Option ma_V → ma_S → ma_M → Prop) : ma_wp 82 2 [(2, 80), (0, x1), (0, x2)] [(0, y0), (2, 80)] mr_SH M Q ↔ mr_do 75 [(2, 80), (0, y0)] mr_SH M (fun r sh M => ma_wp 82 5 [(2, 80), (0, x1), (0, x2)] (r.toList ++ []) sh M Q) := by
  rw [x82_2, ml_80]
  exact ⟨fun h => h.2, fun h => ⟨by decide, h⟩⟩
theorem s82_10 (x1 : Int) (x2 : Int) (M : ma_M) (Q : Option ma_V → ma_S → ma_M → Prop) : ma_wp 82 10 [(2, 80), (0, x1), (0, x2)] [] mr_SH M Q ↔ ma_wp 82 11 [(2, 80), (0, x1), (0, x2)] [(2, 80)] mr_SH M Q := by
  rw [x82_10]
  exact ⟨fun h => h.2, fun h => ⟨by decide, h⟩⟩
theorem s82_11 (x1 : Int) (x2 : Int) (M : ma_M) (Q : Option ma_V → ma_S → ma_M → Prop) (hF : mr_FIX M) : ma_wp 82 11 [(2, 80), (0, x1), (0, x2)] [(2, 80)] mr_SH M Q ↔ ma_wp 82 14 [(2, 80), (0, x1), (0, x2)] [(2, 86)] mr_SH M Q := by
  rw [x82_11, mf_80_7 hF, ml_80]
  exact ⟨fun h => h.2, fun h => ⟨by decide, h⟩⟩
theorem s82_19 (x1 : Int) (x2 : Int) (y0 : Int) (y1 : Int) (M : ma_M) (Q : Option ma_V → ma_S → ma_M → Prop) : ma_wp 82 19 [(2, 80), (0, x1), (0, x2)] [(1, y0), (0, y1), (2, 86)] mr_SH M Q ↔ (0 ≤ y1 ∧ y1 < 5) ∧ ma_wp 82 20 [(2, 80), (0, x1), (0, x2)] [] mr_SH (ma_up M 86 y1 y0) Q := by
  rw [x82_19, ml_86]
theorem s83_0 (x1 : Int) (x2 : Int) (M : ma_M) (Q : Option ma_V → ma_S → ma_M → Prop) : ma_wp 83 0 [(2, 80), (0, x1), (0, x2)] [] mr_SH M Q ↔ ma_wp 83 1 [(2, 80), (0, x1), (0, x2)] [(2, 80)] mr_SH M Q := by
  rw [x83_0]
  exact ⟨fun h => h.2, fun h => ⟨by decide, h⟩⟩
theorem s83_2 (x1 : Int) (x2 : Int) (y0 : Int) (M : ma_M) (Q : Option ma_V → ma_S → ma_M → Prop) : ma_wp 83 2 [(2, 80), (0, x1), (0, x2)] [(0, y0), (2, 80)] mr_SH M Q ↔ mr_do 75 [(2, 80), (0, y0)] mr_SH M (fun r sh M => ma_wp 83 5 [(2, 80), (0, x1), (0, x2)] (r.toList ++ []) sh M Q) := by
  rw [x83_2, ml_80]
  exact ⟨fun h => h.2, fun h => ⟨by decide, h⟩⟩
theorem s83_10 (x1 : Int) (x2 : Int) (M : ma_M) (Q : Option ma_V → ma_S → ma_M → Prop) : ma_wp 83 10 [(2, 80), (0, x1), (0, x2)] [] mr_SH M Q ↔ ma_wp 83 11 [(2, 80), (0, x1), (0, x2)] [(2, 80)] mr_SH M Q := by
  rw [x83_10]
  exact ⟨fun h => h.2, fun h => ⟨by decide, h⟩⟩
theorem s83_11 (x1 : Int) (x2 : Int) (M : ma_M) (Q : Option ma_V → ma_S → ma_M → Prop) (hF : mr_FIX M) : ma_wp 83 11 [(2, 80), (0, x1), (0, x2)] [(2, 80)] mr_SH M Q ↔ ma_wp 83 14 [(2, 80), (0, x1), (0, x2)] [(2, 87)] mr_SH M Q := by
  rw [x83_11, mf_80_8 hF, ml_80]
  exact ⟨fun h => h.2, fun h => ⟨by decide, h⟩⟩
theorem s83_19 (x1 : Int) (x2 : Int) (y0 : Int) (y1 : Int) (M : ma_M) (Q : Option ma_V → ma_S → ma_M → Prop) : ma_wp 83 19 [(2, 80), (0, x1), (0, x2)] [(1, y0), (0, y1), (2, 87)] mr_SH M Q ↔ (0 ≤ y1 ∧ y1 < 5) ∧ ma_wp 83 20 [(2, 80), (0, x1), (0, x2)] [] mr_SH (ma_up M 87 y1 y0) Q := by
  rw [x83_19, ml_87]
theorem s84_0 (x1 : Int) (x2 : Int) (M : ma_M) (Q : Option ma_V → ma_S → ma_M → Prop) : ma_wp 84 0 [(2, 80), (0, x1), (0, x2)] [] mr_SH M Q ↔ ma_wp 84 1 [(2, 80), (0, x1), (0, x2)] [(2, 80)] mr_SH M Q := by
  rw [x84_0]
  exact ⟨fun h => h.2, fun h => ⟨by decide, h⟩⟩
theorem s84_2 (x1 : Int) (x2 : Int) (y0 : Int) (M : ma_M) (Q : Option ma_V → ma_S → ma_M → Prop) : ma_wp 84 2 [(2, 80), (0, x1), (0, x2)] [(0, y0), (2, 80)] mr_SH M Q ↔ mr_do 76 [(2, 80), (0, y0)] mr_SH M (fun r sh M => ma_wp 84 5 [(2, 80), (0, x1), (0, x2)] (r.toList ++ []) sh M Q) := by
  rw [x84_2, ml_80]
  exact ⟨fun h => h.2, fun h => ⟨by decide, h⟩⟩
theorem s84_10 (x1 : Int) (x2 : Int) (M : ma_M) (Q : Option ma_V → ma_S → ma_M → Prop) : ma_wp 84 10 [(2, 80), (0, x1), (0, x2)] [] mr_SH M Q ↔ ma_wp 84 11 [(2, 80), (0, x1), (0, x2)] [(2, 80)] mr_SH M Q := by
  rw [x84_10]
  exact ⟨fun h => h.2, fun h => ⟨by decide, h⟩⟩
theorem s84_11 (x1 : Int) (x2 : Int) (M : ma_M) (Q : Option ma_V → ma_S → ma_M → Prop) (hF : mr_FIX M) : ma_wp 84 11 [(2, 80), (0, x1), (0, x2)] [(2, 80)] mr_SH M Q ↔ ma_wp 84 14 [(2, 80), (0, x1), (0, x2)] [(2, 89)] mr_SH M Q := by
  rw [x84_11, mf_80_11 hF, ml_80]
  exact ⟨fun h => h.2, fun h => ⟨by decide, h⟩⟩
theorem s84_19 (x1 : Int) (x2 : Int) (y0 : Int) (y1 : Int) (M : ma_M) (Q : Option ma_V → ma_S → ma_M → Prop) : ma_wp 84 19 [(2, 80), (0, x1), (0, x2)] [(1, y0), (0, y1), (2, 89)] mr_SH M Q ↔ (0 ≤ y1 ∧ y1 < 5) ∧ ma_wp 84 20 [(2, 80), (0, x1), (0, x2)] [] mr_SH (ma_up M 89 y1 y0) Q := by
  rw [x84_19, ml_89]
theorem s111_5 (x1 : Int) (y0 : Int) (M : ma_M) (Q : Option ma_V → ma_S → ma_M → Prop) : ma_wp 111 5 [(2, 80), (0, x1)] [(0, y0)] mr_SH M Q ↔ ma_wp 111 6 [(2, 80), (0, x1)] [(2, 80), (0, y0)] mr_SH M Q := by
  rw [x111_5]
  exact ⟨fun h => h.2, fun h => ⟨by decide, h⟩⟩
theorem s111_6 (x1 : Int) (y1 : Int) (M : ma_M) (Q : Option ma_V → ma_S → ma_M → Prop) : ma_wp 111 6 [(2, 80), (0, x1)] [(2, 80), (0, y1)] mr_SH M Q ↔ ma_wp 111 9 [(2, 80), (0, x1)] [(0, M 80 22), (0, y1)] mr_SH M Q := by
  rw [x111_6, ml_80]
  exact ⟨fun h => h.2, fun h => ⟨by decide, h⟩⟩
theorem s111_17 (x1 : Int) (M : ma_M) (Q : Option ma_V → ma_S → ma_M → Prop) : ma_wp 111 17 [(2, 80), (0, x1)] [] mr_SH M Q ↔ ma_wp 111 18 [(2, 80), (0, x1)] [(2, 80)] mr_SH M Q := by
  rw [x111_17]
  exact ⟨fun h => h.2, fun h => ⟨by decide, h⟩⟩
theorem s111_18 (x1 : Int) (M : ma_M) (Q : Option ma_V → ma_S → ma_M → Prop) (hF : mr_FIX M) : ma_wp 111 18 [(2, 80), (0, x1)] [(2, 80)] mr_SH M Q ↔ ma_wp 111 21 [(2, 80), (0, x1)] [(2, 100)] mr_SH M Q := by
  rw [x111_18, mf_80_23 hF, ml_80]
  exact ⟨fun h => h.2, fun h => ⟨by decide, h⟩⟩
theorem s111_22 (x1 : Int) (y0 : Int) (M : ma_M) (Q : Option ma_V → ma_S → ma_M → Prop) : ma_wp 111 22 [(2, 80), (0, x1)] [(0, y0), (2, 100)] mr_SH M Q ↔ (0 ≤ y0 ∧ y0 < 5) ∧ ma_wp 111 23 [(2, 80), (0, x1)] [(1, M 100 y0)] mr_SH M Q := by
  rw [x111_22, ml_100]
theorem s112_5 (x1 : Int) (y0 : Int) (M : ma_M) (Q : Option ma_V → ma_S → ma_M → Prop) : ma_wp 112 5 [(2, 80), (0, x1)] [(0, y0)] mr_SH M Q ↔ ma_wp 112 6 [(2, 80), (0, x1)] [(2, 80), (0, y0)] mr_SH M Q := by
  rw [x112_5]
  exact ⟨fun h => h.2, fun h => ⟨by decide, h⟩⟩
theorem s112_6 (x1 : Int) (y1 : Int) (M : ma_M) (Q : Option ma_V → ma_S → ma_M → Prop) : ma_wp 112 6 [(2, 80), (0, x1)] [(2, 80), (0, y1)] mr_SH M Q ↔ ma_wp 112 9 [(2, 80), (0, x1)] [(0, M 80 22), (0, y1)] mr_SH M Q := by
  rw [x112_6, ml_80]
  exact ⟨fun h => h.2, fun h => ⟨by decide, h⟩⟩
theorem s112_17 (x1 : Int) (M : ma_M) (Q : Option ma_V → ma_S → ma_M → Prop) : ma_wp 112 17 [(2, 80), (0, x1)] [] mr_SH M Q ↔ ma_wp 112 18 [(2, 80), (0, x1)] [(2, 80)] mr_SH M Q := by
  rw [x112_17]
  exact ⟨fun h => h.2, fun h => ⟨by decide, h⟩⟩
theorem s112_18 (x1 : Int) (M : ma_M) (Q : Option ma_V → ma_S → ma_M → Prop) (hF : mr_FIX M) : ma_wp 112 18 [(2, 80), (0, x1)] [(2, 80)] mr_SH M Q ↔ ma_wp 112 21 [(2, 80), (0, x1)] [(2, 101)] mr_SH M Q := by
  rw [x112_18, mf_80_24 hF, ml_80]
  exact ⟨fun h => h.2, fun h => ⟨by decide, h⟩⟩
theorem s112_22 (x1 : Int) (y0 : Int) (M : ma_M) (Q : Option ma_V → ma_S → ma_M → Prop) : ma_wp 112 22 [(2, 80), (0, x1)] [(0, y0), (2, 101)] mr_SH M Q ↔ (0 ≤ y0 ∧ y0 < 5) ∧ ma_wp 112 23 [(2, 80), (0, x1)] [(1, M 101 y0)] mr_SH M Q := by
  rw [x112_22, ml_101]
