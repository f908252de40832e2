theorem s48_0 (x1 : Int) (M : ma_M) (Q : Option ma_V → ma_S → ma_M → Prop) : ma_wp 48 0 [(2, 0), (0, x1)] [] mr_SH M Q ↔ ma_wp 48 1 [(2, 0), (0, x1)] [(2, 0)] mr_SH M Q := by
  rw [x48_0]
  exact ⟨fun h => h.2, fun h => ⟨by decide, h⟩⟩
theorem s48_1 (x1 : Int) (M : ma_M) (Q : Option ma_V → ma_S → ma_M → Prop) (hF : mr_FIX M) : ma_wp 48 1 [(2, 0), (0, x1)] [(2, 0)] mr_SH M Q ↔ ma_wp 48 4 [(2, 0), (0, x1)] [(2, 1)] mr_SH M Q := by
  rw [x48_1, mf_0_0 hF, ml_0]
  exact ⟨fun h => h.2, fun h => ⟨by decide, h⟩⟩
theorem s48_5 (x1 : Int) (y0 : Int) (M : ma_M) (Q : Option ma_V → ma_S → ma_M → Prop) : ma_wp 48 5 [(2, 0), (0, x1)] [(0, y0), (2, 1)] mr_SH M Q ↔ mr_do 5 [(2, 1), (0, y0)] mr_SH M (fun r sh M => ma_wp 48 8 [(2, 0), (0, x1)] (r.toList ++ []) sh M Q) := by
  rw [x48_5, ml_1]
  exact ⟨fun h => h.2, fun h => ⟨by decide, h⟩⟩
theorem s48_14 (x1 : Int) (M : ma_M) (Q : Option ma_V → ma_S → ma_M → Prop) : ma_wp 48 14 [(2, 0), (0, x1)] [] mr_SH M Q ↔ ma_wp 48 15 [(2, 0), (0, x1)] [(2, 0)] mr_SH M Q := by
  rw [x48_14]
  exact ⟨fun h => h.2, fun h => ⟨by decide, h⟩⟩
theorem s48_15 (x1 : Int) (M : ma_M) (Q : Option ma_V → ma_S → ma_M → Prop) (hF : mr_FIX M) : ma_wp 48 15 [(2, 0), (0, x1)] [(2, 0)] mr_SH M Q ↔ ma_wp 48 18 [(2, 0), (0, x1)] [(2, 8)] mr_SH M Q := by
  rw [x48_15, mf_0_1 hF, ml_0]
  exact ⟨fun h => h.2, fun h => ⟨by decide, h⟩⟩
theorem s48_18 (x1 : Int) (M : ma_M) (Q : Option ma_V → ma_S → ma_M → Prop) : ma_wp 48 18 [(2, 0), (0, x1)] [(2, 8)] mr_SH M Q ↔ ma_wp 48 19 [(2, 0), (0, x1)] [(2, 0), (2, 8)] mr_SH M Q := by
  rw [x48_18]
  exact ⟨fun h => h.2, fun h => ⟨by decide, h⟩⟩
theorem s48_19 (x1 : Int) (M : ma_M) (Q : Option ma_V → ma_S → ma_M → Prop) (hF : mr_FIX M) : ma_wp 48 19 [(2, 0), (0, x1)] [(2, 0), (2, 8)] mr_SH M Q ↔ ma_wp 48 22 [(2, 0), (0, x1)] [(2, 1), (2, 8)] mr_SH M Q := by
  rw [x48_19, mf_0_0 hF, ml_0]
  exact ⟨fun h => h.2, fun h => ⟨by decide, h⟩⟩
theorem s48_22 (x1 : Int) (M : ma_M) (Q : Option ma_V → ma_S → ma_M → Prop) : ma_wp 48 22 [(2, 0), (0, x1)] [(2, 1), (2, 8)] mr_SH M Q ↔ ma_wp 48 23 [(2, 0), (0, x1)] [(2, 0), (2, 1), (2, 8)] mr_SH M Q := by
  rw [x48_22]
  exact ⟨fun h => h.2, fun h => ⟨by decide, h⟩⟩
theorem s48_23 (x1 : Int) (M : ma_M) (Q : Option ma_V → ma_S → ma_M → Prop) (hF : mr_FIX M) : ma_wp 48 23 [(2, 0), (0, x1)] [(2, 0), (2, 1), (2, 8)] mr_SH M Q ↔ ma_wp 48 26 [(2, 0), (0, x1)] [(2, 50), (2, 1), (2, 8)] mr_SH M Q := by
  rw [x48_23, mf_0_5 hF, ml_0]
  exact ⟨fun h => h.2, fun h => ⟨by decide, h⟩⟩
theorem s48_26 (x1 : Int) (M : ma_M) (Q : Option ma_V → ma_S → ma_M → Prop) : ma_wp 48 26 [(2, 0), (0, x1)] [(2, 50), (2, 1), (2, 8)] mr_SH M Q ↔ ma_wp 48 27 [(2, 0), (0, x1)] [(2, 0), (2, 50), (2, 1), (2, 8)] mr_SH M Q := by
  rw [x48_26]
  exact ⟨fun h => h.2, fun h => ⟨by decide, h⟩⟩
theorem s48_27 (x1 : Int) (M : ma_M) (Q : Option ma_V → ma_S → ma_M → Prop) (hF : mr_FIX M) : ma_wp 48 27 [(2, 0), (0, x1)] [(2, 0), (2, 50), (2, 1), (2, 8)] mr_SH M Q ↔ ma_wp 48 30 [(2, 0), (0, x1)] [(2, 51), (2, 50), (2, 1), (2, 8)] mr_SH M Q := by
  rw [x48_27, mf_0_6 hF, ml_0]
  exact ⟨fun h => h.2, fun h => ⟨by decide, h⟩⟩
theorem s48_31 (x1 : Int) (y0 : Int) (M : ma_M) (Q : Option ma_V → ma_S → ma_M → Prop) : ma_wp 48 31 [(2, 0), (0, x1)] [(0, y0), (2, 51), (2, 50), (2, 1), (2, 8)] mr_SH M Q ↔ mr_do 15 [(2, 8), (2, 1), (2, 50), (2, 51), (0, y0)] mr_SH M (fun r sh M => ma_wp 48 34 [(2, 0), (0, x1)] (r.toList ++ []) sh M Q) := by
  rw [x48_31, ml_8]
  exact ⟨fun h => h.2, fun h => ⟨by decide, h⟩⟩
theorem s48_34 (x1 : Int) (M : ma_M) (Q : Option ma_V → ma_S → ma_M → Prop) : ma_wp 48 34 [(2, 0), (0, x1)] [] mr_SH M Q ↔ ma_wp 48 35 [(2, 0), (0, x1)] [(2, 0)] mr_SH M Q := by
  rw [x48_34]
  exact ⟨fun h => h.2, fun h => ⟨by decide, h⟩⟩
theorem s48_35 (x1 : Int) (M : ma_M) (Q : Option ma_V → ma_S → ma_M → Prop) (hF : mr_FIX M) : ma_wp 48 35 [(2, 0), (0, x1)] [(2, 0)] mr_SH M Q ↔ ma_wp 48 38 [(2, 0), (0, x1)] [(2, 8)] mr_SH M Q := by
  rw [x48_35, mf_0_1 hF, ml_0]
  exact ⟨fun h => h.2, fun h => ⟨by decide, h⟩⟩
theorem s48_38 (x1 : Int) (M : ma_M) (Q : Option ma_V → ma_S → ma_M → Prop) (hF : mr_FIX M) : ma_wp 48 38 [(2, 0), (0, x1)] [(2, 8)] mr_SH M Q ↔ ma_wp 48 41 [(2, 0), (0, x1)] [(2, 34)] mr_SH M Q := by
  rw [x48_38, mf_8_1 hF, ml_8]
  exact ⟨fun h => h.2, fun h => ⟨by decide, h⟩⟩
theorem s48_42 (x1 : Int) (y0 : Int) (M : ma_M) (Q : Option ma_V → ma_S → ma_M → Prop) : ma_wp 48 42 [(2, 0), (0, x1)] [(0, y0), (2, 34)] mr_SH M Q ↔ (0 ≤ y0 ∧ y0 < 24) ∧ ma_wp 48 43 [(2, 0), (0, x1)] [(0, M 34 y0)] mr_SH M Q := by
  rw [x48_42, ml_34]
theorem s48_51 (x1 : Int) (M : ma_M) (Q : Option ma_V → ma_S → ma_M → Prop) : ma_wp 48 51 [(2, 0), (0, x1)] [] mr_SH M Q ↔ ma_wp 48 52 [(2, 0), (0, x1)] [(2, 0)] mr_SH M Q := by
  rw [x48_51]
  exact ⟨fun h => h.2, fun h => ⟨by decide, h⟩⟩
theorem s48_52 (x1 : Int) (M : ma_M) (Q : Option ma_V → ma_S → ma_M → Prop) (hF : mr_FIX M) : ma_wp 48 52 [(2, 0), (0, x1)] [(2, 0)] mr_SH M Q ↔ ma_wp 48 55 [(2, 0), (0, x1)] [(2, 8)] mr_SH M Q := by
  rw [x48_52, mf_0_1 hF, ml_0]
  exact ⟨fun h => h.2, fun h => ⟨by decide, h⟩⟩
theorem s48_55 (x1 : Int) (M : ma_M) (Q : Option ma_V → ma_S → ma_M → Prop) (hF : mr_FIX M) : ma_wp 48 55 [(2, 0), (0, x1)] [(2, 8)] mr_SH M Q ↔ ma_wp 48 58 [(2, 0), (0, x1)] [(2, 9)] mr_SH M Q := by
  rw [x48_55, mf_8_0 hF, ml_8]
  exact ⟨fun h => h.2, fun h => ⟨by decide, h⟩⟩
theorem s48_59 (x1 : Int) (y0 : Int) (M : ma_M) (Q : Option ma_V → ma_S → ma_M → Prop) (hF : mr_FIX M) : ma_wp 48 59 [(2, 0), (0, x1)] [(0, y0), (2, 9)] mr_SH M Q ↔ (0 ≤ y0 ∧ y0 < 24) ∧ ma_wp 48 60 [(2, 0), (0, x1)] [(2, 10 + y0)] mr_SH M Q := by
  rw [x48_59, ml_9]
  constructor
  · rintro ⟨h1, h2⟩
    rw [mg_9 hF h1.1 h1.2] at h2
    exact ⟨h1, h2⟩
  · rintro ⟨h1, h2⟩
    rw [mg_9 hF h1.1 h1.2]
    exact ⟨h1, h2⟩
theorem s49_0 (x1 : Int) (M : ma_M) (Q : Option ma_V → ma_S → ma_M → Prop) : ma_wp 49 0 [(2, 0), (0, x1)] [] mr_SH M Q ↔ ma_wp 49 1 [(2, 0), (0, x1)] [(2, 0)] mr_SH M Q := by
  rw [x49_0]
  exact ⟨fun h => h.2, fun h => ⟨by decide, h⟩⟩
theorem s49_2 (x1 : Int) (y0 : Int) (M : ma_M) (Q : Option ma_V → ma_S → ma_M → Prop) : ma_wp 49 2 [(2, 0), (0, x1)] [(0, y0), (2, 0)] mr_SH M Q ↔ mr_do 61 [(2, 0), (0, y0)] mr_SH M (fun r sh M => ma_wp 49 5 [(2, 0), (0, x1)] (r.toList ++ []) sh M Q) := by
  rw [x49_2, ml_0]
  exact ⟨fun h => h.2, fun h => ⟨by decide, h⟩⟩
theorem s49_8 (x1 : Int) (M : ma_M) (Q : Option ma_V → ma_S → ma_M → Prop) : ma_wp 49 8 [(2, 0), (0, x1)] [] mr_SH M Q ↔ ma_wp 49 9 [(2, 0), (0, x1)] [(2, 0)] mr_SH M Q := by
  rw [x49_8]
  exact ⟨fun h => h.2, fun h => ⟨by decide, h⟩⟩
theorem s49_10 (x1 : Int) (y0 : Int) (M : ma_M) (Q : Option ma_V → ma_S → ma_M → Prop) : ma_wp 49 10 [(2, 0), (0, x1)] [(0, y0), (2, 0)] mr_SH M Q ↔ ma_wp 49 11 [(2, 0), (0, x1)] [(2, 0), (0, y0), (2, 0)] mr_SH M Q := by
  rw [x49_10]
  exact ⟨fun h => h.2, fun h => ⟨by decide, h⟩⟩
theorem s49_11 (x1 : Int) (y1 : Int) (M : ma_M) (Q : Option ma_V → ma_S → ma_M → Prop) (hF : mr_FIX M) : ma_wp 49 11 [(2, 0), (0, x1)] [(2, 0), (0, y1), (2, 0)] mr_SH M Q ↔ ma_wp 49 14 [(2, 0), (0, x1)] [(2, 51), (0, y1), (2, 0)] mr_SH M Q := by
  rw [x49_11, mf_0_6 hF, ml_0]
  exact ⟨fun h => h.2, fun h => ⟨by decide, h⟩⟩
theorem s49_15 (x1 : Int) (y0 : Int) (y2 : Int) (M : ma_M) (Q : Option ma_V → ma_S → ma_M → Prop) : ma_wp 49 15 [(2, 0), (0, x1)] [(0, y0), (2, 51), (0, y2), (2, 0)] mr_SH M Q ↔ mr_do 62 [(2, 0), (0, y2), (2, 51), (0, y0)] mr_SH M (fun r sh M => ma_wp 49 18 [(2, 0), (0, x1)] (r.toList ++ []) sh M Q) := by
  rw [x49_15, ml_0]
  exact ⟨fun h => h.2, fun h => ⟨by decide, h⟩⟩
theorem s50_0 (x1 : Int) (x2 : Int) (M : ma_M) (Q : Option ma_V → ma_S → ma_M → Prop) : ma_wp 50 0 [(2, 0), (0, x1), (3, x2)] [] mr_SH M Q ↔ ma_wp 50 1 [(2, 0), (0, x1), (3, x2)] [(2, 0)] mr_SH M Q := by
  rw [x50_0]
  exact ⟨fun h => h.2, fun h => ⟨by decide, h⟩⟩
theorem s50_1 (x1 : Int) (x2 : Int) (M : ma_M) (Q : Option ma_V → ma_S → ma_M → Prop) (hF : mr_FIX M) : ma_wp 50 1 [(2, 0), (0, x1), (3, x2)] [(2, 0)] mr_SH M Q ↔ ma_wp 50 4 [(2, 0), (0, x1), (3, x2)] [(2, 1)] mr_SH M Q := by
  rw [x50_1, mf_0_0 hF, ml_0]
  exact ⟨fun h => h.2, fun h => ⟨by decide, h⟩⟩
theorem s50_5 (x1 : Int) (x2 : Int) (y0 : Int) (M : ma_M) (Q : Option ma_V → ma_S → ma_M → Prop) : ma_wp 50 5 [(2, 0), (0, x1), (3, x2)] [(0, y0), (2, 1)] mr_SH M Q ↔ mr_do 6 [(2, 1), (0, y0)] mr_SH M (fun r sh M => ma_wp 50 8 [(2, 0), (0, x1), (3, x2)] (r.toList ++ []) sh M Q) := by
  rw [x50_5, ml_1]
  exact ⟨fun h => h.2, fun h => ⟨by decide, h⟩⟩
theorem s50_14 (x1 : Int) (x2 : Int) (M : ma_M) (Q : Option ma_V → ma_S → ma_M → Prop) : ma_wp 50 14 [(2, 0), (0, x1), (3, x2)] [] mr_SH M Q ↔ ma_wp 50 15 [(2, 0), (0, x1), (3, x2)] [(2, 0)] mr_SH M Q := by
  rw [x50_14]
  exact ⟨fun h => h.2, fun h => ⟨by decide, h⟩⟩
theorem s50_15 (x1 : Int) (x2 : Int) (M : ma_M) (Q : Option ma_V → ma_S → ma_M → Prop) (hF : mr_FIX M) : ma_wp 50 15 [(2, 0), (0, x1), (3, x2)] [(2, 0)] mr_SH M Q ↔ ma_wp 50 18 [(2, 0), (0, x1), (3, x2)] [(2, 8)] mr_SH M Q := by
  rw [x50_15, mf_0_1 hF, ml_0]
  exact ⟨fun h => h.2, fun h => ⟨by decide, h⟩⟩
theorem s50_18 (x1 : Int) (x2 : Int) (M : ma_M) (Q : Option ma_V → ma_S → ma_M → Prop) : ma_wp 50 18 [(2, 0), (0, x1), (3, x2)] [(2, 8)] mr_SH M Q ↔ ma_wp 50 19 [(2, 0), (0, x1), (3, x2)] [(2, 0), (2, 8)] mr_SH M Q := by
  rw [x50_18]
  exact ⟨fun h => h.2, fun h => ⟨by decide, h⟩⟩
theorem s50_19 (x1 : Int) (x2 : Int) (M : ma_M) (Q : Option ma_V → ma_S → ma_M → Prop) (hF : mr_FIX M) : ma_wp 50 19 [(2, 0), (0, x1), (3, x2)] [(2, 0), (2, 8)] mr_SH M Q ↔ ma_wp 50 22 [(2, 0), (0, x1), (3, x2)] [(2, 1), (2, 8)] mr_SH M Q := by
  rw [x50_19, mf_0_0 hF, ml_0]
  exact ⟨fun h => h.2, fun h => ⟨by decide, h⟩⟩
theorem s50_22 (x1 : Int) (x2 : Int) (M : ma_M) (Q : Option ma_V → ma_S → ma_M → Prop) : ma_wp 50 22 [(2, 0), (0, x1), (3, x2)] [(2, 1), (2, 8)] mr_SH M Q ↔ ma_wp 50 23 [(2, 0), (0, x1), (3, x2)] [(2, 0), (2, 1), (2, 8)] mr_SH M Q := by
  rw [x50_22]
  exact ⟨fun h => h.2, fun h => ⟨by decide, h⟩⟩
theorem s50_23 (x1 : Int) (x2 : Int) (M : ma_M) (Q : Option ma_V → ma_S → ma_M → Prop) (hF : mr_FIX M) : ma_wp 50 23 [(2, 0), (0, x1), (3, x2)] [(2, 0), (2, 1), (2, 8)] mr_SH M Q ↔ ma_wp 50 26 [(2, 0), (0, x1), (3, x2)] [(2, 50), (2, 1), (2, 8)] mr_SH M Q := by
  rw [x50_23, mf_0_5 hF, ml_0]
  exact ⟨fun h => h.2, fun h => ⟨by decide, h⟩⟩
theorem s50_26 (x1 : Int) (x2 : Int) (M : ma_M) (Q : Option ma_V → ma_S → ma_M → Prop) : ma_wp 50 26 [(2, 0), (0, x1), (3, x2)] [(2, 50), (2, 1), (2, 8)] mr_SH M Q ↔ ma_wp 50 27 [(2, 0), (0, x1), (3, x2)] [(2, 0), (2, 50), (2, 1), (2, 8)] mr_SH M Q := by
  rw [x50_26]
  exact ⟨fun h => h.2, fun h => ⟨by decide, h⟩⟩
theorem s50_27 (x1 : Int) (x2 : Int) (M : ma_M) (Q : Option ma_V → ma_S → ma_M → Prop) (hF : mr_FIX M) : ma_wp 50 27 [(2, 0), (0, x1), (3, x2)] [(2, 0), (2, 50), (2, 1), (2, 8)] mr_SH M Q ↔ ma_wp 50 30 [(2, 0), (0, x1), (3, x2)] [(2, 51), (2, 50), (2, 1), (2, 8)] mr_SH M Q := by
  rw [x50_27, mf_0_6 hF, ml_0]
  exact ⟨fun h => h.2, fun h => ⟨by decide, h⟩⟩
theorem s50_31 (x1 : Int) (x2 : Int) (y0 : Int) (M : ma_M) (Q : Option ma_V → ma_S → ma_M → Prop) : ma_wp 50 31 [(2, 0), (0, x1), (3, x2)] [(0, y0), (2, 51), (2, 50), (2, 1), (2, 8)] mr_SH M Q ↔ mr_do 15 [(2, 8), (2, 1), (2, 50), (2, 51), (0, y0)] mr_SH M (fun r sh M => ma_wp 50 34 [(2, 0), (0, x1), (3, x2)] (r.toList ++ []) sh M Q) := by
  rw [x50_31, ml_8]
  exact ⟨fun h => h.2, fun h => ⟨by decide, h⟩⟩
theorem s50_34 (x1 : Int) (x2 : Int) (M : ma_M) (Q : Option ma_V → ma_S → ma_M → Prop) : ma_wp 50 34 [(2, 0), (0, x1), (3, x2)] [] mr_SH M Q ↔ ma_wp 50 35 [(2, 0), (0, x1), (3, x2)] [(2, 0)] mr_SH M Q := by
  rw [x50_34]
  exact ⟨fun h => h.2, fun h => ⟨by decide, h⟩⟩
theorem s50_36 (x1 : Int) (x2 : Int) (y0 : Int) (M : ma_M) (Q : Option ma_V → ma_S → ma_M → Prop) : ma_wp 50 36 [(2, 0), (0, x1), (3, x2)] [(0, y0), (2, 0)] mr_SH M Q ↔ mr_do 65 [(2, 0), (0, y0)] mr_SH M (fun r sh M => ma_wp 50 39 [(2, 0), (0, x1), (3, x2)] (r.toList ++ []) sh M Q) := by
  rw [x50_36, ml_0]
  exact ⟨fun h => h.2, fun h => ⟨by decide, h⟩⟩
theorem s50_46 (x1 : Int) (x2 : Int) (M : ma_M) (Q : Option ma_V → ma_S → ma_M → Prop) : ma_wp 50 46 [(2, 0), (0, x1), (0, x2)] [] mr_SH M Q ↔ ma_wp 50 47 [(2, 0), (0, x1), (0, x2)] [(2, 0)] mr_SH M Q := by
  rw [x50_46]
  exact ⟨fun h => h.2, fun h => ⟨by decide, h⟩⟩
theorem s50_47 (x1 : Int) (x2 : Int) (M : ma_M) (Q : Option ma_V → ma_S → ma_M → Prop) : ma_wp 50 47 [(2, 0), (0, x1), (0, x2)] [(2, 0)] mr_SH M Q ↔ ma_wp 50 48 [(2, 0), (0, x1), (0, x2)] [(2, 0), (2, 0)] mr_SH M Q := by
  rw [x50_47]
  exact ⟨fun h => h.2, fun h => ⟨by decide, h⟩⟩
theorem s50_48 (x1 : Int) (x2 : Int) (M : ma_M) (Q : Option ma_V → ma_S → ma_M → Prop) (hF : mr_FIX M) : ma_wp 50 48 [(2, 0), (0, x1), (0, x2)] [(2, 0), (2, 0)] mr_SH M Q ↔ ma_wp 50 51 [(2, 0), (0, x1), (0, x2)] [(2, 55), (2, 0)] mr_SH M Q := by
  rw [x50_48, mf_0_10 hF, ml_0]
  exact ⟨fun h => h.2, fun h => ⟨by decide, h⟩⟩
theorem s50_51 (x1 : Int) (x2 : Int) (M : ma_M) (Q : Option ma_V → ma_S → ma_M → Prop) : ma_wp 50 51 [(2, 0), (0, x1), (0, x2)] [(2, 55), (2, 0)] mr_SH M Q ↔ mr_do 66 [(2, 0), (2, 55)] mr_SH M (fun r sh M => ma_wp 50 54 [(2, 0), (0, x1), (0, x2)] (r.toList ++ []) sh M Q) := by
  rw [x50_51, ml_0]
  exact ⟨fun h => h.2, fun h => ⟨by decide, h⟩⟩
theorem s50_54 (x1 : Int) (x2 : Int) (M : ma_M) (Q : Option ma_V → ma_S → ma_M → Prop) : ma_wp 50 54 [(2, 0), (0, x1), (0, x2)] [] mr_SH M Q ↔ ma_wp 50 55 [(2, 0), (0, x1), (0, x2)] [(2, 0)] mr_SH M Q := by
  rw [x50_54]
  exact ⟨fun h => h.2, fun h => ⟨by decide, h⟩⟩
theorem s50_55 (x1 : Int) (x2 : Int) (M : ma_M) (Q : Option ma_V → ma_S → ma_M → Prop) (hF : mr_FIX M) : ma_wp 50 55 [(2, 0), (0, x1), (0, x2)] [(2, 0)] mr_SH M Q ↔ ma_wp 50 58 [(2, 0), (0, x1), (0, x2)] [(2, 35)] mr_SH M Q := by
  rw [x50_55, mf_0_2 hF, ml_0]
  exact ⟨fun h => h.2, fun h => ⟨by decide, h⟩⟩
theorem s50_58 (x1 : Int) (x2 : Int) (M : ma_M) (Q : Option ma_V → ma_S → ma_M → Prop) (hF : mr_FIX M) : ma_wp 50 58 [(2, 0), (0, x1), (0, x2)] [(2, 35)] mr_SH M Q ↔ ma_wp 50 61 [(2, 0), (0, x1), (0, x2)] [(2, 36)] mr_SH M Q := by
  rw [x50_58, mf_35_0 hF, ml_35]
  exact ⟨fun h => h.2, fun h => ⟨by decide, h⟩⟩
theorem s50_61 (x1 : Int) (x2 : Int) (M : ma_M) (Q : Option ma_V → ma_S → ma_M → Prop) : ma_wp 50 61 [(2, 0), (0, x1), (0, x2)] [(2, 36)] mr_SH M Q ↔ ma_wp 50 62 [(2, 0), (0, x1), (0, x2)] [(2, 0), (2, 36)] mr_SH M Q := by
  rw [x50_61]
  exact ⟨fun h => h.2, fun h => ⟨by decide, h⟩⟩
theorem s50_62 (x1 : Int) (x2 : Int) (M : ma_M) (Q : Option ma_V → ma_S → ma_M → Prop) (hF : mr_FIX M) : ma_wp 50 62 [(2, 0), (0, x1), (0, x2)] [(2, 0), (2, 36)] mr_SH M Q ↔ ma_wp 50 65 [(2, 0), (0, x1), (0, x2)] [(2, 1), (2, 36)] mr_SH M Q := by
  rw [x50_62, mf_0_0 hF, ml_0]
  exact ⟨fun h => h.2, fun h => ⟨by decide, h⟩⟩
theorem s50_65 (x1 : Int) (x2 : Int) (M : ma_M) (Q : Option ma_V → ma_S → ma_M → Prop) (hF : mr_FIX M) : ma_wp 50 65 [(2, 0), (0, x1), (0, x2)] [(2, 1), (2, 36)] mr_SH M Q ↔ ma_wp 50 68 [(2, 0), (0, x1), (0, x2)] [(2, 7), (2, 36)] mr_SH M Q := by
  rw [x50_65, mf_1_7 hF, ml_1]
  exact ⟨fun h => h.2, fun h => ⟨by decide, h⟩⟩
theorem s50_69 (x1 : Int) (x2 : Int) (y0 : Int) (M : ma_M) (Q : Option ma_V → ma_S → ma_M → Prop) : ma_wp 50 69 [(2, 0), (0, x1), (0, x2)] [(0, y0), (2, 7), (2, 36)] mr_SH M Q ↔ (0 ≤ y0 ∧ y0 < 5) ∧ ma_wp 50 70 [(2, 0), (0, x1), (0, x2)] [(0, M 7 y0), (2, 36)] mr_SH M Q := by
  rw [x50_69, ml_7]
theorem s50_70 (x1 : Int) (x2 : Int) (y0 : Int) (M : ma_M) (Q : Option ma_V → ma_S → ma_M → Prop) : ma_wp 50 70 [(2, 0), (0, x1), (0, x2)] [(0, y0), (2, 36)] mr_SH M Q ↔ (0 ≤ y0 ∧ y0 < 24) ∧ ma_wp 50 71 [(2, 0), (0, x1), (0, x2)] [(0, M 36 y0)] mr_SH M Q := by
  rw [x50_70, ml_36]
theorem s51_0 (x1 : Int) (x2 : Int) (M : ma_M) (Q : Option ma_V → ma_S → ma_M → Prop) : ma_wp 51 0 [(2, 0), (0, x1), (0, x2)] [] mr_SH M Q ↔ ma_wp 51 1 [(2, 0), (0, x1), (0, x2)] [(2, 0)] mr_SH M Q := by
  rw [x51_0]
  exact ⟨fun h => h.2, fun h => ⟨by decide, h⟩⟩
theorem s51_2 (x1 : Int) (x2 : Int) (y0 : Int) (M : ma_M) (Q : Option ma_V → ma_S → ma_M → Prop) : ma_wp 51 2 [(2, 0), (0, x1), (0, x2)] [(0, y0), (2, 0)] mr_SH M Q ↔ mr_do 61 [(2, 0), (0, y0)] mr_SH M (fun r sh M => ma_wp 51 5 [(2, 0), (0, x1), (0, x2)] (r.toList ++ []) sh M Q) := by
  rw [x51_2, ml_0]
  exact ⟨fun h => h.2, fun h => ⟨by decide, h⟩⟩
theorem s51_21 (x1 : Int) (x2 : Int) (M : ma_M) (Q : Option ma_V → ma_S → ma_M → Prop) : ma_wp 51 21 [(2, 0), (0, x1), (0, x2)] [] mr_SH M Q ↔ ma_wp 51 22 [(2, 0), (0, x1), (0, x2)] [(2, 0)] mr_SH M Q := by
  rw [x51_21]
  exact ⟨fun h => h.2, fun h => ⟨by decide, h⟩⟩
theorem s51_23 (x1 : Int) (x2 : Int) (y0 : Int) (M : ma_M) (Q : Option ma_V → ma_S → ma_M → Prop) : ma_wp 51 23 [(2, 0), (0, x1), (0, x2)] [(0, y0), (2, 0)] mr_SH M Q ↔ ma_wp 51 24 [(2, 0), (0, x1), (0, x2)] [(2, 0), (0, y0), (2, 0)] mr_SH M Q := by
  rw [x51_23]
  exact ⟨fun h => h.2, fun h => ⟨by decide, h⟩⟩
theorem s51_24 (x1 : Int) (x2 : Int) (y1 : Int) (M : ma_M) (Q : Option ma_V → ma_S → ma_M → Prop) (hF : mr_FIX M) : ma_wp 51 24 [(2, 0), (0, x1), (0, x2)] [(2, 0), (0, y1), (2, 0)] mr_SH M Q ↔ ma_wp 51 27 [(2, 0), (0, x1), (0, x2)] [(2, 51), (0, y1), (2, 0)] mr_SH M Q := by
  rw [x51_24, mf_0_6 hF, ml_0]
  exact ⟨fun h => h.2, fun h => ⟨by decide, h⟩⟩
theorem s51_28 (x1 : Int) (x2 : Int) (y0 : Int) (y2 : Int) (M : ma_M) (Q : Option ma_V → ma_S → ma_M → Prop) : ma_wp 51 28 [(2, 0), (0, x1), (0, x2)] [(0, y0), (2, 51), (0, y2), (2, 0)] mr_SH M Q ↔ mr_do 62 [(2, 0), (0, y2), (2, 51), (0, y0)] mr_SH M (fun r sh M => ma_wp 51 31 [(2, 0), (0, x1), (0, x2)] (r.toList ++ []) sh M Q) := by
  rw [x51_28, ml_0]
  exact ⟨fun h => h.2, fun h => ⟨by decide, h⟩⟩
theorem s52_0 (x1 : Int) (x2 : Int) (x3 : Int) (x4 : Int) (x5 : Int) (M : ma_M) (Q : Option ma_V → ma_S → ma_M → Prop) : ma_wp 52 0 [(2, 0), (0, x1), (0, x2), (0, x3), (3, x4), (3, x5)] [] mr_SH M Q ↔ ma_wp 52 1 [(2, 0), (0, x1), (0, x2), (0, x3), (3, x4), (3, x5)] [(2, 0)] mr_SH M Q := by
  rw [x52_0]
  exact ⟨fun h => h.2, fun h => ⟨by decide, h⟩⟩
theorem s52_2 (x1 : Int) (x2 : Int) (x3 : Int) (x4 : Int) (x5 : Int) (y0 : Int) (M : ma_M) (Q : Option ma_V → ma_S → ma_M → Prop) : ma_wp 52 2 [(2, 0), (0, x1), (0, x2), (0, x3), (3, x4), (3, x5)] [(0, y0), (2, 0)] mr_SH M Q ↔ mr_do 61 [(2, 0), (0, y0)] mr_SH M (fun r sh M => ma_wp 52 5 [(2, 0), (0, x1), (0, x2), (0, x3), (3, x4), (3, x5)] (r.toList ++ []) sh M Q) := by
  rw [x52_2, ml_0]
  exact ⟨fun h => h.2, fun h => ⟨by decide, h⟩⟩
theorem s52_8 (x1 : Int) (x2 : Int) (x3 : Int) (x4 : Int) (x5 : Int) (M : ma_M) (Q : Option ma_V → ma_S → ma_M → Prop) : ma_wp 52 8 [(2, 0), (0, x1), (0, x2), (0, x3), (3, x4), (3, x5)] [] mr_SH M Q ↔ ma_wp 52 9 [(2, 0), (0, x1), (0, x2), (0, x3), (3, x4), (3, x5)] [(2, 0)] mr_SH M Q := by
  rw [x52_8]
  exact ⟨fun h => h.2, fun h => ⟨by decide, h⟩⟩
theorem s52_9 (x1 : Int) (x2 : Int) (x3 : Int) (x4 : Int) (x5 : Int) (M : ma_M) (Q : Option ma_V → ma_S → ma_M → Prop) (hF : mr_FIX M) : ma_wp 52 9 [(2, 0), (0, x1), (0, x2), (0, x3), (3, x4), (3, x5)] [(2, 0)] mr_SH M Q ↔ ma_wp 52 12 [(2, 0), (0, x1), (0, x2), (0, x3), (3, x4), (3, x5)] [(2, 1)] mr_SH M Q := by
  rw [x52_9, mf_0_0 hF, ml_0]
  exact ⟨fun h => h.2, fun h => ⟨by decide, h⟩⟩
theorem s52_13 (x1 : Int) (x2 : Int) (x3 : Int) (x4 : Int) (x5 : Int) (y0 : Int) (M : ma_M) (Q : Option ma_V → ma_S → ma_M → Prop) : ma_wp 52 13 [(2, 0), (0, x1), (0, x2), (0, x3), (3, x4), (3, x5)] [(0, y0), (2, 1)] mr_SH M Q ↔ mr_do 6 [(2, 1), (0, y0)] mr_SH M (fun r sh M => ma_wp 52 16 [(2, 0), (0, x1), (0, x2), (0, x3), (3, x4), (3, x5)] (r.toList ++ []) sh M Q) := by
  rw [x52_13, ml_1]
  exact ⟨fun h => h.2, fun h => ⟨by decide, h⟩⟩
theorem s52_19 (x1 : Int) (x2 : Int) (x3 : Int) (x4 : Int) (x5 : Int) (M : ma_M) (Q : Option ma_V → ma_S → ma_M → Prop) : ma_wp 52 19 [(2, 0), (0, x1), (0, x2), (0, x3), (3, x4), (3, x5)] [] mr_SH M Q ↔ ma_wp 52 20 [(2, 0), (0, x1), (0, x2), (0, x3), (3, x4), (3, x5)] [(2, 0)] mr_SH M Q := by
  rw [x52_19]
  exact ⟨fun h => h.2, fun h => ⟨by decide, h⟩⟩
theorem s52_20 (x1 : Int) (x2 : Int) (x3 : Int) (x4 : Int) (x5 : Int) (M : ma_M) (Q : Option ma_V → ma_S → ma_M → Prop) (hF : mr_FIX M) : ma_wp 52 20 [(2, 0), (0, x1), (0, x2), (0, x3), (3, x4), (3, x5)] [(2, 0)] mr_SH M Q ↔ ma_wp 52 23 [(2, 0), (0, x1), (0, x2), (0, x3), (3, x4), (3, x5)] [(2, 1)] mr_SH M Q := by
  rw [x52_20, mf_0_0 hF, ml_0]
  exact ⟨fun h => h.2, fun h => ⟨by decide, h⟩⟩
theorem s52_24 (x1 : Int) (x2 : Int) (x3 : Int) (x4 : Int) (x5 : Int) (y0 : Int) (M : ma_M) (Q : Option ma_V → ma_S → ma_M → Prop) : ma_wp 52 24 [(2, 0), (0, x1), (0, x2), (0, x3), (3, x4), (3, x5)] [(0, y0), (2, 1)] mr_SH M Q ↔ mr_do 6 [(2, 1), (0, y0)] mr_SH M (fun r sh M => ma_wp 52 27 [(2, 0), (0, x1), (0, x2), (0, x3), (3, x4), (3, x5)] (r.toList ++ []) sh M Q) := by
  rw [x52_24, ml_1]
  exact ⟨fun h => h.2, fun h => ⟨by decide, h⟩⟩
theorem s52_33 (x1 : Int) (x2 : Int) (x3 : Int) (x4 : Int) (x5 : Int) (M : ma_M) (Q : Option ma_V → ma_S → ma_M → Prop) : ma_wp 52 33 [(2, 0), (0, x1), (0, x2), (0, x3), (3, x4), (3, x5)] [] mr_SH M Q ↔ ma_wp 52 34 [(2, 0), (0, x1), (0, x2), (0, x3), (3, x4), (3, x5)] [(2, 0)] mr_SH M Q := by
  rw [x52_33]
  exact ⟨fun h => h.2, fun h => ⟨by decide, h⟩⟩
theorem s52_34 (x1 : Int) (x2 : Int) (x3 : Int) (x4 : Int) (x5 : Int) (M : ma_M) (Q : Option ma_V → ma_S → ma_M → Prop) : ma_wp 52 34 [(2, 0), (0, x1), (0, x2), (0, x3), (3, x4), (3, x5)] [(2, 0)] mr_SH M Q ↔ mr_do 64 [(2, 0)] mr_SH M (fun r sh M => ma_wp 52 37 [(2, 0), (0, x1), (0, x2), (0, x3), (3, x4), (3, x5)] (r.toList ++ []) sh M Q) := by
  rw [x52_34, ml_0]
  exact ⟨fun h => h.2, fun h => ⟨by decide, h⟩⟩
theorem s52_37 (x1 : Int) (x2 : Int) (x3 : Int) (x4 : Int) (x5 : Int) (M : ma_M) (Q : Option ma_V → ma_S → ma_M → Prop) : ma_wp 52 37 [(2, 0), (0, x1), (0, x2), (0, x3), (3, x4), (3, x5)] [] mr_SH M Q ↔ ma_wp 52 38 [(2, 0), (0, x1), (0, x2), (0, x3), (3, x4), (3, x5)] [(2, 0)] mr_SH M Q := by
  rw [x52_37]
  exact ⟨fun h => h.2, fun h => ⟨by decide, h⟩⟩
theorem s52_38 (x1 : Int) (x2 : Int) (x3 : Int) (x4 : Int) (x5 : Int) (M : ma_M) (Q : Option ma_V → ma_S → ma_M → Prop) (hF : mr_FIX M) : ma_wp 52 38 [(2, 0), (0, x1), (0, x2), (0, x3), (3, x4), (3, x5)] [(2, 0)] mr_SH M Q ↔ ma_wp 52 41 [(2, 0), (0, x1), (0, x2), (0, x3), (3, x4), (3, x5)] [(2, 52)] mr_SH M Q := by
  rw [x52_38, mf_0_7 hF, ml_0]
  exact ⟨fun h => h.2, fun h => ⟨by decide, h⟩⟩
theorem s52_43 (x1 : Int) (x2 : Int) (x3 : Int) (x4 : Int) (x5 : Int) (y0 : Int) (y2 : Int) (M : ma_M) (Q : Option ma_V → ma_S → ma_M → Prop) : ma_wp 52 43 [(2, 0), (0, x1), (0, x2), (0, x3), (3, x4), (3, x5)] [(0, y0), (2, 52), (0, y2), (2, 52)] mr_SH M Q ↔ (0 ≤ y0 ∧ y0 < 5) ∧ ma_wp 52 44 [(2, 0), (0, x1), (0, x2), (0, x3), (3, x4), (3, x5)] [(0, M 52 y0), (0, y2), (2, 52)] mr_SH M Q := by
  rw [x52_43, ml_52]
theorem s52_46 (x1 : Int) (x2 : Int) (x3 : Int) (x4 : Int) (x5 : Int) (y0 : Int) (y1 : Int) (M : ma_M) (Q : Option ma_V → ma_S → ma_M → Prop) : ma_wp 52 46 [(2, 0), (0, x1), (0, x2), (0, x3), (3, x4), (3, x5)] [(0, y0), (0, y1), (2, 52)] mr_SH M Q ↔ (0 ≤ y1 ∧ y1 < 5) ∧ ma_wp 52 47 [(2, 0), (0, x1), (0, x2), (0, x3), (3, x4), (3, x5)] [] mr_SH (ma_up M 52 y1 y0) Q := by
  rw [x52_46, ml_52]
theorem s52_47 (x1 : Int) (x2 : Int) (x3 : Int) (x4 : Int) (x5 : Int) (M : ma_M) (Q : Option ma_V → ma_S → ma_M → Prop) : ma_wp 52 47 [(2, 0), (0, x1), (0, x2), (0, x3), (3, x4), (3, x5)] [] mr_SH M Q ↔ ma_wp 52 48 [(2, 0), (0, x1), (0, x2), (0, x3), (3, x4), (3, x5)] [(2, 0)] mr_SH M Q := by
  rw [x52_47]
  exact ⟨fun h => h.2, fun h => ⟨by decide, h⟩⟩
theorem s52_48 (x1 : Int) (x2 : Int) (x3 : Int) (x4 : Int) (x5 : Int) (M : ma_M) (Q : Option ma_V → ma_S → ma_M → Prop) (hF : mr_FIX M) : ma_wp 52 48 [(2, 0), (0, x1), (0, x2), (0, x3), (3, x4), (3, x5)] [(2, 0)] mr_SH M Q ↔ ma_wp 52 51 [(2, 0), (0, x1), (0, x2), (0, x3), (3, x4), (3, x5)] [(2, 52)] mr_SH M Q := by
  rw [x52_48, mf_0_7 hF, ml_0]
  exact ⟨fun h => h.2, fun h => ⟨by decide, h⟩⟩
theorem s52_53 (x1 : Int) (x2 : Int) (x3 : Int) (x4 : Int) (x5 : Int) (y0 : Int) (y2 : Int) (M : ma_M) (Q : Option ma_V → ma_S → ma_M → Prop) : ma_wp 52 53 [(2, 0), (0, x1), (0, x2), (0, x3), (3, x4), (3, x5)] [(0, y0), (2, 52), (0, y2), (2, 52)] mr_SH M Q ↔ (0 ≤ y0 ∧ y0 < 5) ∧ ma_wp 52 54 [(2, 0), (0, x1), (0, x2), (0, x3), (3, x4), (3, x5)] [(0, M 52 y0), (0, y2), (2, 52)] mr_SH M Q := by
  rw [x52_53, ml_52]
theorem s52_56 (x1 : Int) (x2 : Int) (x3 : Int) (x4 : Int) (x5 : Int) (y0 : Int) (y1 : Int) (M : ma_M) (Q : Option ma_V → ma_S → ma_M → Prop) : ma_wp 52 56 [(2, 0), (0, x1), (0, x2), (0, x3), (3, x4), (3, x5)] [(0, y0), (0, y1), (2, 52)] mr_SH M Q ↔ (0 ≤ y1 ∧ y1 < 5) ∧ ma_wp 52 57 [(2, 0), (0, x1), (0, x2), (0, x3), (3, x4), (3, x5)] [] mr_SH (ma_up M 52 y1 y0) Q := by
  rw [x52_56, ml_52]
theorem s52_57 (x1 : Int) (x2 : Int) (x3 : Int) (x4 : Int) (x5 : Int) (M : ma_M) (Q : Option ma_V → ma_S → ma_M → Prop) : ma_wp 52 57 [(2, 0), (0, x1), (0, x2), (0, x3), (3, x4), (3, x5)] [] mr_SH M Q ↔ ma_wp 52 58 [(2, 0), (0, x1), (0, x2), (0, x3), (3, x4), (3, x5)] [(2, 0)] mr_SH M Q := by
  rw [x52_57]
  exact ⟨fun h => h.2, fun h => ⟨by decide, h⟩⟩
theorem s52_59 (x1 : Int) (x2 : Int) (x3 : Int) (x4 : Int) (x5 : Int) (y0 : Int) (M : ma_M) (Q : Option ma_V → ma_S → ma_M → Prop) : ma_wp 52 59 [(2, 0), (0, x1), (0, x2), (0, x3), (3, x4), (3, x5)] [(0, y0), (2, 0)] mr_SH M Q ↔ ma_wp 52 60 [(2, 0), (0, x1), (0, x2), (0, x3), (3, x4), (3, x5)] [(2, 0), (0, y0), (2, 0)] mr_SH M Q := by
  rw [x52_59]
  exact ⟨fun h => h.2, fun h => ⟨by decide, h⟩⟩
theorem s52_60 (x1 : Int) (x2 : Int) (x3 : Int) (x4 : Int) (x5 : Int) (y1 : Int) (M : ma_M) (Q : Option ma_V → ma_S → ma_M → Prop) (hF : mr_FIX M) : ma_wp 52 60 [(2, 0), (0, x1), (0, x2), (0, x3), (3, x4), (3, x5)] [(2, 0), (0, y1), (2, 0)] mr_SH M Q ↔ ma_wp 52 63 [(2, 0), (0, x1), (0, x2), (0, x3), (3, x4), (3, x5)] [(2, 52), (0, y1), (2, 0)] mr_SH M Q := by
  rw [x52_60, mf_0_7 hF, ml_0]
  exact ⟨fun h => h.2, fun h => ⟨by decide, h⟩⟩
theorem s52_64 (x1 : Int) (x2 : Int) (x3 : Int) (x4 : Int) (x5 : Int) (y0 : Int) (y2 : Int) (M : ma_M) (Q : Option ma_V → ma_S → ma_M → Prop) : ma_wp 52 64 [(2, 0), (0, x1), (0, x2), (0, x3), (3, x4), (3, x5)] [(0, y0), (2, 52), (0, y2), (2, 0)] mr_SH M Q ↔ mr_do 62 [(2, 0), (0, y2), (2, 52), (0, y0)] mr_SH M (fun r sh M => ma_wp 52 67 [(2, 0), (0, x1), (0, x2), (0, x3), (3, x4), (3, x5)] (r.toList ++ []) sh M Q) := by
  rw [x52_64, ml_0]
  exact ⟨fun h => h.2, fun h => ⟨by decide, h⟩⟩
theorem s52_69 (x1 : Int) (x2 : Int) (x3 : Int) (x4 : Int) (x5 : Int) (M : ma_M) (Q : Option ma_V → ma_S → ma_M → Prop) : ma_wp 52 69 [(2, 0), (0, x1), (0, x2), (0, x3), (0, x4), (3, x5)] [] mr_SH M Q ↔ ma_wp 52 70 [(2, 0), (0, x1), (0, x2), (0, x3), (0, x4), (3, x5)] [(2, 0)] mr_SH M Q := by
  rw [x52_69]
  exact ⟨fun h => h.2, fun h => ⟨by decide, h⟩⟩
theorem s52_70 (x1 : Int) (x2 : Int) (x3 : Int) (x4 : Int) (x5 : Int) (M : ma_M) (Q : Option ma_V → ma_S → ma_M → Prop) (hF : mr_FIX M) : ma_wp 52 70 [(2, 0), (0, x1), (0, x2), (0, x3), (0, x4), (3, x5)] [(2, 0)] mr_SH M Q ↔ ma_wp 52 73 [(2, 0), (0, x1), (0, x2), (0, x3), (0, x4), (3, x5)] [(2, 8)] mr_SH M Q := by
  rw [x52_70, mf_0_1 hF, ml_0]
  exact ⟨fun h => h.2, fun h => ⟨by decide, h⟩⟩
theorem s52_73 (x1 : Int) (x2 : Int) (x3 : Int) (x4 : Int) (x5 : Int) (M : ma_M) (Q : Option ma_V → ma_S → ma_M → Prop) (hF : mr_FIX M) : ma_wp 52 73 [(2, 0), (0, x1), (0, x2), (0, x3), (0, x4), (3, x5)] [(2, 8)] mr_SH M Q ↔ ma_wp 52 76 [(2, 0), (0, x1), (0, x2), (0, x3), (0, x4), (3, x5)] [(2, 34)] mr_SH M Q := by
  rw [x52_73, mf_8_1 hF, ml_8]
  exact ⟨fun h => h.2, fun h => ⟨by decide, h⟩⟩
theorem s52_76 (x1 : Int) (x2 : Int) (x3 : Int) (x4 : Int) (x5 : Int) (M : ma_M) (Q : Option ma_V → ma_S → ma_M → Prop) : ma_wp 52 76 [(2, 0), (0, x1), (0, x2), (0, x3), (0, x4), (3, x5)] [(2, 34)] mr_SH M Q ↔ ma_wp 52 77 [(2, 0), (0, x1), (0, x2), (0, x3), (0, x4), (3, x5)] [(2, 0), (2, 34)] mr_SH M Q := by
  rw [x52_76]
  exact ⟨fun h => h.2, fun h => ⟨by decide, h⟩⟩
theorem s52_77 (x1 : Int) (x2 : Int) (x3 : Int) (x4 : Int) (x5 : Int) (M : ma_M) (Q : Option ma_V → ma_S → ma_M → Prop) (hF : mr_FIX M) : ma_wp 52 77 [(2, 0), (0, x1), (0, x2), (0, x3), (0, x4), (3, x5)] [(2, 0), (2, 34)] mr_SH M Q ↔ ma_wp 52 80 [(2, 0), (0, x1), (0, x2), (0, x3), (0, x4), (3, x5)] [(2, 54), (2, 34)] mr_SH M Q := by
  rw [x52_77, mf_0_9 hF, ml_0]
  exact ⟨fun h => h.2, fun h => ⟨by decide, h⟩⟩
theorem s52_81 (x1 : Int) (x2 : Int) (x3 : Int) (x4 : Int) (x5 : Int) (y0 : Int) (M : ma_M) (Q : Option ma_V → ma_S → ma_M → Prop) : ma_wp 52 81 [(2, 0), (0, x1), (0, x2), (0, x3), (0, x4), (3, x5)] [(0, y0), (2, 54), (2, 34)] mr_SH M Q ↔ (0 ≤ y0 ∧ y0 < 5) ∧ ma_wp 52 82 [(2, 0), (0, x1), (0, x2), (0, x3), (0, x4), (3, x5)] [(0, M 54 y0), (2, 34)] mr_SH M Q := by
  rw [x52_81, ml_54]
theorem s52_82 (x1 : Int) (x2 : Int) (x3 : Int) (x4 : Int) (x5 : Int) (y0 : Int) (M : ma_M) (Q : Option ma_V → ma_S → ma_M → Prop) : ma_wp 52 82 [(2, 0), (0, x1), (0, x2), (0, x3), (0, x4), (3, x5)] [(0, y0), (2, 34)] mr_SH M Q ↔ (0 ≤ y0 ∧ y0 < 24) ∧ ma_wp 52 83 [(2, 0), (0, x1), (0, x2), (0, x3), (0, x4), (3, x5)] [(0, M 34 y0)] mr_SH M Q := by
  rw [x52_82, ml_34]
theorem s52_89 (x1 : Int) (x2 : Int) (x3 : Int) (x4 : Int) (x5 : Int) (M : ma_M) (Q : Option ma_V → ma_S → ma_M → Prop) : ma_wp 52 89 [(2, 0), (0, x1), (0, x2), (0, x3), (0, x4), (3, x5)] [] mr_SH M Q ↔ ma_wp 52 90 [(2, 0), (0, x1), (0, x2), (0, x3), (0, x4), (3, x5)] [(2, 0)] mr_SH M Q := by
  rw [x52_89]
  exact ⟨fun h => h.2, fun h => ⟨by decide, h⟩⟩
theorem s52_93 (x1 : Int) (x2 : Int) (x3 : Int) (x4 : Int) (x5 : Int) (y0 : Int) (y1 : Int) (y2 : Int) (M : ma_M) (Q : Option ma_V → ma_S → ma_M → Prop) : ma_wp 52 93 [(2, 0), (0, x1), (0, x2), (0, x3), (0, x4), (3, x5)] [(0, y0), (0, y1), (0, y2), (2, 0)] mr_SH M Q ↔ mr_do 63 [(2, 0), (0, y2), (0, y1), (0, y0)] mr_SH M (fun r sh M => ma_wp 52 96 [(2, 0), (0, x1), (0, x2), (0, x3), (0, x4), (3, x5)] (r.toList ++ []) sh M Q) := by
  rw [x52_93, ml_0]
  exact ⟨fun h => h.2, fun h => ⟨by decide, h⟩⟩
theorem s52_96 (x1 : Int) (x2 : Int) (x3 : Int) (x4 : Int) (x5 : Int) (y0 : Int) (M : ma_M) (Q : Option ma_V → ma_S → ma_M → Prop) : ma_wp 52 96 [(2, 0), (0, x1), (0, x2), (0, x3), (0, x4), (3, x5)] [(0, y0)] mr_SH M Q ↔ ma_wp 52 97 [(2, 0), (0, x1), (0, x2), (0, x3), (0, x4), (3, x5)] [(2, 0), (0, y0)] mr_SH M Q := by
  rw [x52_96]
  exact ⟨fun h => h.2, fun h => ⟨by decide, h⟩⟩
theorem s52_100 (x1 : Int) (x2 : Int) (x3 : Int) (x4 : Int) (x5 : Int) (y0 : Int) (y1 : Int) (y2 : Int) (y4 : Int) (M : ma_M) (Q : Option ma_V → ma_S → ma_M → Prop) : ma_wp 52 100 [(2, 0), (0, x1), (0, x2), (0, x3), (0, x4), (3, x5)] [(0, y0), (0, y1), (0, y2), (2, 0), (0, y4)] mr_SH M Q ↔ mr_do 63 [(2, 0), (0, y2), (0, y1), (0, y0)] mr_SH M (fun r sh M => ma_wp 52 103 [(2, 0), (0, x1), (0, x2), (0, x3), (0, x4), (3, x5)] (r.toList ++ [(0, y4)]) sh M Q) := by
  rw [x52_100, ml_0]
  exact ⟨fun h => h.2, fun h => ⟨by decide, h⟩⟩
theorem s53_0 (x1 : Int) (x2 : Int) (M : ma_M) (Q : Option ma_V → ma_S → ma_M → Prop) : ma_wp 53 0 [(2, 0), (0, x1), (0, x2)] [] mr_SH M Q ↔ ma_wp 53 1 [(2, 0), (0, x1), (0, x2)] [(2, 0)] mr_SH M Q := by
  rw [x53_0]
  exact ⟨fun h => h.2, fun h => ⟨by decide, h⟩⟩
theorem s53_2 (x1 : Int) (x2 : Int) (y0 : Int) (M : ma_M) (Q : Option ma_V → ma_S → ma_M → Prop) : ma_wp 53 2 [(2, 0), (0, x1), (0, x2)] [(0, y0), (2, 0)] mr_SH M Q ↔ mr_do 61 [(2, 0), (0, y0)] mr_SH M (fun r sh M => ma_wp 53 5 [(2, 0), (0, x1), (0, x2)] (r.toList ++ []) sh M Q) := by
  rw [x53_2, ml_0]
  exact ⟨fun h => h.2, fun h => ⟨by decide, h⟩⟩
theorem s53_8 (x1 : Int) (x2 : Int) (M : ma_M) (Q : Option ma_V → ma_S → ma_M → Prop) : ma_wp 53 8 [(2, 0), (0, x1), (0, x2)] [] mr_SH M Q ↔ ma_wp 53 9 [(2, 0), (0, x1), (0, x2)] [(2, 0)] mr_SH M Q := by
  rw [x53_8]
  exact ⟨fun h => h.2, fun h => ⟨by decide, h⟩⟩
theorem s53_9 (x1 : Int) (x2 : Int) (M : ma_M) (Q : Option ma_V → ma_S → ma_M → Prop) (hF : mr_FIX M) : ma_wp 53 9 [(2, 0), (0, x1), (0, x2)] [(2, 0)] mr_SH M Q ↔ ma_wp 53 12 [(2, 0), (0, x1), (0, x2)] [(2, 1)] mr_SH M Q := by
  rw [x53_9, mf_0_0 hF, ml_0]
  exact ⟨fun h => h.2, fun h => ⟨by decide, h⟩⟩
theorem s53_13 (x1 : Int) (x2 : Int) (y0 : Int) (M : ma_M) (Q : Option ma_V → ma_S → ma_M → Prop) : ma_wp 53 13 [(2, 0), (0, x1), (0, x2)] [(0, y0), (2, 1)] mr_SH M Q ↔ mr_do 6 [(2, 1), (0, y0)] mr_SH M (fun r sh M => ma_wp 53 16 [(2, 0), (0, x1), (0, x2)] (r.toList ++ []) sh M Q) := by
  rw [x53_13, ml_1]
  exact ⟨fun h => h.2, fun h => ⟨by decide, h⟩⟩
theorem s53_19 (x1 : Int) (x2 : Int) (M : ma_M) (Q : Option ma_V → ma_S → ma_M → Prop) : ma_wp 53 19 [(2, 0), (0, x1), (0, x2)] [] mr_SH M Q ↔ ma_wp 53 20 [(2, 0), (0, x1), (0, x2)] [(2, 0)] mr_SH M Q := by
  rw [x53_19]
  exact ⟨fun h => h.2, fun h => ⟨by decide, h⟩⟩
theorem s53_20 (x1 : Int) (x2 : Int) (M : ma_M) (Q : Option ma_V → ma_S → ma_M → Prop) (hF : mr_FIX M) : ma_wp 53 20 [(2, 0), (0, x1), (0, x2)] [(2, 0)] mr_SH M Q ↔ ma_wp 53 23 [(2, 0), (0, x1), (0, x2)] [(2, 1)] mr_SH M Q := by
  rw [x53_20, mf_0_0 hF, ml_0]
  exact ⟨fun h => h.2, fun h => ⟨by decide, h⟩⟩
theorem s53_23 (x1 : Int) (x2 : Int) (M : ma_M) (Q : Option ma_V → ma_S → ma_M → Prop) : ma_wp 53 23 [(2, 0), (0, x1), (0, x2)] [(2, 1)] mr_SH M Q ↔ ma_wp 53 24 [(2, 0), (0, x1), (0, x2)] [(2, 0), (2, 1)] mr_SH M Q := by
  rw [x53_23]
  exact ⟨fun h => h.2, fun h => ⟨by decide, h⟩⟩
theorem s53_24 (x1 : Int) (x2 : Int) (M : ma_M) (Q : Option ma_V → ma_S → ma_M → Prop) (hF : mr_FIX M) : ma_wp 53 24 [(2, 0), (0, x1), (0, x2)] [(2, 0), (2, 1)] mr_SH M Q ↔ ma_wp 53 27 [(2, 0), (0, x1), (0, x2)] [(2, 54), (2, 1)] mr_SH M Q := by
  rw [x53_24, mf_0_9 hF, ml_0]
  exact ⟨fun h => h.2, fun h => ⟨by decide, h⟩⟩
theorem s53_28 (x1 : Int) (x2 : Int) (y0 : Int) (M : ma_M) (Q : Option ma_V → ma_S → ma_M → Prop) : ma_wp 53 28 [(2, 0), (0, x1), (0, x2)] [(0, y0), (2, 54), (2, 1)] mr_SH M Q ↔ (0 ≤ y0 ∧ y0 < 5) ∧ ma_wp 53 29 [(2, 0), (0, x1), (0, x2)] [(0, M 54 y0), (2, 1)] mr_SH M Q := by
  rw [x53_28, ml_54]
theorem s53_30 (x1 : Int) (x2 : Int) (y0 : Int) (y1 : Int) (M : ma_M) (Q : Option ma_V → ma_S → ma_M → Prop) : ma_wp 53 30 [(2, 0), (0, x1), (0, x2)] [(0, y0), (0, y1), (2, 1)] mr_SH M Q ↔ mr_do 8 [(2, 1), (0, y1), (0, y0)] mr_SH M (fun r sh M => ma_wp 53 33 [(2, 0), (0, x1), (0, x2)] (r.toList ++ []) sh M Q) := by
  rw [x53_30, ml_1]
  exact ⟨fun h => h.2, fun h => ⟨by decide, h⟩⟩
theorem s54_0 (x1 : Int) (M : ma_M) (Q : Option ma_V → ma_S → ma_M → Prop) : ma_wp 54 0 [(2, 0), (0, x1)] [] mr_SH M Q ↔ ma_wp 54 1 [(2, 0), (0, x1)] [(2, 0)] mr_SH M Q := by
  rw [x54_0]
  exact ⟨fun h => h.2, fun h => ⟨by decide, h⟩⟩
theorem s54_1 (x1 : Int) (M : ma_M) (Q : Option ma_V → ma_S → ma_M → Prop) (hF : mr_FIX M) : ma_wp 54 1 [(2, 0), (0, x1)] [(2, 0)] mr_SH M Q ↔ ma_wp 54 4 [(2, 0), (0, x1)] [(2, 1)] mr_SH M Q := by
  rw [x54_1, mf_0_0 hF, ml_0]
  exact ⟨fun h => h.2, fun h => ⟨by decide, h⟩⟩
theorem s54_5 (x1 : Int) (y0 : Int) (M : ma_M) (Q : Option ma_V → ma_S → ma_M → Prop) : ma_wp 54 5 [(2, 0), (0, x1)] [(0, y0), (2, 1)] mr_SH M Q ↔ mr_do 6 [(2, 1), (0, y0)] mr_SH M (fun r sh M => ma_wp 54 8 [(2, 0), (0, x1)] (r.toList ++ []) sh M Q) := by
  rw [x54_5, ml_1]
  exact ⟨fun h => h.2, fun h => ⟨by decide, h⟩⟩
theorem s54_14 (x1 : Int) (M : ma_M) (Q : Option ma_V → ma_S → ma_M → Prop) : ma_wp 54 14 [(2, 0), (0, x1)] [] mr_SH M Q ↔ ma_wp 54 15 [(2, 0), (0, x1)] [(2, 0)] mr_SH M Q := by
  rw [x54_14]
  exact ⟨fun h => h.2, fun h => ⟨by decide, h⟩⟩
theorem s54_15 (x1 : Int) (M : ma_M) (Q : Option ma_V → ma_S → ma_M → Prop) : ma_wp 54 15 [(2, 0), (0, x1)] [(2, 0)] mr_SH M Q ↔ mr_do 67 [(2, 0)] mr_SH M (fun r sh M => ma_wp 54 18 [(2, 0), (0, x1)] (r.toList ++ []) sh M Q) := by
  rw [x54_15, ml_0]
  exact ⟨fun h => h.2, fun h => ⟨by decide, h⟩⟩
theorem s54_18 (x1 : Int) (M : ma_M) (Q : Option ma_V → ma_S → ma_M → Prop) : ma_wp 54 18 [(2, 0), (0, x1)] [] mr_SH M Q ↔ ma_wp 54 19 [(2, 0), (0, x1)] [(2, 0)] mr_SH M Q := by
  rw [x54_18]
  exact ⟨fun h => h.2, fun h => ⟨by decide, h⟩⟩
theorem s54_19 (x1 : Int) (M : ma_M) (Q : Option ma_V → ma_S → ma_M → Prop) (hF : mr_FIX M) : ma_wp 54 19 [(2, 0), (0, x1)] [(2, 0)] mr_SH M Q ↔ ma_wp 54 22 [(2, 0), (0, x1)] [(2, 53)] mr_SH M Q := by
  rw [x54_19, mf_0_8 hF, ml_0]
  exact ⟨fun h => h.2, fun h => ⟨by decide, h⟩⟩
theorem s54_23 (x1 : Int) (y0 : Int) (M : ma_M) (Q : Option ma_V → ma_S → ma_M → Prop) : ma_wp 54 23 [(2, 0), (0, x1)] [(0, y0), (2, 53)] mr_SH M Q ↔ (0 ≤ y0 ∧ y0 < 5) ∧ ma_wp 54 24 [(2, 0), (0, x1)] [(0, M 53 y0)] mr_SH M Q := by
  rw [x54_23, ml_53]
theorem s55_0 (x1 : Int) (x2 : Int) (M : ma_M) (Q : Option ma_V → ma_S → ma_M → Prop) : ma_wp 55 0 [(2, 0), (3, x1), (3, x2)] [] mr_SH M Q ↔ ma_wp 55 1 [(2, 0), (3, x1), (3, x2)] [(2, 0)] mr_SH M Q := by
  rw [x55_0]
  exact ⟨fun h => h.2, fun h => ⟨by decide, h⟩⟩
theorem s55_1 (x1 : Int) (x2 : Int) (M : ma_M) (Q : Option ma_V → ma_S → ma_M → Prop) : ma_wp 55 1 [(2, 0), (3, x1), (3, x2)] [(2, 0)] mr_SH M Q ↔ mr_do 67 [(2, 0)] mr_SH M (fun r sh M => ma_wp 55 4 [(2, 0), (3, x1), (3, x2)] (r.toList ++ []) sh M Q) := by
  rw [x55_1, ml_0]
  exact ⟨fun h => h.2, fun h => ⟨by decide, h⟩⟩
theorem s55_9 (x1 : Int) (x2 : Int) (y0 : Int) (M : ma_M) (Q : Option ma_V → ma_S → ma_M → Prop) : ma_wp 55 9 [(2, 0), (0, x1), (0, x2)] [(0, y0)] mr_SH M Q ↔ ma_wp 55 10 [(2, 0), (0, x1), (0, x2)] [(2, 0), (0, y0)] mr_SH M Q := by
  rw [x55_9]
  exact ⟨fun h => h.2, fun h => ⟨by decide, h⟩⟩
theorem s55_10 (x1 : Int) (x2 : Int) (y1 : Int) (M : ma_M) (Q : Option ma_V → ma_S → ma_M → Prop) (hF : mr_FIX M) : ma_wp 55 10 [(2, 0), (0, x1), (0, x2)] [(2, 0), (0, y1)] mr_SH M Q ↔ ma_wp 55 13 [(2, 0), (0, x1), (0, x2)] [(2, 1), (0, y1)] mr_SH M Q := by
  rw [x55_10, mf_0_0 hF, ml_0]
  exact ⟨fun h => h.2, fun h => ⟨by decide, h⟩⟩
theorem s55_13 (x1 : Int) (x2 : Int) (y1 : Int) (M : ma_M) (Q : Option ma_V → ma_S → ma_M → Prop) : ma_wp 55 13 [(2, 0), (0, x1), (0, x2)] [(2, 1), (0, y1)] mr_SH M Q ↔ ma_wp 55 16 [(2, 0), (0, x1), (0, x2)] [(0, M 1 1), (0, y1)] mr_SH M Q := by
  rw [x55_13, ml_1]
  exact ⟨fun h => h.2, fun h => ⟨by decide, h⟩⟩
theorem s55_20 (x1 : Int) (x2 : Int) (y0 : Int) (M : ma_M) (Q : Option ma_V → ma_S → ma_M → Prop) : ma_wp 55 20 [(2, 0), (0, x1), (0, x2)] [(0, y0)] mr_SH M Q ↔ ma_wp 55 21 [(2, 0), (0, x1), (0, x2)] [(2, 0), (0, y0)] mr_SH M Q := by
  rw [x55_20]
  exact ⟨fun h => h.2, fun h => ⟨by decide, h⟩⟩
theorem s55_21 (x1 : Int) (x2 : Int) (y1 : Int) (M : ma_M) (Q : Option ma_V → ma_S → ma_M → Prop) (hF : mr_FIX M) : ma_wp 55 21 [(2, 0), (0, x1), (0, x2)] [(2, 0), (0, y1)] mr_SH M Q ↔ ma_wp 55 24 [(2, 0), (0, x1), (0, x2)] [(2, 53), (0, y1)] mr_SH M Q := by
  rw [x55_21, mf_0_8 hF, ml_0]
  exact ⟨fun h => h.2, fun h => ⟨by decide, h⟩⟩
theorem s55_25 (x1 : Int) (x2 : Int) (y0 : Int) (y2 : Int) (M : ma_M) (Q : Option ma_V → ma_S → ma_M → Prop) : ma_wp 55 25 [(2, 0), (0, x1), (0, x2)] [(0, y0), (2, 53), (0, y2)] mr_SH M Q ↔ (0 ≤ y0 ∧ y0 < 5) ∧ ma_wp 55 26 [(2, 0), (0, x1), (0, x2)] [(0, M 53 y0), (0, y2)] mr_SH M Q := by
  rw [x55_25, ml_53]
theorem s56_0 (x1 : Int) (x2 : Int) (M : ma_M) (Q : Option ma_V → ma_S → ma_M → Prop) : ma_wp 56 0 [(2, 0), (0, x1), (0, x2)] [] mr_SH M Q ↔ ma_wp 56 1 [(2, 0), (0, x1), (0, x2)] [(2, 0)] mr_SH M Q := by
  rw [x56_0]
  exact ⟨fun h => h.2, fun h => ⟨by decide, h⟩⟩
theorem s56_2 (x1 : Int) (x2 : Int) (y0 : Int) (M : ma_M) (Q : Option ma_V → ma_S → ma_M → Prop) : ma_wp 56 2 [(2, 0), (0, x1), (0, x2)] [(0, y0), (2, 0)] mr_SH M Q ↔ mr_do 61 [(2, 0), (0, y0)] mr_SH M (fun r sh M => ma_wp 56 5 [(2, 0), (0, x1), (0, x2)] (r.toList ++ []) sh M Q) := by
  rw [x56_2, ml_0]
  exact ⟨fun h => h.2, fun h => ⟨by decide, h⟩⟩
theorem s56_8 (x1 : Int) (x2 : Int) (M : ma_M) (Q : Option ma_V → ma_S → ma_M → Prop) : ma_wp 56 8 [(2, 0), (0, x1), (0, x2)] [] mr_SH M Q ↔ ma_wp 56 9 [(2, 0), (0, x1), (0, x2)] [(2, 0)] mr_SH M Q := by
  rw [x56_8]
  exact ⟨fun h => h.2, fun h => ⟨by decide, h⟩⟩
theorem s56_9 (x1 : Int) (x2 : Int) (M : ma_M) (Q : Option ma_V → ma_S → ma_M → Prop) (hF : mr_FIX M) : ma_wp 56 9 [(2, 0), (0, x1), (0, x2)] [(2, 0)] mr_SH M Q ↔ ma_wp 56 12 [(2, 0), (0, x1), (0, x2)] [(2, 1)] mr_SH M Q := by
  rw [x56_9, mf_0_0 hF, ml_0]
  exact ⟨fun h => h.2, fun h => ⟨by decide, h⟩⟩
theorem s56_13 (x1 : Int) (x2 : Int) (y0 : Int) (M : ma_M) (Q : Option ma_V → ma_S → ma_M → Prop) : ma_wp 56 13 [(2, 0), (0, x1), (0, x2)] [(0, y0), (2, 1)] mr_SH M Q ↔ mr_do 6 [(2, 1), (0, y0)] mr_SH M (fun r sh M => ma_wp 56 16 [(2, 0), (0, x1), (0, x2)] (r.toList ++ []) sh M Q) := by
  rw [x56_13, ml_1]
  exact ⟨fun h => h.2, fun h => ⟨by decide, h⟩⟩
theorem s56_22 (x1 : Int) (x2 : Int) (M : ma_M) (Q : Option ma_V → ma_S → ma_M → Prop) : ma_wp 56 22 [(2, 0), (0, x1), (0, x2)] [] mr_SH M Q ↔ ma_wp 56 23 [(2, 0), (0, x1), (0, x2)] [(2, 0)] mr_SH M Q := by
  rw [x56_22]
  exact ⟨fun h => h.2, fun h => ⟨by decide, h⟩⟩
theorem s56_26 (x1 : Int) (x2 : Int) (y0 : Int) (y1 : Int) (y2 : Int) (M : ma_M) (Q : Option ma_V → ma_S → ma_M → Prop) : ma_wp 56 26 [(2, 0), (0, x1), (0, x2)] [(0, y0), (0, y1), (0, y2), (2, 0)] mr_SH M Q ↔ mr_do 63 [(2, 0), (0, y2), (0, y1), (0, y0)] mr_SH M (fun r sh M => ma_wp 56 29 [(2, 0), (0, x1), (0, x2)] (r.toList ++ []) sh M Q) := by
  rw [x56_26, ml_0]
  exact ⟨fun h => h.2, fun h => ⟨by decide, h⟩⟩
theorem s57_0  (M : ma_M) (Q : Option ma_V → ma_S → ma_M → Prop) : ma_wp 57 0 [(2, 0)] [] mr_SH M Q ↔ ma_wp 57 1 [(2, 0)] [(2, 0)] mr_SH M Q := by
  rw [x57_0]
  exact ⟨fun h => h.2, fun h => ⟨by decide, h⟩⟩
theorem s57_1  (M : ma_M) (Q : Option ma_V → ma_S → ma_M → Prop) (hF : mr_FIX M) : ma_wp 57 1 [(2, 0)] [(2, 0)] mr_SH M Q ↔ ma_wp 57 4 [(2, 0)] [(2, 8)] mr_SH M Q := by
  rw [x57_1, mf_0_1 hF, ml_0]
  exact ⟨fun h => h.2, fun h => ⟨by decide, h⟩⟩
theorem s57_4  (M : ma_M) (Q : Option ma_V → ma_S → ma_M → Prop) : ma_wp 57 4 [(2, 0)] [(2, 8)] mr_SH M Q ↔ ma_wp 57 5 [(2, 0)] [(2, 0), (2, 8)] mr_SH M Q := by
  rw [x57_4]
  exact ⟨fun h => h.2, fun h => ⟨by decide, h⟩⟩
theorem s57_5  (M : ma_M) (Q : Option ma_V → ma_S → ma_M → Prop) (hF : mr_FIX M) : ma_wp 57 5 [(2, 0)] [(2, 0), (2, 8)] mr_SH M Q ↔ ma_wp 57 8 [(2, 0)] [(2, 1), (2, 8)] mr_SH M Q := by
  rw [x57_5, mf_0_0 hF, ml_0]
  exact ⟨fun h => h.2, fun h => ⟨by decide, h⟩⟩
theorem s57_8  (M : ma_M) (Q : Option ma_V → ma_S → ma_M → Prop) : ma_wp 57 8 [(2, 0)] [(2, 1), (2, 8)] mr_SH M Q ↔ ma_wp 57 9 [(2, 0)] [(2, 0), (2, 1), (2, 8)] mr_SH M Q := by
  rw [x57_8]
  exact ⟨fun h => h.2, fun h => ⟨by decide, h⟩⟩
theorem s57_9  (M : ma_M) (Q : Option ma_V → ma_S → ma_M → Prop) (hF : mr_FIX M) : ma_wp 57 9 [(2, 0)] [(2, 0), (2, 1), (2, 8)] mr_SH M Q ↔ ma_wp 57 12 [(2, 0)] [(2, 50), (2, 1), (2, 8)] mr_SH M Q := by
  rw [x57_9, mf_0_5 hF, ml_0]
  exact ⟨fun h => h.2, fun h => ⟨by decide, h⟩⟩
theorem s57_12  (M : ma_M) (Q : Option ma_V → ma_S → ma_M → Prop) : ma_wp 57 12 [(2, 0)] [(2, 50), (2, 1), (2, 8)] mr_SH M Q ↔ ma_wp 57 13 [(2, 0)] [(2, 0), (2, 50), (2, 1), (2, 8)] mr_SH M Q := by
  rw [x57_12]
  exact ⟨fun h => h.2, fun h => ⟨by decide, h⟩⟩
theorem s57_13  (M : ma_M) (Q : Option ma_V → ma_S → ma_M → Prop) (hF : mr_FIX M) : ma_wp 57 13 [(2, 0)] [(2, 0), (2, 50), (2, 1), (2, 8)] mr_SH M Q ↔ ma_wp 57 16 [(2, 0)] [(2, 51), (2, 50), (2, 1), (2, 8)] mr_SH M Q := by
  rw [x57_13, mf_0_6 hF, ml_0]
  exact ⟨fun h => h.2, fun h => ⟨by decide, h⟩⟩
theorem s57_17 (y0 : Int) (M : ma_M) (Q : Option ma_V → ma_S → ma_M → Prop) : ma_wp 57 17 [(2, 0)] [(0, y0), (2, 51), (2, 50), (2, 1), (2, 8)] mr_SH M Q ↔ mr_do 15 [(2, 8), (2, 1), (2, 50), (2, 51), (0, y0)] mr_SH M (fun r sh M => ma_wp 57 20 [(2, 0)] (r.toList ++ []) sh M Q) := by
  rw [x57_17, ml_8]
  exact ⟨fun h => h.2, fun h => ⟨by decide, h⟩⟩
theorem s57_20  (M : ma_M) (Q : Option ma_V → ma_S → ma_M → Prop) : ma_wp 57 20 [(2, 0)] [] mr_SH M Q ↔ ma_wp 57 21 [(2, 0)] [(2, 0)] mr_SH M Q := by
  rw [x57_20]
  exact ⟨fun h => h.2, fun h => ⟨by decide, h⟩⟩
theorem s57_21  (M : ma_M) (Q : Option ma_V → ma_S → ma_M → Prop) (hF : mr_FIX M) : ma_wp 57 21 [(2, 0)] [(2, 0)] mr_SH M Q ↔ ma_wp 57 24 [(2, 0)] [(2, 37)] mr_SH M Q := by
  rw [x57_21, mf_0_3 hF, ml_0]
  exact ⟨fun h => h.2, fun h => ⟨by decide, h⟩⟩
theorem s57_24  (M : ma_M) (Q : Option ma_V → ma_S → ma_M → Prop) : ma_wp 57 24 [(2, 0)] [(2, 37)] mr_SH M Q ↔ ma_wp 57 25 [(2, 0)] [(2, 0), (2, 37)] mr_SH M Q := by
  rw [x57_24]
  exact ⟨fun h => h.2, fun h => ⟨by decide, h⟩⟩
theorem s57_25  (M : ma_M) (Q : Option ma_V → ma_S → ma_M → Prop) (hF : mr_FIX M) : ma_wp 57 25 [(2, 0)] [(2, 0), (2, 37)] mr_SH M Q ↔ ma_wp 57 28 [(2, 0)] [(2, 1), (2, 37)] mr_SH M Q := by
  rw [x57_25, mf_0_0 hF, ml_0]
  exact ⟨fun h => h.2, fun h => ⟨by decide, h⟩⟩
theorem s57_28  (M : ma_M) (Q : Option ma_V → ma_S → ma_M → Prop) : ma_wp 57 28 [(2, 0)] [(2, 1), (2, 37)] mr_SH M Q ↔ ma_wp 57 29 [(2, 0)] [(2, 0), (2, 1), (2, 37)] mr_SH M Q := by
  rw [x57_28]
  exact ⟨fun h => h.2, fun h => ⟨by decide, h⟩⟩
theorem s57_29  (M : ma_M) (Q : Option ma_V → ma_S → ma_M → Prop) (hF : mr_FIX M) : ma_wp 57 29 [(2, 0)] [(2, 0), (2, 1), (2, 37)] mr_SH M Q ↔ ma_wp 57 32 [(2, 0)] [(2, 8), (2, 1), (2, 37)] mr_SH M Q := by
  rw [x57_29, mf_0_1 hF, ml_0]
  exact ⟨fun h => h.2, fun h => ⟨by decide, h⟩⟩
theorem s57_32  (M : ma_M) (Q : Option ma_V → ma_S → ma_M → Prop) : ma_wp 57 32 [(2, 0)] [(2, 8), (2, 1), (2, 37)] mr_SH M Q ↔ ma_wp 57 33 [(2, 0)] [(2, 0), (2, 8), (2, 1), (2, 37)] mr_SH M Q := by
  rw [x57_32]
  exact ⟨fun h => h.2, fun h => ⟨by decide, h⟩⟩
theorem s57_33  (M : ma_M) (Q : Option ma_V → ma_S → ma_M → Prop) (hF : mr_FIX M) : ma_wp 57 33 [(2, 0)] [(2, 0), (2, 8), (2, 1), (2, 37)] mr_SH M Q ↔ ma_wp 57 36 [(2, 0)] [(2, 54), (2, 8), (2, 1), (2, 37)] mr_SH M Q := by
  rw [x57_33, mf_0_9 hF, ml_0]
  exact ⟨fun h => h.2, fun h => ⟨by decide, h⟩⟩
theorem s57_36  (M : ma_M) (Q : Option ma_V → ma_S → ma_M → Prop) : ma_wp 57 36 [(2, 0)] [(2, 54), (2, 8), (2, 1), (2, 37)] mr_SH M Q ↔ ma_wp 57 37 [(2, 0)] [(2, 0), (2, 54), (2, 8), (2, 1), (2, 37)] mr_SH M Q := by
  rw [x57_36]
  exact ⟨fun h => h.2, fun h => ⟨by decide, h⟩⟩
theorem s57_37  (M : ma_M) (Q : Option ma_V → ma_S → ma_M → Prop) : ma_wp 57 37 [(2, 0)] [(2, 0), (2, 54), (2, 8), (2, 1), (2, 37)] mr_SH M Q ↔ ma_wp 57 40 [(2, 0)] [(0, M 0 11), (2, 54), (2, 8), (2, 1), (2, 37)] mr_SH M Q := by
  rw [x57_37, ml_0]
  exact ⟨fun h => h.2, fun h => ⟨by decide, h⟩⟩
theorem s57_40 (y0 : Int) (M : ma_M) (Q : Option ma_V → ma_S → ma_M → Prop) : ma_wp 57 40 [(2, 0)] [(0, y0), (2, 54), (2, 8), (2, 1), (2, 37)] mr_SH M Q ↔ mr_do 31 [(2, 37), (2, 1), (2, 8), (2, 54), (0, y0)] mr_SH M (fun r sh M => ma_wp 57 43 [(2, 0)] (r.toList ++ []) sh M Q) := by
  rw [x57_40, ml_37]
  exact ⟨fun h => h.2, fun h => ⟨by decide, h⟩⟩
theorem s58_0 (x1 : Int) (x2 : Int) (x3 : Int) (M : ma_M) (Q : Option ma_V → ma_S → ma_M → Prop) : ma_wp 58 0 [(2, 0), (0, x1), (0, x2), (3, x3)] [] mr_SH M Q ↔ ma_wp 58 1 [(2, 0), (0, x1), (0, x2), (3, x3)] [(2, 0)] mr_SH M Q := by
  rw [x58_0]
  exact ⟨fun h => h.2, fun h => ⟨by decide, h⟩⟩
theorem s58_1 (x1 : Int) (x2 : Int) (x3 : Int) (M : ma_M) (Q : Option ma_V → ma_S → ma_M → Prop) : ma_wp 58 1 [(2, 0), (0, x1), (0, x2), (3, x3)] [(2, 0)] mr_SH M Q ↔ ma_wp 58 4 [(2, 0), (0, x1), (0, x2), (3, x3)] [(0, M 0 11)] mr_SH M Q := by
  rw [x58_1, ml_0]
  exact ⟨fun h => h.2, fun h => ⟨by decide, h⟩⟩
theorem s58_7 (x1 : Int) (x2 : Int) (x3 : Int) (M : ma_M) (Q : Option ma_V → ma_S → ma_M → Prop) : ma_wp 58 7 [(2, 0), (0, x1), (0, x2), (3, x3)] [] mr_SH M Q ↔ ma_wp 58 8 [(2, 0), (0, x1), (0, x2), (3, x3)] [(2, 0)] mr_SH M Q := by
  rw [x58_7]
  exact ⟨fun h => h.2, fun h => ⟨by decide, h⟩⟩
theorem s58_8 (x1 : Int) (x2 : Int) (x3 : Int) (M : ma_M) (Q : Option ma_V → ma_S → ma_M → Prop) : ma_wp 58 8 [(2, 0), (0, x1), (0, x2), (3, x3)] [(2, 0)] mr_SH M Q ↔ ma_wp 58 11 [(2, 0), (0, x1), (0, x2), (3, x3)] [(0, M 0 11)] mr_SH M Q := by
  rw [x58_8, ml_0]
  exact ⟨fun h => h.2, fun h => ⟨by decide, h⟩⟩
theorem s58_11 (x1 : Int) (x2 : Int) (x3 : Int) (y0 : Int) (M : ma_M) (Q : Option ma_V → ma_S → ma_M → Prop) : ma_wp 58 11 [(2, 0), (0, x1), (0, x2), (3, x3)] [(0, y0)] mr_SH M Q ↔ ma_wp 58 12 [(2, 0), (0, x1), (0, x2), (3, x3)] [(2, 0), (0, y0)] mr_SH M Q := by
  rw [x58_11]
  exact ⟨fun h => h.2, fun h => ⟨by decide, h⟩⟩
theorem s58_12 (x1 : Int) (x2 : Int) (x3 : Int) (y1 : Int) (M : ma_M) (Q : Option ma_V → ma_S → ma_M → Prop) (hF : mr_FIX M) : ma_wp 58 12 [(2, 0), (0, x1), (0, x2), (3, x3)] [(2, 0), (0, y1)] mr_SH M Q ↔ ma_wp 58 15 [(2, 0), (0, x1), (0, x2), (3, x3)] [(2, 1), (0, y1)] mr_SH M Q := by
  rw [x58_12, mf_0_0 hF, ml_0]
  exact ⟨fun h => h.2, fun h => ⟨by decide, h⟩⟩
theorem s58_15 (x1 : Int) (x2 : Int) (x3 : Int) (y1 : Int) (M : ma_M) (Q : Option ma_V → ma_S → ma_M → Prop) : ma_wp 58 15 [(2, 0), (0, x1), (0, x2), (3, x3)] [(2, 1), (0, y1)] mr_SH M Q ↔ ma_wp 58 18 [(2, 0), (0, x1), (0, x2), (3, x3)] [(0, M 1 1), (0, y1)] mr_SH M Q := by
  rw [x58_15, ml_1]
  exact ⟨fun h => h.2, fun h => ⟨by decide, h⟩⟩
theorem s58_48 (x1 : Int) (x2 : Int) (x3 : Int) (M : ma_M) (Q : Option ma_V → ma_S → ma_M → Prop) : ma_wp 58 48 [(2, 0), (0, x1), (0, x2), (3, x3)] [] mr_SH M Q ↔ ma_wp 58 49 [(2, 0), (0, x1), (0, x2), (3, x3)] [(2, 0)] mr_SH M Q := by
  rw [x58_48]
  exact ⟨fun h => h.2, fun h => ⟨by decide, h⟩⟩
theorem s58_50 (x1 : Int) (x2 : Int) (x3 : Int) (y0 : Int) (M : ma_M) (Q : Option ma_V → ma_S → ma_M → Prop) : ma_wp 58 50 [(2, 0), (0, x1), (0, x2), (3, x3)] [(0, y0), (2, 0)] mr_SH M Q ↔ mr_do 70 [(2, 0), (0, y0)] mr_SH M (fun r sh M => ma_wp 58 53 [(2, 0), (0, x1), (0, x2), (3, x3)] (r.toList ++ []) sh M Q) := by
  rw [x58_50, ml_0]
  exact ⟨fun h => h.2, fun h => ⟨by decide, h⟩⟩
theorem s58_60 (x1 : Int) (x2 : Int) (x3 : Int) (M : ma_M) (Q : Option ma_V → ma_S → ma_M → Prop) : ma_wp 58 60 [(2, 0), (0, x1), (0, x2), (0, x3)] [] mr_SH M Q ↔ ma_wp 58 61 [(2, 0), (0, x1), (0, x2), (0, x3)] [(2, 0)] mr_SH M Q := by
  rw [x58_60]
  exact ⟨fun h => h.2, fun h => ⟨by decide, h⟩⟩
theorem s58_62 (x1 : Int) (x2 : Int) (x3 : Int) (y0 : Int) (M : ma_M) (Q : Option ma_V → ma_S → ma_M → Prop) : ma_wp 58 62 [(2, 0), (0, x1), (0, x2), (0, x3)] [(0, y0), (2, 0)] mr_SH M Q ↔ mr_do 71 [(2, 0), (0, y0)] mr_SH M (fun r sh M => ma_wp 58 65 [(2, 0), (0, x1), (0, x2), (0, x3)] (r.toList ++ []) sh M Q) := by
  rw [x58_62, ml_0]
  exact ⟨fun h => h.2, fun h => ⟨by decide, h⟩⟩
theorem s58_65 (x1 : Int) (x2 : Int) (x3 : Int) (M : ma_M) (Q : Option ma_V → ma_S → ma_M → Prop) : ma_wp 58 65 [(2, 0), (0, x1), (0, x2), (0, x3)] [] mr_SH M Q ↔ ma_wp 58 66 [(2, 0), (0, x1), (0, x2), (0, x3)] [(2, 0)] mr_SH M Q := by
  rw [x58_65]
  exact ⟨fun h => h.2, fun h => ⟨by decide, h⟩⟩
theorem s58_66 (x1 : Int) (x2 : Int) (x3 : Int) (M : ma_M) (Q : Option ma_V → ma_S → ma_M → Prop) (hF : mr_FIX M) : ma_wp 58 66 [(2, 0), (0, x1), (0, x2), (0, x3)] [(2, 0)] mr_SH M Q ↔ ma_wp 58 69 [(2, 0), (0, x1), (0, x2), (0, x3)] [(2, 42)] mr_SH M Q := by
  rw [x58_66, mf_0_4 hF, ml_0]
  exact ⟨fun h => h.2, fun h => ⟨by decide, h⟩⟩
theorem s58_71 (x1 : Int) (x2 : Int) (x3 : Int) (y0 : Int) (y1 : Int) (M : ma_M) (Q : Option ma_V → ma_S → ma_M → Prop) : ma_wp 58 71 [(2, 0), (0, x1), (0, x2), (0, x3)] [(0, y0), (0, y1), (2, 42)] mr_SH M Q ↔ mr_do 37 [(2, 42), (0, y1), (0, y0)] mr_SH M (fun r sh M => ma_wp 58 74 [(2, 0), (0, x1), (0, x2), (0, x3)] (r.toList ++ []) sh M Q) := by
  rw [x58_71, ml_42]
  exact ⟨fun h => h.2, fun h => ⟨by decide, h⟩⟩
theorem s62_0 (x1 : Int) (x2 : Int) (x3 : Int) (x4 : Int) (M : ma_M) (Q : Option ma_V → ma_S → ma_M → Prop) : ma_wp 62 0 [(2, 0), (0, x1), (2, x2), (0, x3), (3, x4)] [] mr_SH M Q ↔ ma_wp 62 1 [(2, 0), (0, x1), (2, x2), (0, x3), (3, x4)] [(2, 0)] mr_SH M Q := by
  rw [x62_0]
  exact ⟨fun h => h.2, fun h => ⟨by decide, h⟩⟩
theorem s62_1 (x1 : Int) (x2 : Int) (x3 : Int) (x4 : Int) (M : ma_M) (Q : Option ma_V → ma_S → ma_M → Prop) (hF : mr_FIX M) : ma_wp 62 1 [(2, 0), (0, x1), (2, x2), (0, x3), (3, x4)] [(2, 0)] mr_SH M Q ↔ ma_wp 62 4 [(2, 0), (0, x1), (2, x2), (0, x3), (3, x4)] [(2, 8)] mr_SH M Q := by
  rw [x62_1, mf_0_1 hF, ml_0]
  exact ⟨fun h => h.2, fun h => ⟨by decide, h⟩⟩
theorem s62_4 (x1 : Int) (x2 : Int) (x3 : Int) (x4 : Int) (M : ma_M) (Q : Option ma_V → ma_S → ma_M → Prop) : ma_wp 62 4 [(2, 0), (0, x1), (2, x2), (0, x3), (3, x4)] [(2, 8)] mr_SH M Q ↔ ma_wp 62 5 [(2, 0), (0, x1), (2, x2), (0, x3), (3, x4)] [(2, 0), (2, 8)] mr_SH M Q := by
  rw [x62_4]
  exact ⟨fun h => h.2, fun h => ⟨by decide, h⟩⟩
theorem s62_5 (x1 : Int) (x2 : Int) (x3 : Int) (x4 : Int) (M : ma_M) (Q : Option ma_V → ma_S → ma_M → Prop) (hF : mr_FIX M) : ma_wp 62 5 [(2, 0), (0, x1), (2, x2), (0, x3), (3, x4)] [(2, 0), (2, 8)] mr_SH M Q ↔ ma_wp 62 8 [(2, 0), (0, x1), (2, x2), (0, x3), (3, x4)] [(2, 1), (2, 8)] mr_SH M Q := by
  rw [x62_5, mf_0_0 hF, ml_0]
  exact ⟨fun h => h.2, fun h => ⟨by decide, h⟩⟩
theorem s62_8 (x1 : Int) (x2 : Int) (x3 : Int) (x4 : Int) (M : ma_M) (Q : Option ma_V → ma_S → ma_M → Prop) : ma_wp 62 8 [(2, 0), (0, x1), (2, x2), (0, x3), (3, x4)] [(2, 1), (2, 8)] mr_SH M Q ↔ ma_wp 62 9 [(2, 0), (0, x1), (2, x2), (0, x3), (3, x4)] [(2, 0), (2, 1), (2, 8)] mr_SH M Q := by
  rw [x62_8]
  exact ⟨fun h => h.2, fun h => ⟨by decide, h⟩⟩
theorem s62_9 (x1 : Int) (x2 : Int) (x3 : Int) (x4 : Int) (M : ma_M) (Q : Option ma_V → ma_S → ma_M → Prop) (hF : mr_FIX M) : ma_wp 62 9 [(2, 0), (0, x1), (2, x2), (0, x3), (3, x4)] [(2, 0), (2, 1), (2, 8)] mr_SH M Q ↔ ma_wp 62 12 [(2, 0), (0, x1), (2, x2), (0, x3), (3, x4)] [(2, 50), (2, 1), (2, 8)] mr_SH M Q := by
  rw [x62_9, mf_0_5 hF, ml_0]
  exact ⟨fun h => h.2, fun h => ⟨by decide, h⟩⟩
theorem s62_14 (x1 : Int) (x2 : Int) (x3 : Int) (x4 : Int) (y0 : Int) (y1 : Int) (M : ma_M) (Q : Option ma_V → ma_S → ma_M → Prop) : ma_wp 62 14 [(2, 0), (0, x1), (2, x2), (0, x3), (3, x4)] [(0, y0), (2, y1), (2, 50), (2, 1), (2, 8)] mr_SH M Q ↔ mr_do 15 [(2, 8), (2, 1), (2, 50), (2, y1), (0, y0)] mr_SH M (fun r sh M => ma_wp 62 17 [(2, 0), (0, x1), (2, x2), (0, x3), (3, x4)] (r.toList ++ []) sh M Q) := by
  rw [x62_14, ml_8]
  exact ⟨fun h => h.2, fun h => ⟨by decide, h⟩⟩
theorem s62_17 (x1 : Int) (x2 : Int) (x3 : Int) (x4 : Int) (M : ma_M) (Q : Option ma_V → ma_S → ma_M → Prop) : ma_wp 62 17 [(2, 0), (0, x1), (2, x2), (0, x3), (3, x4)] [] mr_SH M Q ↔ ma_wp 62 18 [(2, 0), (0, x1), (2, x2), (0, x3), (3, x4)] [(2, 0)] mr_SH M Q := by
  rw [x62_17]
  exact ⟨fun h => h.2, fun h => ⟨by decide, h⟩⟩
theorem s62_18 (x1 : Int) (x2 : Int) (x3 : Int) (x4 : Int) (M : ma_M) (Q : Option ma_V → ma_S → ma_M → Prop) (hF : mr_FIX M) : ma_wp 62 18 [(2, 0), (0, x1), (2, x2), (0, x3), (3, x4)] [(2, 0)] mr_SH M Q ↔ ma_wp 62 21 [(2, 0), (0, x1), (2, x2), (0, x3), (3, x4)] [(2, 54)] mr_SH M Q := by
  rw [x62_18, mf_0_9 hF, ml_0]
  exact ⟨fun h => h.2, fun h => ⟨by decide, h⟩⟩
theorem s62_22 (x1 : Int) (x2 : Int) (x3 : Int) (x4 : Int) (y0 : Int) (M : ma_M) (Q : Option ma_V → ma_S → ma_M → Prop) : ma_wp 62 22 [(2, 0), (0, x1), (2, x2), (0, x3), (3, x4)] [(0, y0), (2, 54)] mr_SH M Q ↔ (0 ≤ y0 ∧ y0 < 5) ∧ ma_wp 62 23 [(2, 0), (0, x1), (2, x2), (0, x3), (3, x4)] [(0, M 54 y0)] mr_SH M Q := by
  rw [x62_22, ml_54]
theorem s62_25 (x1 : Int) (x2 : Int) (x3 : Int) (x4 : Int) (M : ma_M) (Q : Option ma_V → ma_S → ma_M → Prop) : ma_wp 62 25 [(2, 0), (0, x1), (2, x2), (0, x3), (0, x4)] [] mr_SH M Q ↔ ma_wp 62 26 [(2, 0), (0, x1), (2, x2), (0, x3), (0, x4)] [(2, 0)] mr_SH M Q := by
  rw [x62_25]
  exact ⟨fun h => h.2, fun h => ⟨by decide, h⟩⟩
theorem s62_26 (x1 : Int) (x2 : Int) (x3 : Int) (x4 : Int) (M : ma_M) (Q : Option ma_V → ma_S → ma_M → Prop) (hF : mr_FIX M) : ma_wp 62 26 [(2, 0), (0, x1), (2, x2), (0, x3), (0, x4)] [(2, 0)] mr_SH M Q ↔ ma_wp 62 29 [(2, 0), (0, x1), (2, x2), (0, x3), (0, x4)] [(2, 8)] mr_SH M Q := by
  rw [x62_26, mf_0_1 hF, ml_0]
  exact ⟨fun h => h.2, fun h => ⟨by decide, h⟩⟩
theorem s62_29 (x1 : Int) (x2 : Int) (x3 : Int) (x4 : Int) (M : ma_M) (Q : Option ma_V → ma_S → ma_M → Prop) (hF : mr_FIX M) : ma_wp 62 29 [(2, 0), (0, x1), (2, x2), (0, x3), (0, x4)] [(2, 8)] mr_SH M Q ↔ ma_wp 62 32 [(2, 0), (0, x1), (2, x2), (0, x3), (0, x4)] [(2, 34)] mr_SH M Q := by
  rw [x62_29, mf_8_1 hF, ml_8]
  exact ⟨fun h => h.2, fun h => ⟨by decide, h⟩⟩
theorem s62_34 (x1 : Int) (x2 : Int) (x3 : Int) (x4 : Int) (y0 : Int) (M : ma_M) (Q : Option ma_V → ma_S → ma_M → Prop) : ma_wp 62 34 [(2, 0), (0, x1), (2, x2), (0, x3), (0, x4)] [(0, y0), (2, 34)] mr_SH M Q ↔ (0 ≤ y0 ∧ y0 < 24) ∧ ma_wp 62 35 [(2, 0), (0, x1), (2, x2), (0, x3), (0, x4)] [(0, M 34 y0)] mr_SH M Q := by
  rw [x62_34, ml_34]
theorem s62_38 (x1 : Int) (x2 : Int) (x3 : Int) (x4 : Int) (M : ma_M) (Q : Option ma_V → ma_S → ma_M → Prop) : ma_wp 62 38 [(2, 0), (0, x1), (2, x2), (0, x3), (0, x4)] [] mr_SH M Q ↔ ma_wp 62 39 [(2, 0), (0, x1), (2, x2), (0, x3), (0, x4)] [(2, 0)] mr_SH M Q := by
  rw [x62_38]
  exact ⟨fun h => h.2, fun h => ⟨by decide, h⟩⟩
theorem s62_39 (x1 : Int) (x2 : Int) (x3 : Int) (x4 : Int) (M : ma_M) (Q : Option ma_V → ma_S → ma_M → Prop) (hF : mr_FIX M) : ma_wp 62 39 [(2, 0), (0, x1), (2, x2), (0, x3), (0, x4)] [(2, 0)] mr_SH M Q ↔ ma_wp 62 42 [(2, 0), (0, x1), (2, x2), (0, x3), (0, x4)] [(2, 8)] mr_SH M Q := by
  rw [x62_39, mf_0_1 hF, ml_0]
  exact ⟨fun h => h.2, fun h => ⟨by decide, h⟩⟩
theorem s62_42 (x1 : Int) (x2 : Int) (x3 : Int) (x4 : Int) (M : ma_M) (Q : Option ma_V → ma_S → ma_M → Prop) (hF : mr_FIX M) : ma_wp 62 42 [(2, 0), (0, x1), (2, x2), (0, x3), (0, x4)] [(2, 8)] mr_SH M Q ↔ ma_wp 62 45 [(2, 0), (0, x1), (2, x2), (0, x3), (0, x4)] [(2, 9)] mr_SH M Q := by
  rw [x62_42, mf_8_0 hF, ml_8]
  exact ⟨fun h => h.2, fun h => ⟨by decide, h⟩⟩
theorem s62_47 (x1 : Int) (x2 : Int) (x3 : Int) (x4 : Int) (y0 : Int) (M : ma_M) (Q : Option ma_V → ma_S → ma_M → Prop) (hF : mr_FIX M) : ma_wp 62 47 [(2, 0), (0, x1), (2, x2), (0, x3), (0, x4)] [(0, y0), (2, 9)] mr_SH M Q ↔ (0 ≤ y0 ∧ y0 < 24) ∧ ma_wp 62 48 [(2, 0), (0, x1), (2, x2), (0, x3), (0, x4)] [(2, 10 + y0)] mr_SH M Q := by
  rw [x62_47, ml_9]
  constructor
  · rintro ⟨h1, h2⟩
    rw [mg_9 hF h1.1 h1.2] at h2
    exact ⟨h1, h2⟩
  · rintro ⟨h1, h2⟩
    rw [mg_9 hF h1.1 h1.2]
    exact ⟨h1, h2⟩
theorem s62_53 (x1 : Int) (x2 : Int) (x3 : Int) (x4 : Int) (M : ma_M) (Q : Option ma_V → ma_S → ma_M → Prop) : ma_wp 62 53 [(2, 0), (0, x1), (2, x2), (0, x3), (0, x4)] [] mr_SH M Q ↔ ma_wp 62 54 [(2, 0), (0, x1), (2, x2), (0, x3), (0, x4)] [(2, 0)] mr_SH M Q := by
  rw [x62_53]
  exact ⟨fun h => h.2, fun h => ⟨by decide, h⟩⟩
theorem s62_54 (x1 : Int) (x2 : Int) (x3 : Int) (x4 : Int) (M : ma_M) (Q : Option ma_V → ma_S → ma_M → Prop) (hF : mr_FIX M) : ma_wp 62 54 [(2, 0), (0, x1), (2, x2), (0, x3), (0, x4)] [(2, 0)] mr_SH M Q ↔ ma_wp 62 57 [(2, 0), (0, x1), (2, x2), (0, x3), (0, x4)] [(2, 8)] mr_SH M Q := by
  rw [x62_54, mf_0_1 hF, ml_0]
  exact ⟨fun h => h.2, fun h => ⟨by decide, h⟩⟩
theorem s62_57 (x1 : Int) (x2 : Int) (x3 : Int) (x4 : Int) (M : ma_M) (Q : Option ma_V → ma_S → ma_M → Prop) (hF : mr_FIX M) : ma_wp 62 57 [(2, 0), (0, x1), (2, x2), (0, x3), (0, x4)] [(2, 8)] mr_SH M Q ↔ ma_wp 62 60 [(2, 0), (0, x1), (2, x2), (0, x3), (0, x4)] [(2, 34)] mr_SH M Q := by
  rw [x62_57, mf_8_1 hF, ml_8]
  exact ⟨fun h => h.2, fun h => ⟨by decide, h⟩⟩
theorem s62_62 (x1 : Int) (x2 : Int) (x3 : Int) (x4 : Int) (y0 : Int) (M : ma_M) (Q : Option ma_V → ma_S → ma_M → Prop) : ma_wp 62 62 [(2, 0), (0, x1), (2, x2), (0, x3), (0, x4)] [(0, y0), (2, 34)] mr_SH M Q ↔ (0 ≤ y0 ∧ y0 < 24) ∧ ma_wp 62 63 [(2, 0), (0, x1), (2, x2), (0, x3), (0, x4)] [(0, M 34 y0)] mr_SH M Q := by
  rw [x62_62, ml_34]
theorem s63_0 (x1 : Int) (x2 : Int) (x3 : Int) (M : ma_M) (Q : Option ma_V → ma_S → ma_M → Prop) : ma_wp 63 0 [(2, 0), (0, x1), (0, x2), (0, x3)] [] mr_SH M Q ↔ ma_wp 63 1 [(2, 0), (0, x1), (0, x2), (0, x3)] [(2, 0)] mr_SH M Q := by
  rw [x63_0]
  exact ⟨fun h => h.2, fun h => ⟨by decide, h⟩⟩
theorem s63_1 (x1 : Int) (x2 : Int) (x3 : Int) (M : ma_M) (Q : Option ma_V → ma_S → ma_M → Prop) : ma_wp 63 1 [(2, 0), (0, x1), (0, x2), (0, x3)] [(2, 0)] mr_SH M Q ↔ mr_do 64 [(2, 0)] mr_SH M (fun r sh M => ma_wp 63 4 [(2, 0), (0, x1), (0, x2), (0, x3)] (r.toList ++ []) sh M Q) := by
  rw [x63_1, ml_0]
  exact ⟨fun h => h.2, fun h => ⟨by decide, h⟩⟩
theorem s63_4 (x1 : Int) (x2 : Int) (x3 : Int) (M : ma_M) (Q : Option ma_V → ma_S → ma_M → Prop) : ma_wp 63 4 [(2, 0), (0, x1), (0, x2), (0, x3)] [] mr_SH M Q ↔ ma_wp 63 5 [(2, 0), (0, x1), (0, x2), (0, x3)] [(2, 0)] mr_SH M Q := by
  rw [x63_4]
  exact ⟨fun h => h.2, fun h => ⟨by decide, h⟩⟩
theorem s63_5 (x1 : Int) (x2 : Int) (x3 : Int) (M : ma_M) (Q : Option ma_V → ma_S → ma_M → Prop) (hF : mr_FIX M) : ma_wp 63 5 [(2, 0), (0, x1), (0, x2), (0, x3)] [(2, 0)] mr_SH M Q ↔ ma_wp 63 8 [(2, 0), (0, x1), (0, x2), (0, x3)] [(2, 52)] mr_SH M Q := by
  rw [x63_5, mf_0_7 hF, ml_0]
  exact ⟨fun h => h.2, fun h => ⟨by decide, h⟩⟩
theorem s63_10 (x1 : Int) (x2 : Int) (x3 : Int) (y0 : Int) (y1 : Int) (M : ma_M) (Q : Option ma_V → ma_S → ma_M → Prop) : ma_wp 63 10 [(2, 0), (0, x1), (0, x2), (0, x3)] [(0, y0), (0, y1), (2, 52)] mr_SH M Q ↔ (0 ≤ y1 ∧ y1 < 5) ∧ ma_wp 63 11 [(2, 0), (0, x1), (0, x2), (0, x3)] [] mr_SH (ma_up M 52 y1 y0) Q := by
  rw [x63_10, ml_52]
theorem s63_11 (x1 : Int) (x2 : Int) (x3 : Int) (M : ma_M) (Q : Option ma_V → ma_S → ma_M → Prop) : ma_wp 63 11 [(2, 0), (0, x1), (0, x2), (0, x3)] [] mr_SH M Q ↔ ma_wp 63 12 [(2, 0), (0, x1), (0, x2), (0, x3)] [(2, 0)] mr_SH M Q := by
  rw [x63_11]
  exact ⟨fun h => h.2, fun h => ⟨by decide, h⟩⟩
theorem s63_13 (x1 : Int) (x2 : Int) (x3 : Int) (y0 : Int) (M : ma_M) (Q : Option ma_V → ma_S → ma_M → Prop) : ma_wp 63 13 [(2, 0), (0, x1), (0, x2), (0, x3)] [(0, y0), (2, 0)] mr_SH M Q ↔ ma_wp 63 14 [(2, 0), (0, x1), (0, x2), (0, x3)] [(2, 0), (0, y0), (2, 0)] mr_SH M Q := by
  rw [x63_13]
  exact ⟨fun h => h.2, fun h => ⟨by decide, h⟩⟩
theorem s63_14 (x1 : Int) (x2 : Int) (x3 : Int) (y1 : Int) (M : ma_M) (Q : Option ma_V → ma_S → ma_M → Prop) (hF : mr_FIX M) : ma_wp 63 14 [(2, 0), (0, x1), (0, x2), (0, x3)] [(2, 0), (0, y1), (2, 0)] mr_SH M Q ↔ ma_wp 63 17 [(2, 0), (0, x1), (0, x2), (0, x3)] [(2, 52), (0, y1), (2, 0)] mr_SH M Q := by
  rw [x63_14, mf_0_7 hF, ml_0]
  exact ⟨fun h => h.2, fun h => ⟨by decide, h⟩⟩
theorem s63_18 (x1 : Int) (x2 : Int) (x3 : Int) (y0 : Int) (y2 : Int) (M : ma_M) (Q : Option ma_V → ma_S → ma_M → Prop) : ma_wp 63 18 [(2, 0), (0, x1), (0, x2), (0, x3)] [(0, y0), (2, 52), (0, y2), (2, 0)] mr_SH M Q ↔ mr_do 62 [(2, 0), (0, y2), (2, 52), (0, y0)] mr_SH M (fun r sh M => ma_wp 63 21 [(2, 0), (0, x1), (0, x2), (0, x3)] (r.toList ++ []) sh M Q) := by
  rw [x63_18, ml_0]
  exact ⟨fun h => h.2, fun h => ⟨by decide, h⟩⟩
theorem s64_0  (M : ma_M) (Q : Option ma_V → ma_S → ma_M → Prop) : ma_wp 64 0 [(2, 0)] [] mr_SH M Q ↔ ma_wp 64 1 [(2, 0)] [(2, 0)] mr_SH M Q := by
  rw [x64_0]
  exact ⟨fun h => h.2, fun h => ⟨by decide, h⟩⟩
theorem s64_1  (M : ma_M) (Q : Option ma_V → ma_S → ma_M → Prop) (hF : mr_FIX M) : ma_wp 64 1 [(2, 0)] [(2, 0)] mr_SH M Q ↔ ma_wp 64 4 [(2, 0)] [(2, 52)] mr_SH M Q := by
  rw [x64_1, mf_0_7 hF, ml_0]
  exact ⟨fun h => h.2, fun h => ⟨by decide, h⟩⟩
theorem s65_5 (x1 : Int) (x2 : Int) (x3 : Int) (y0 : Int) (M : ma_M) (Q : Option ma_V → ma_S → ma_M → Prop) : ma_wp 65 5 [(2, 0), (0, x1), (0, x2), (0, x3)] [(0, y0)] mr_SH M Q ↔ ma_wp 65 6 [(2, 0), (0, x1), (0, x2), (0, x3)] [(2, 0), (0, y0)] mr_SH M Q := by
  rw [x65_5]
  exact ⟨fun h => h.2, fun h => ⟨by decide, h⟩⟩
theorem s65_6 (x1 : Int) (x2 : Int) (x3 : Int) (y1 : Int) (M : ma_M) (Q : Option ma_V → ma_S → ma_M → Prop) : ma_wp 65 6 [(2, 0), (0, x1), (0, x2), (0, x3)] [(2, 0), (0, y1)] mr_SH M Q ↔ ma_wp 65 9 [(2, 0), (0, x1), (0, x2), (0, x3)] [(0, M 0 11), (0, y1)] mr_SH M Q := by
  rw [x65_6, ml_0]
  exact ⟨fun h => h.2, fun h => ⟨by decide, h⟩⟩
theorem s65_16 (x1 : Int) (x2 : Int) (x3 : Int) (M : ma_M) (Q : Option ma_V → ma_S → ma_M → Prop) : ma_wp 65 16 [(2, 0), (0, x1), (0, x2), (0, x3)] [] mr_SH M Q ↔ ma_wp 65 17 [(2, 0), (0, x1), (0, x2), (0, x3)] [(2, 0)] mr_SH M Q := by
  rw [x65_16]
  exact ⟨fun h => h.2, fun h => ⟨by decide, h⟩⟩
theorem s65_17 (x1 : Int) (x2 : Int) (x3 : Int) (M : ma_M) (Q : Option ma_V → ma_S → ma_M → Prop) (hF : mr_FIX M) : ma_wp 65 17 [(2, 0), (0, x1), (0, x2), (0, x3)] [(2, 0)] mr_SH M Q ↔ ma_wp 65 20 [(2, 0), (0, x1), (0, x2), (0, x3)] [(2, 55)] mr_SH M Q := by
  rw [x65_17, mf_0_10 hF, ml_0]
  exact ⟨fun h => h.2, fun h => ⟨by decide, h⟩⟩
theorem s65_21 (x1 : Int) (x2 : Int) (x3 : Int) (y0 : Int) (M : ma_M) (Q : Option ma_V → ma_S → ma_M → Prop) : ma_wp 65 21 [(2, 0), (0, x1), (0, x2), (0, x3)] [(0, y0), (2, 55)] mr_SH M Q ↔ (0 ≤ y0 ∧ y0 < 5) ∧ ma_wp 65 22 [(2, 0), (0, x1), (0, x2), (0, x3)] [(0, M 55 y0)] mr_SH M Q := by
  rw [x65_21, ml_55]
theorem s65_26 (x1 : Int) (x2 : Int) (x3 : Int) (y0 : Int) (M : ma_M) (Q : Option ma_V → ma_S → ma_M → Prop) : ma_wp 65 26 [(2, 0), (0, x1), (0, x2), (0, x3)] [(0, y0)] mr_SH M Q ↔ ma_wp 65 27 [(2, 0), (0, x1), (0, x2), (0, x3)] [(2, 0), (0, y0)] mr_SH M Q := by
  rw [x65_26]
  exact ⟨fun h => h.2, fun h => ⟨by decide, h⟩⟩
theorem s65_27 (x1 : Int) (x2 : Int) (x3 : Int) (y1 : Int) (M : ma_M) (Q : Option ma_V → ma_S → ma_M → Prop) (hF : mr_FIX M) : ma_wp 65 27 [(2, 0), (0, x1), (0, x2), (0, x3)] [(2, 0), (0, y1)] mr_SH M Q ↔ ma_wp 65 30 [(2, 0), (0, x1), (0, x2), (0, x3)] [(2, 8), (0, y1)] mr_SH M Q := by
  rw [x65_27, mf_0_1 hF, ml_0]
  exact ⟨fun h => h.2, fun h => ⟨by decide, h⟩⟩
theorem s65_30 (x1 : Int) (x2 : Int) (x3 : Int) (y1 : Int) (M : ma_M) (Q : Option ma_V → ma_S → ma_M → Prop) (hF : mr_FIX M) : ma_wp 65 30 [(2, 0), (0, x1), (0, x2), (0, x3)] [(2, 8), (0, y1)] mr_SH M Q ↔ ma_wp 65 33 [(2, 0), (0, x1), (0, x2), (0, x3)] [(2, 34), (0, y1)] mr_SH M Q := by
  rw [x65_30, mf_8_1 hF, ml_8]
  exact ⟨fun h => h.2, fun h => ⟨by decide, h⟩⟩
theorem s65_33 (x1 : Int) (x2 : Int) (x3 : Int) (y1 : Int) (M : ma_M) (Q : Option ma_V → ma_S → ma_M → Prop) : ma_wp 65 33 [(2, 0), (0, x1), (0, x2), (0, x3)] [(2, 34), (0, y1)] mr_SH M Q ↔ ma_wp 65 34 [(2, 0), (0, x1), (0, x2), (0, x3)] [(2, 0), (2, 34), (0, y1)] mr_SH M Q := by
  rw [x65_33]
  exact ⟨fun h => h.2, fun h => ⟨by decide, h⟩⟩
theorem s65_34 (x1 : Int) (x2 : Int) (x3 : Int) (y2 : Int) (M : ma_M) (Q : Option ma_V → ma_S → ma_M → Prop) (hF : mr_FIX M) : ma_wp 65 34 [(2, 0), (0, x1), (0, x2), (0, x3)] [(2, 0), (2, 34), (0, y2)] mr_SH M Q ↔ ma_wp 65 37 [(2, 0), (0, x1), (0, x2), (0, x3)] [(2, 54), (2, 34), (0, y2)] mr_SH M Q := by
  rw [x65_34, mf_0_9 hF, ml_0]
  exact ⟨fun h => h.2, fun h => ⟨by decide, h⟩⟩
theorem s65_38 (x1 : Int) (x2 : Int) (x3 : Int) (y0 : Int) (y3 : Int) (M : ma_M) (Q : Option ma_V → ma_S → ma_M → Prop) : ma_wp 65 38 [(2, 0), (0, x1), (0, x2), (0, x3)] [(0, y0), (2, 54), (2, 34), (0, y3)] mr_SH M Q ↔ (0 ≤ y0 ∧ y0 < 5) ∧ ma_wp 65 39 [(2, 0), (0, x1), (0, x2), (0, x3)] [(0, M 54 y0), (2, 34), (0, y3)] mr_SH M Q := by
  rw [x65_38, ml_54]
theorem s65_39 (x1 : Int) (x2 : Int) (x3 : Int) (y0 : Int) (y2 : Int) (M : ma_M) (Q : Option ma_V → ma_S → ma_M → Prop) : ma_wp 65 39 [(2, 0), (0, x1), (0, x2), (0, x3)] [(0, y0), (2, 34), (0, y2)] mr_SH M Q ↔ (0 ≤ y0 ∧ y0 < 24) ∧ ma_wp 65 40 [(2, 0), (0, x1), (0, x2), (0, x3)] [(0, M 34 y0), (0, y2)] mr_SH M Q := by
  rw [x65_39, ml_34]
theorem s66_0 (x1 : Int) (x2 : Int) (M : ma_M) (Q : Option ma_V → ma_S → ma_M → Prop) : ma_wp 66 0 [(2, 0), (2, x1), (3, x2)] [] mr_SH M Q ↔ ma_wp 66 1 [(2, 0), (2, x1), (3, x2)] [(2, 0)] mr_SH M Q := by
  rw [x66_0]
  exact ⟨fun h => h.2, fun h => ⟨by decide, h⟩⟩
theorem s66_1 (x1 : Int) (x2 : Int) (M : ma_M) (Q : Option ma_V → ma_S → ma_M → Prop) (hF : mr_FIX M) : ma_wp 66 1 [(2, 0), (2, x1), (3, x2)] [(2, 0)] mr_SH M Q ↔ ma_wp 66 4 [(2, 0), (2, x1), (3, x2)] [(2, 35)] mr_SH M Q := by
  rw [x66_1, mf_0_2 hF, ml_0]
  exact ⟨fun h => h.2, fun h => ⟨by decide, h⟩⟩
theorem s66_4 (x1 : Int) (x2 : Int) (M : ma_M) (Q : Option ma_V → ma_S → ma_M → Prop) : ma_wp 66 4 [(2, 0), (2, x1), (3, x2)] [(2, 35)] mr_SH M Q ↔ mr_do 25 [(2, 35)] mr_SH M (fun r sh M => ma_wp 66 7 [(2, 0), (2, x1), (3, x2)] (r.toList ++ []) sh M Q) := by
  rw [x66_4, ml_35]
  exact ⟨fun h => h.2, fun h => ⟨by decide, h⟩⟩
theorem s66_10 (x1 : Int) (x2 : Int) (y0 : Int) (M : ma_M) (Q : Option ma_V → ma_S → ma_M → Prop) : ma_wp 66 10 [(2, 0), (2, x1), (0, x2)] [(0, y0)] mr_SH M Q ↔ ma_wp 66 11 [(2, 0), (2, x1), (0, x2)] [(2, 0), (0, y0)] mr_SH M Q := by
  rw [x66_10]
  exact ⟨fun h => h.2, fun h => ⟨by decide, h⟩⟩
theorem s66_11 (x1 : Int) (x2 : Int) (y1 : Int) (M : ma_M) (Q : Option ma_V → ma_S → ma_M → Prop) : ma_wp 66 11 [(2, 0), (2, x1), (0, x2)] [(2, 0), (0, y1)] mr_SH M Q ↔ ma_wp 66 14 [(2, 0), (2, x1), (0, x2)] [(0, M 0 11), (0, y1)] mr_SH M Q := by
  rw [x66_11, ml_0]
  exact ⟨fun h => h.2, fun h => ⟨by decide, h⟩⟩
theorem s66_17 (x1 : Int) (x2 : Int) (M : ma_M) (Q : Option ma_V → ma_S → ma_M → Prop) : ma_wp 66 17 [(2, 0), (2, x1), (0, x2)] [] mr_SH M Q ↔ ma_wp 66 18 [(2, 0), (2, x1), (0, x2)] [(2, 0)] mr_SH M Q := by
  rw [x66_17]
  exact ⟨fun h => h.2, fun h => ⟨by decide, h⟩⟩
theorem s66_18 (x1 : Int) (x2 : Int) (M : ma_M) (Q : Option ma_V → ma_S → ma_M → Prop) (hF : mr_FIX M) : ma_wp 66 18 [(2, 0), (2, x1), (0, x2)] [(2, 0)] mr_SH M Q ↔ ma_wp 66 21 [(2, 0), (2, x1), (0, x2)] [(2, 35)] mr_SH M Q := by
  rw [x66_18, mf_0_2 hF, ml_0]
  exact ⟨fun h => h.2, fun h => ⟨by decide, h⟩⟩
theorem s66_21 (x1 : Int) (x2 : Int) (M : ma_M) (Q : Option ma_V → ma_S → ma_M → Prop) : ma_wp 66 21 [(2, 0), (2, x1), (0, x2)] [(2, 35)] mr_SH M Q ↔ ma_wp 66 22 [(2, 0), (2, x1), (0, x2)] [(2, 0), (2, 35)] mr_SH M Q := by
  rw [x66_21]
  exact ⟨fun h => h.2, fun h => ⟨by decide, h⟩⟩
theorem s66_22 (x1 : Int) (x2 : Int) (M : ma_M) (Q : Option ma_V → ma_S → ma_M → Prop) (hF : mr_FIX M) : ma_wp 66 22 [(2, 0), (2, x1), (0, x2)] [(2, 0), (2, 35)] mr_SH M Q ↔ ma_wp 66 25 [(2, 0), (2, x1), (0, x2)] [(2, 54), (2, 35)] mr_SH M Q := by
  rw [x66_22, mf_0_9 hF, ml_0]
  exact ⟨fun h => h.2, fun h => ⟨by decide, h⟩⟩
theorem s66_26 (x1 : Int) (x2 : Int) (y0 : Int) (M : ma_M) (Q : Option ma_V → ma_S → ma_M → Prop) : ma_wp 66 26 [(2, 0), (2, x1), (0, x2)] [(0, y0), (2, 54), (2, 35)] mr_SH M Q ↔ (0 ≤ y0 ∧ y0 < 5) ∧ ma_wp 66 27 [(2, 0), (2, x1), (0, x2)] [(0, M 54 y0), (2, 35)] mr_SH M Q := by
  rw [x66_26, ml_54]
theorem s66_30 (x1 : Int) (x2 : Int) (y0 : Int) (y1 : Int) (M : ma_M) (Q : Option ma_V → ma_S → ma_M → Prop) : ma_wp 66 30 [(2, 0), (2, x1), (0, x2)] [(0, y0), (0, y1), (2, 35)] mr_SH M Q ↔ mr_do 26 [(2, 35), (0, y1), (0, y0)] mr_SH M (fun r sh M => ma_wp 66 33 [(2, 0), (2, x1), (0, x2)] (r.toList ++ []) sh M Q) := by
  rw [x66_30, ml_35]
  exact ⟨fun h => h.2, fun h => ⟨by decide, h⟩⟩
theorem s66_39 (x1 : Int) (x2 : Int) (M : ma_M) (Q : Option ma_V → ma_S → ma_M → Prop) : ma_wp 66 39 [(2, 0), (2, x1), (0, x2)] [] mr_SH M Q ↔ ma_wp 66 40 [(2, 0), (2, x1), (0, x2)] [(2, 0)] mr_SH M Q := by
  rw [x66_39]
  exact ⟨fun h => h.2, fun h => ⟨by decide, h⟩⟩
theorem s66_40 (x1 : Int) (x2 : Int) (M : ma_M) (Q : Option ma_V → ma_S → ma_M → Prop) (hF : mr_FIX M) : ma_wp 66 40 [(2, 0), (2, x1), (0, x2)] [(2, 0)] mr_SH M Q ↔ ma_wp 66 43 [(2, 0), (2, x1), (0, x2)] [(2, 35)] mr_SH M Q := by
  rw [x66_40, mf_0_2 hF, ml_0]
  exact ⟨fun h => h.2, fun h => ⟨by decide, h⟩⟩
theorem s66_43 (x1 : Int) (x2 : Int) (M : ma_M) (Q : Option ma_V → ma_S → ma_M → Prop) : ma_wp 66 43 [(2, 0), (2, x1), (0, x2)] [(2, 35)] mr_SH M Q ↔ ma_wp 66 44 [(2, 0), (2, x1), (0, x2)] [(2, 0), (2, 35)] mr_SH M Q := by
  rw [x66_43]
  exact ⟨fun h => h.2, fun h => ⟨by decide, h⟩⟩
theorem s66_44 (x1 : Int) (x2 : Int) (M : ma_M) (Q : Option ma_V → ma_S → ma_M → Prop) (hF : mr_FIX M) : ma_wp 66 44 [(2, 0), (2, x1), (0, x2)] [(2, 0), (2, 35)] mr_SH M Q ↔ ma_wp 66 47 [(2, 0), (2, x1), (0, x2)] [(2, 1), (2, 35)] mr_SH M Q := by
  rw [x66_44, mf_0_0 hF, ml_0]
  exact ⟨fun h => h.2, fun h => ⟨by decide, h⟩⟩
theorem s66_47 (x1 : Int) (x2 : Int) (M : ma_M) (Q : Option ma_V → ma_S → ma_M → Prop) : ma_wp 66 47 [(2, 0), (2, x1), (0, x2)] [(2, 1), (2, 35)] mr_SH M Q ↔ ma_wp 66 48 [(2, 0), (2, x1), (0, x2)] [(2, 0), (2, 1), (2, 35)] mr_SH M Q := by
  rw [x66_47]
  exact ⟨fun h => h.2, fun h => ⟨by decide, h⟩⟩
theorem s66_48 (x1 : Int) (x2 : Int) (M : ma_M) (Q : Option ma_V → ma_S → ma_M → Prop) (hF : mr_FIX M) : ma_wp 66 48 [(2, 0), (2, x1), (0, x2)] [(2, 0), (2, 1), (2, 35)] mr_SH M Q ↔ ma_wp 66 51 [(2, 0), (2, x1), (0, x2)] [(2, 8), (2, 1), (2, 35)] mr_SH M Q := by
  rw [x66_48, mf_0_1 hF, ml_0]
  exact ⟨fun h => h.2, fun h => ⟨by decide, h⟩⟩
theorem s66_51 (x1 : Int) (x2 : Int) (M : ma_M) (Q : Option ma_V → ma_S → ma_M → Prop) : ma_wp 66 51 [(2, 0), (2, x1), (0, x2)] [(2, 8), (2, 1), (2, 35)] mr_SH M Q ↔ mr_do 27 [(2, 35), (2, 1), (2, 8)] mr_SH M (fun r sh M => ma_wp 66 54 [(2, 0), (2, x1), (0, x2)] (r.toList ++ []) sh M Q) := by
  rw [x66_51, ml_35]
  exact ⟨fun h => h.2, fun h => ⟨by decide, h⟩⟩
theorem s67_3 (x1 : Int) (a2 : ma_V) (a3 : ma_V) (y0 : Int) (M : ma_M) (Q : Option ma_V → ma_S → ma_M → Prop) : ma_wp 67 3 [(2, 0), (0, x1), a2, a3] [(0, y0)] mr_SH M Q ↔ ma_wp 67 4 [(2, 0), (0, x1), a2, a3] [(2, 0), (0, y0)] mr_SH M Q := by
  rw [x67_3]
  exact ⟨fun h => h.2, fun h => ⟨by decide, h⟩⟩
theorem s67_4 (x1 : Int) (a2 : ma_V) (a3 : ma_V) (y1 : Int) (M : ma_M) (Q : Option ma_V → ma_S → ma_M → Prop) (hF : mr_FIX M) : ma_wp 67 4 [(2, 0), (0, x1), a2, a3] [(2, 0), (0, y1)] mr_SH M Q ↔ ma_wp 67 7 [(2, 0), (0, x1), a2, a3] [(2, 1), (0, y1)] mr_SH M Q := by
  rw [x67_4, mf_0_0 hF, ml_0]
  exact ⟨fun h => h.2, fun h => ⟨by decide, h⟩⟩
theorem s67_7 (x1 : Int) (a2 : ma_V) (a3 : ma_V) (y1 : Int) (M : ma_M) (Q : Option ma_V → ma_S → ma_M → Prop) : ma_wp 67 7 [(2, 0), (0, x1), a2, a3] [(2, 1), (0, y1)] mr_SH M Q ↔ ma_wp 67 10 [(2, 0), (0, x1), a2, a3] [(0, M 1 1), (0, y1)] mr_SH M Q := by
  rw [x67_7, ml_1]
  exact ⟨fun h => h.2, fun h => ⟨by decide, h⟩⟩
theorem s67_22 (x1 : Int) (x2 : Int) (x3 : Int) (M : ma_M) (Q : Option ma_V → ma_S → ma_M → Prop) : ma_wp 67 22 [(2, 0), (0, x1), (0, x2), (0, x3)] [] mr_SH M Q ↔ ma_wp 67 23 [(2, 0), (0, x1), (0, x2), (0, x3)] [(2, 0)] mr_SH M Q := by
  rw [x67_22]
  exact ⟨fun h => h.2, fun h => ⟨by decide, h⟩⟩
theorem s67_25 (x1 : Int) (x2 : Int) (x3 : Int) (y0 : Int) (y1 : Int) (M : ma_M) (Q : Option ma_V → ma_S → ma_M → Prop) : ma_wp 67 25 [(2, 0), (0, x1), (0, x2), (0, x3)] [(0, y0), (0, y1), (2, 0)] mr_SH M Q ↔ mr_do 69 [(2, 0), (0, y1), (0, y0)] mr_SH M (fun r sh M => ma_wp 67 28 [(2, 0), (0, x1), (0, x2), (0, x3)] (r.toList ++ []) sh M Q) := by
  rw [x67_25, ml_0]
  exact ⟨fun h => h.2, fun h => ⟨by decide, h⟩⟩
theorem s67_33 (x1 : Int) (x2 : Int) (x3 : Int) (y0 : Int) (y1 : Int) (M : ma_M) (Q : Option ma_V → ma_S → ma_M → Prop) : ma_wp 67 33 [(2, 0), (0, x1), (0, x2), (0, x3)] [(0, y0), (0, y1)] mr_SH M Q ↔ ma_wp 67 34 [(2, 0), (0, x1), (0, x2), (0, x3)] [(2, 0), (0, y0), (0, y1)] mr_SH M Q := by
  rw [x67_33]
  exact ⟨fun h => h.2, fun h => ⟨by decide, h⟩⟩
theorem s67_34 (x1 : Int) (x2 : Int) (x3 : Int) (y1 : Int) (y2 : Int) (M : ma_M) (Q : Option ma_V → ma_S → ma_M → Prop) (hF : mr_FIX M) : ma_wp 67 34 [(2, 0), (0, x1), (0, x2), (0, x3)] [(2, 0), (0, y1), (0, y2)] mr_SH M Q ↔ ma_wp 67 37 [(2, 0), (0, x1), (0, x2), (0, x3)] [(2, 53), (0, y1), (0, y2)] mr_SH M Q := by
  rw [x67_34, mf_0_8 hF, ml_0]
  exact ⟨fun h => h.2, fun h => ⟨by decide, h⟩⟩
theorem s67_38 (x1 : Int) (x2 : Int) (x3 : Int) (y0 : Int) (y2 : Int) (y3 : Int) (M : ma_M) (Q : Option ma_V → ma_S → ma_M → Prop) : ma_wp 67 38 [(2, 0), (0, x1), (0, x2), (0, x3)] [(0, y0), (2, 53), (0, y2), (0, y3)] mr_SH M Q ↔ (0 ≤ y0 ∧ y0 < 5) ∧ ma_wp 67 39 [(2, 0), (0, x1), (0, x2), (0, x3)] [(0, M 53 y0), (0, y2), (0, y3)] mr_SH M Q := by
  rw [x67_38, ml_53]
theorem s67_48 (x1 : Int) (x2 : Int) (x3 : Int) (M : ma_M) (Q : Option ma_V → ma_S → ma_M → Prop) : ma_wp 67 48 [(2, 0), (0, x1), (0, x2), (0, x3)] [] mr_SH M Q ↔ ma_wp 67 49 [(2, 0), (0, x1), (0, x2), (0, x3)] [(2, 0)] mr_SH M Q := by
  rw [x67_48]
  exact ⟨fun h => h.2, fun h => ⟨by decide, h⟩⟩
theorem s67_49 (x1 : Int) (x2 : Int) (x3 : Int) (M : ma_M) (Q : Option ma_V → ma_S → ma_M → Prop) (hF : mr_FIX M) : ma_wp 67 49 [(2, 0), (0, x1), (0, x2), (0, x3)] [(2, 0)] mr_SH M Q ↔ ma_wp 67 52 [(2, 0), (0, x1), (0, x2), (0, x3)] [(2, 53)] mr_SH M Q := by
  rw [x67_49, mf_0_8 hF, ml_0]
  exact ⟨fun h => h.2, fun h => ⟨by decide, h⟩⟩
theorem s67_57 (x1 : Int) (x2 : Int) (x3 : Int) (y0 : Int) (y1 : Int) (M : ma_M) (Q : Option ma_V → ma_S → ma_M → Prop) : ma_wp 67 57 [(2, 0), (0, x1), (0, x2), (0, x3)] [(0, y0), (0, y1), (2, 53)] mr_SH M Q ↔ (0 ≤ y1 ∧ y1 < 5) ∧ ma_wp 67 58 [(2, 0), (0, x1), (0, x2), (0, x3)] [] mr_SH (ma_up M 53 y1 y0) Q := by
  rw [x67_57, ml_53]
theorem s69_3 (x1 : Int) (x2 : Int) (x3 : Int) (y0 : Int) (M : ma_M) (Q : Option ma_V → ma_S → ma_M → Prop) : ma_wp 69 3 [(2, 0), (0, x1), (0, x2), (0, x3)] [(0, y0)] mr_SH M Q ↔ ma_wp 69 4 [(2, 0), (0, x1), (0, x2), (0, x3)] [(2, 0), (0, y0)] mr_SH M Q := by
  rw [x69_3]
  exact ⟨fun h => h.2, fun h => ⟨by decide, h⟩⟩
theorem s69_4 (x1 : Int) (x2 : Int) (x3 : Int) (y1 : Int) (M : ma_M) (Q : Option ma_V → ma_S → ma_M → Prop) : ma_wp 69 4 [(2, 0), (0, x1), (0, x2), (0, x3)] [(2, 0), (0, y1)] mr_SH M Q ↔ ma_wp 69 7 [(2, 0), (0, x1), (0, x2), (0, x3)] [(0, M 0 11), (0, y1)] mr_SH M Q := by
  rw [x69_4, ml_0]
  exact ⟨fun h => h.2, fun h => ⟨by decide, h⟩⟩
theorem s69_10 (x1 : Int) (x2 : Int) (x3 : Int) (M : ma_M) (Q : Option ma_V → ma_S → ma_M → Prop) : ma_wp 69 10 [(2, 0), (0, x1), (0, x2), (0, x3)] [] mr_SH M Q ↔ ma_wp 69 11 [(2, 0), (0, x1), (0, x2), (0, x3)] [(2, 0)] mr_SH M Q := by
  rw [x69_10]
  exact ⟨fun h => h.2, fun h => ⟨by decide, h⟩⟩
theorem s69_11 (x1 : Int) (x2 : Int) (x3 : Int) (M : ma_M) (Q : Option ma_V → ma_S → ma_M → Prop) (hF : mr_FIX M) : ma_wp 69 11 [(2, 0), (0, x1), (0, x2), (0, x3)] [(2, 0)] mr_SH M Q ↔ ma_wp 69 14 [(2, 0), (0, x1), (0, x2), (0, x3)] [(2, 1)] mr_SH M Q := by
  rw [x69_11, mf_0_0 hF, ml_0]
  exact ⟨fun h => h.2, fun h => ⟨by decide, h⟩⟩
theorem s69_14 (x1 : Int) (x2 : Int) (x3 : Int) (M : ma_M) (Q : Option ma_V → ma_S → ma_M → Prop) : ma_wp 69 14 [(2, 0), (0, x1), (0, x2), (0, x3)] [(2, 1)] mr_SH M Q ↔ ma_wp 69 15 [(2, 0), (0, x1), (0, x2), (0, x3)] [(2, 0), (2, 1)] mr_SH M Q := by
  rw [x69_14]
  exact ⟨fun h => h.2, fun h => ⟨by decide, h⟩⟩
theorem s69_15 (x1 : Int) (x2 : Int) (x3 : Int) (M : ma_M) (Q : Option ma_V → ma_S → ma_M → Prop) (hF : mr_FIX M) : ma_wp 69 15 [(2, 0), (0, x1), (0, x2), (0, x3)] [(2, 0), (2, 1)] mr_SH M Q ↔ ma_wp 69 18 [(2, 0), (0, x1), (0, x2), (0, x3)] [(2, 54), (2, 1)] mr_SH M Q := by
  rw [x69_15, mf_0_9 hF, ml_0]
  exact ⟨fun h => h.2, fun h => ⟨by decide, h⟩⟩
theorem s69_19 (x1 : Int) (x2 : Int) (x3 : Int) (y0 : Int) (M : ma_M) (Q : Option ma_V → ma_S → ma_M → Prop) : ma_wp 69 19 [(2, 0), (0, x1), (0, x2), (0, x3)] [(0, y0), (2, 54), (2, 1)] mr_SH M Q ↔ (0 ≤ y0 ∧ y0 < 5) ∧ ma_wp 69 20 [(2, 0), (0, x1), (0, x2), (0, x3)] [(0, M 54 y0), (2, 1)] mr_SH M Q := by
  rw [x69_19, ml_54]
theorem s69_21 (x1 : Int) (x2 : Int) (x3 : Int) (y0 : Int) (y1 : Int) (M : ma_M) (Q : Option ma_V → ma_S → ma_M → Prop) : ma_wp 69 21 [(2, 0), (0, x1), (0, x2), (0, x3)] [(0, y0), (0, y1), (2, 1)] mr_SH M Q ↔ mr_do 8 [(2, 1), (0, y1), (0, y0)] mr_SH M (fun r sh M => ma_wp 69 24 [(2, 0), (0, x1), (0, x2), (0, x3)] (r.toList ++ []) sh M Q) := by
  rw [x69_21, ml_1]
  exact ⟨fun h => h.2, fun h => ⟨by decide, h⟩⟩
theorem s69_27 (x1 : Int) (x2 : Int) (x3 : Int) (M : ma_M) (Q : Option ma_V → ma_S → ma_M → Prop) : ma_wp 69 27 [(2, 0), (0, x1), (0, x2), (0, x3)] [] mr_SH M Q ↔ ma_wp 69 28 [(2, 0), (0, x1), (0, x2), (0, x3)] [(2, 0)] mr_SH M Q := by
  rw [x69_27]
  exact ⟨fun h => h.2, fun h => ⟨by decide, h⟩⟩
theorem s69_28 (x1 : Int) (x2 : Int) (x3 : Int) (M : ma_M) (Q : Option ma_V → ma_S → ma_M → Prop) (hF : mr_FIX M) : ma_wp 69 28 [(2, 0), (0, x1), (0, x2), (0, x3)] [(2, 0)] mr_SH M Q ↔ ma_wp 69 31 [(2, 0), (0, x1), (0, x2), (0, x3)] [(2, 1)] mr_SH M Q := by
  rw [x69_28, mf_0_0 hF, ml_0]
  exact ⟨fun h => h.2, fun h => ⟨by decide, h⟩⟩
theorem s69_31 (x1 : Int) (x2 : Int) (x3 : Int) (M : ma_M) (Q : Option ma_V → ma_S → ma_M → Prop) : ma_wp 69 31 [(2, 0), (0, x1), (0, x2), (0, x3)] [(2, 1)] mr_SH M Q ↔ ma_wp 69 32 [(2, 0), (0, x1), (0, x2), (0, x3)] [(2, 0), (2, 1)] mr_SH M Q := by
  rw [x69_31]
  exact ⟨fun h => h.2, fun h => ⟨by decide, h⟩⟩
theorem s69_32 (x1 : Int) (x2 : Int) (x3 : Int) (M : ma_M) (Q : Option ma_V → ma_S → ma_M → Prop) (hF : mr_FIX M) : ma_wp 69 32 [(2, 0), (0, x1), (0, x2), (0, x3)] [(2, 0), (2, 1)] mr_SH M Q ↔ ma_wp 69 35 [(2, 0), (0, x1), (0, x2), (0, x3)] [(2, 54), (2, 1)] mr_SH M Q := by
  rw [x69_32, mf_0_9 hF, ml_0]
  exact ⟨fun h => h.2, fun h => ⟨by decide, h⟩⟩
theorem s69_36 (x1 : Int) (x2 : Int) (x3 : Int) (y0 : Int) (M : ma_M) (Q : Option ma_V → ma_S → ma_M → Prop) : ma_wp 69 36 [(2, 0), (0, x1), (0, x2), (0, x3)] [(0, y0), (2, 54), (2, 1)] mr_SH M Q ↔ (0 ≤ y0 ∧ y0 < 5) ∧ ma_wp 69 37 [(2, 0), (0, x1), (0, x2), (0, x3)] [(0, M 54 y0), (2, 1)] mr_SH M Q := by
  rw [x69_36, ml_54]
theorem s69_38 (x1 : Int) (x2 : Int) (x3 : Int) (y0 : Int) (y1 : Int) (M : ma_M) (Q : Option ma_V → ma_S → ma_M → Prop) : ma_wp 69 38 [(2, 0), (0, x1), (0, x2), (0, x3)] [(0, y0), (0, y1), (2, 1)] mr_SH M Q ↔ mr_do 8 [(2, 1), (0, y1), (0, y0)] mr_SH M (fun r sh M => ma_wp 69 41 [(2, 0), (0, x1), (0, x2), (0, x3)] (r.toList ++ []) sh M Q) := by
  rw [x69_38, ml_1]
  exact ⟨fun h => h.2, fun h => ⟨by decide, h⟩⟩
theorem s70_0 (x1 : Int) (x2 : Int) (x3 : Int) (x4 : Int) (M : ma_M) (Q : Option ma_V → ma_S → ma_M → Prop) : ma_wp 70 0 [(2, 0), (0, x1), (3, x2), (3, x3), (3, x4)] [] mr_SH M Q ↔ ma_wp 70 1 [(2, 0), (0, x1), (3, x2), (3, x3), (3, x4)] [(2, 0)] mr_SH M Q := by
  rw [x70_0]
  exact ⟨fun h => h.2, fun h => ⟨by decide, h⟩⟩
theorem s70_1 (x1 : Int) (x2 : Int) (x3 : Int) (x4 : Int) (M : ma_M) (Q : Option ma_V → ma_S → ma_M → Prop) (hF : mr_FIX M) : ma_wp 70 1 [(2, 0), (0, x1), (3, x2), (3, x3), (3, x4)] [(2, 0)] mr_SH M Q ↔ ma_wp 70 4 [(2, 0), (0, x1), (3, x2), (3, x3), (3, x4)] [(2, 50)] mr_SH M Q := by
  rw [x70_1, mf_0_5 hF, ml_0]
  exact ⟨fun h => h.2, fun h => ⟨by decide, h⟩⟩
theorem s70_5 (x1 : Int) (x2 : Int) (x3 : Int) (x4 : Int) (y0 : Int) (M : ma_M) (Q : Option ma_V → ma_S → ma_M → Prop) : ma_wp 70 5 [(2, 0), (0, x1), (3, x2), (3, x3), (3, x4)] [(0, y0), (2, 50)] mr_SH M Q ↔ ma_wp 70 6 [(2, 0), (0, x1), (3, x2), (3, x3), (3, x4)] [(2, 0), (0, y0), (2, 50)] mr_SH M Q := by
  rw [x70_5]
  exact ⟨fun h => h.2, fun h => ⟨by decide, h⟩⟩
theorem s70_6 (x1 : Int) (x2 : Int) (x3 : Int) (x4 : Int) (y1 : Int) (M : ma_M) (Q : Option ma_V → ma_S → ma_M → Prop) (hF : mr_FIX M) : ma_wp 70 6 [(2, 0), (0, x1), (3, x2), (3, x3), (3, x4)] [(2, 0), (0, y1), (2, 50)] mr_SH M Q ↔ ma_wp 70 9 [(2, 0), (0, x1), (3, x2), (3, x3), (3, x4)] [(2, 56), (0, y1), (2, 50)] mr_SH M Q := by
  rw [x70_6, mf_0_12 hF, ml_0]
  exact ⟨fun h => h.2, fun h => ⟨by decide, h⟩⟩
theorem s70_10 (x1 : Int) (x2 : Int) (x3 : Int) (x4 : Int) (y0 : Int) (y2 : Int) (M : ma_M) (Q : Option ma_V → ma_S → ma_M → Prop) (hF : mr_FIX M) : ma_wp 70 10 [(2, 0), (0, x1), (3, x2), (3, x3), (3, x4)] [(0, y0), (2, 56), (0, y2), (2, 50)] mr_SH M Q ↔ (0 ≤ y0 ∧ y0 < 21) ∧ ma_wp 70 11 [(2, 0), (0, x1), (3, x2), (3, x3), (3, x4)] [(2, 57 + y0), (0, y2), (2, 50)] mr_SH M Q := by
  rw [x70_10, ml_56]
  constructor
  · rintro ⟨h1, h2⟩
    rw [mg_56 hF h1.1 h1.2] at h2
    exact ⟨h1, h2⟩
  · rintro ⟨h1, h2⟩
    rw [mg_56 hF h1.1 h1.2]
    exact ⟨h1, h2⟩
theorem s70_23 (x1 : Int) (x2 : Int) (a3 : ma_V) (a4 : ma_V) (M : ma_M) (Q : Option ma_V → ma_S → ma_M → Prop) : ma_wp 70 23 [(2, 0), (0, x1), (0, x2), a3, a4] [] mr_SH M Q ↔ ma_wp 70 24 [(2, 0), (0, x1), (0, x2), a3, a4] [(2, 0)] mr_SH M Q := by
  rw [x70_23]
  exact ⟨fun h => h.2, fun h => ⟨by decide, h⟩⟩
theorem s70_24 (x1 : Int) (x2 : Int) (a3 : ma_V) (a4 : ma_V) (M : ma_M) (Q : Option ma_V → ma_S → ma_M → Prop) (hF : mr_FIX M) : ma_wp 70 24 [(2, 0), (0, x1), (0, x2), a3, a4] [(2, 0)] mr_SH M Q ↔ ma_wp 70 27 [(2, 0), (0, x1), (0, x2), a3, a4] [(2, 8)] mr_SH M Q := by
  rw [x70_24, mf_0_1 hF, ml_0]
  exact ⟨fun h => h.2, fun h => ⟨by decide, h⟩⟩
theorem s70_27 (x1 : Int) (x2 : Int) (a3 : ma_V) (a4 : ma_V) (M : ma_M) (Q : Option ma_V → ma_S → ma_M → Prop) : ma_wp 70 27 [(2, 0), (0, x1), (0, x2), a3, a4] [(2, 8)] mr_SH M Q ↔ ma_wp 70 28 [(2, 0), (0, x1), (0, x2), a3, a4] [(2, 0), (2, 8)] mr_SH M Q := by
  rw [x70_27]
  exact ⟨fun h => h.2, fun h => ⟨by decide, h⟩⟩
theorem s70_28 (x1 : Int) (x2 : Int) (a3 : ma_V) (a4 : ma_V) (M : ma_M) (Q : Option ma_V → ma_S → ma_M → Prop) (hF : mr_FIX M) : ma_wp 70 28 [(2, 0), (0, x1), (0, x2), a3, a4] [(2, 0), (2, 8)] mr_SH M Q ↔ ma_wp 70 31 [(2, 0), (0, x1), (0, x2), a3, a4] [(2, 1), (2, 8)] mr_SH M Q := by
  rw [x70_28, mf_0_0 hF, ml_0]
  exact ⟨fun h => h.2, fun h => ⟨by decide, h⟩⟩
theorem s70_31 (x1 : Int) (x2 : Int) (a3 : ma_V) (a4 : ma_V) (M : ma_M) (Q : Option ma_V → ma_S → ma_M → Prop) : ma_wp 70 31 [(2, 0), (0, x1), (0, x2), a3, a4] [(2, 1), (2, 8)] mr_SH M Q ↔ ma_wp 70 32 [(2, 0), (0, x1), (0, x2), a3, a4] [(2, 0), (2, 1), (2, 8)] mr_SH M Q := by
  rw [x70_31]
  exact ⟨fun h => h.2, fun h => ⟨by decide, h⟩⟩
theorem s70_32 (x1 : Int) (x2 : Int) (a3 : ma_V) (a4 : ma_V) (M : ma_M) (Q : Option ma_V → ma_S → ma_M → Prop) (hF : mr_FIX M) : ma_wp 70 32 [(2, 0), (0, x1), (0, x2), a3, a4] [(2, 0), (2, 1), (2, 8)] mr_SH M Q ↔ ma_wp 70 35 [(2, 0), (0, x1), (0, x2), a3, a4] [(2, 56), (2, 1), (2, 8)] mr_SH M Q := by
  rw [x70_32, mf_0_12 hF, ml_0]
  exact ⟨fun h => h.2, fun h => ⟨by decide, h⟩⟩
theorem s70_36 (x1 : Int) (x2 : Int) (a3 : ma_V) (a4 : ma_V) (y0 : Int) (M : ma_M) (Q : Option ma_V → ma_S → ma_M → Prop) (hF : mr_FIX M) : ma_wp 70 36 [(2, 0), (0, x1), (0, x2), a3, a4] [(0, y0), (2, 56), (2, 1), (2, 8)] mr_SH M Q ↔ (0 ≤ y0 ∧ y0 < 21) ∧ ma_wp 70 37 [(2, 0), (0, x1), (0, x2), a3, a4] [(2, 57 + y0), (2, 1), (2, 8)] mr_SH M Q := by
  rw [x70_36, ml_56]
  constructor
  · rintro ⟨h1, h2⟩
    rw [mg_56 hF h1.1 h1.2] at h2
    exact ⟨h1, h2⟩
  · rintro ⟨h1, h2⟩
    rw [mg_56 hF h1.1 h1.2]
    exact ⟨h1, h2⟩
theorem s70_37 (x1 : Int) (x2 : Int) (a3 : ma_V) (a4 : ma_V) (y0 : Int) (M : ma_M) (Q : Option ma_V → ma_S → ma_M → Prop) : ma_wp 70 37 [(2, 0), (0, x1), (0, x2), a3, a4] [(2, y0), (2, 1), (2, 8)] mr_SH M Q ↔ ma_wp 70 38 [(2, 0), (0, x1), (0, x2), a3, a4] [(2, 0), (2, y0), (2, 1), (2, 8)] mr_SH M Q := by
  rw [x70_37]
  exact ⟨fun h => h.2, fun h => ⟨by decide, h⟩⟩
theorem s70_38 (x1 : Int) (x2 : Int) (a3 : ma_V) (a4 : ma_V) (y1 : Int) (M : ma_M) (Q : Option ma_V → ma_S → ma_M → Prop) (hF : mr_FIX M) : ma_wp 70 38 [(2, 0), (0, x1), (0, x2), a3, a4] [(2, 0), (2, y1), (2, 1), (2, 8)] mr_SH M Q ↔ ma_wp 70 41 [(2, 0), (0, x1), (0, x2), a3, a4] [(2, 51), (2, y1), (2, 1), (2, 8)] mr_SH M Q := by
  rw [x70_38, mf_0_6 hF, ml_0]
  exact ⟨fun h => h.2, fun h => ⟨by decide, h⟩⟩
theorem s70_42 (x1 : Int) (x2 : Int) (a3 : ma_V) (a4 : ma_V) (y0 : Int) (y2 : Int) (M : ma_M) (Q : Option ma_V → ma_S → ma_M → Prop) : ma_wp 70 42 [(2, 0), (0, x1), (0, x2), a3, a4] [(0, y0), (2, 51), (2, y2), (2, 1), (2, 8)] mr_SH M Q ↔ mr_do 15 [(2, 8), (2, 1), (2, y2), (2, 51), (0, y0)] mr_SH M (fun r sh M => ma_wp 70 45 [(2, 0), (0, x1), (0, x2), a3, a4] (r.toList ++ []) sh M Q) := by
  rw [x70_42, ml_8]
  exact ⟨fun h => h.2, fun h => ⟨by decide, h⟩⟩
theorem s70_45 (x1 : Int) (x2 : Int) (a3 : ma_V) (a4 : ma_V) (M : ma_M) (Q : Option ma_V → ma_S → ma_M → Prop) : ma_wp 70 45 [(2, 0), (0, x1), (0, x2), a3, a4] [] mr_SH M Q ↔ ma_wp 70 46 [(2, 0), (0, x1), (0, x2), a3, a4] [(2, 0)] mr_SH M Q := by
  rw [x70_45]
  exact ⟨fun h => h.2, fun h => ⟨by decide, h⟩⟩
theorem s70_47 (x1 : Int) (x2 : Int) (a3 : ma_V) (a4 : ma_V) (y0 : Int) (M : ma_M) (Q : Option ma_V → ma_S → ma_M → Prop) : ma_wp 70 47 [(2, 0), (0, x1), (0, x2), a3, a4] [(0, y0), (2, 0)] mr_SH M Q ↔ mr_do 65 [(2, 0), (0, y0)] mr_SH M (fun r sh M => ma_wp 70 50 [(2, 0), (0, x1), (0, x2), a3, a4] (r.toList ++ []) sh M Q) := by
  rw [x70_47, ml_0]
  exact ⟨fun h => h.2, fun h => ⟨by decide, h⟩⟩
theorem s70_62 (x1 : Int) (x2 : Int) (x3 : Int) (x4 : Int) (y0 : Int) (M : ma_M) (Q : Option ma_V → ma_S → ma_M → Prop) : ma_wp 70 62 [(2, 0), (0, x1), (0, x2), (0, x3), (0, x4)] [(0, y0)] mr_SH M Q ↔ ma_wp 70 63 [(2, 0), (0, x1), (0, x2), (0, x3), (0, x4)] [(2, 0), (0, y0)] mr_SH M Q := by
  rw [x70_62]
  exact ⟨fun h => h.2, fun h => ⟨by decide, h⟩⟩
theorem s70_63 (x1 : Int) (x2 : Int) (x3 : Int) (x4 : Int) (y1 : Int) (M : ma_M) (Q : Option ma_V → ma_S → ma_M → Prop) : ma_wp 70 63 [(2, 0), (0, x1), (0, x2), (0, x3), (0, x4)] [(2, 0), (0, y1)] mr_SH M Q ↔ ma_wp 70 66 [(2, 0), (0, x1), (0, x2), (0, x3), (0, x4)] [(0, M 0 11), (0, y1)] mr_SH M Q := by
  rw [x70_63, ml_0]
  exact ⟨fun h => h.2, fun h => ⟨by decide, h⟩⟩
theorem s70_69 (x1 : Int) (x2 : Int) (x3 : Int) (x4 : Int) (M : ma_M) (Q : Option ma_V → ma_S → ma_M → Prop) : ma_wp 70 69 [(2, 0), (0, x1), (0, x2), (0, x3), (0, x4)] [] mr_SH M Q ↔ ma_wp 70 70 [(2, 0), (0, x1), (0, x2), (0, x3), (0, x4)] [(2, 0)] mr_SH M Q := by
  rw [x70_69]
  exact ⟨fun h => h.2, fun h => ⟨by decide, h⟩⟩
theorem s70_70 (x1 : Int) (x2 : Int) (x3 : Int) (x4 : Int) (M : ma_M) (Q : Option ma_V → ma_S → ma_M → Prop) (hF : mr_FIX M) : ma_wp 70 70 [(2, 0), (0, x1), (0, x2), (0, x3), (0, x4)] [(2, 0)] mr_SH M Q ↔ ma_wp 70 73 [(2, 0), (0, x1), (0, x2), (0, x3), (0, x4)] [(2, 56)] mr_SH M Q := by
  rw [x70_70, mf_0_12 hF, ml_0]
  exact ⟨fun h => h.2, fun h => ⟨by decide, h⟩⟩
theorem s70_76 (x1 : Int) (x2 : Int) (x3 : Int) (x4 : Int) (y0 : Int) (M : ma_M) (Q : Option ma_V → ma_S → ma_M → Prop) (hF : mr_FIX M) : ma_wp 70 76 [(2, 0), (0, x1), (0, x2), (0, x3), (0, x4)] [(0, y0), (2, 56)] mr_SH M Q ↔ (0 ≤ y0 ∧ y0 < 21) ∧ ma_wp 70 77 [(2, 0), (0, x1), (0, x2), (0, x3), (0, x4)] [(2, 57 + y0)] mr_SH M Q := by
  rw [x70_76, ml_56]
  constructor
  · rintro ⟨h1, h2⟩
    rw [mg_56 hF h1.1 h1.2] at h2
    exact ⟨h1, h2⟩
  · rintro ⟨h1, h2⟩
    rw [mg_56 hF h1.1 h1.2]
    exact ⟨h1, h2⟩
theorem s70_79 (x1 : Int) (x2 : Int) (x3 : Int) (x4 : Int) (y0 : Int) (y1 : Int) (M : ma_M) (Q : Option ma_V → ma_S → ma_M → Prop) : ma_wp 70 79 [(2, 0), (0, x1), (0, x2), (0, x3), (0, x4)] [(0, y0), (2, y1)] mr_SH M Q ↔ ma_wp 70 80 [(2, 0), (0, x1), (0, x2), (0, x3), (0, x4)] [(2, 0), (0, y0), (2, y1)] mr_SH M Q := by
  rw [x70_79]
  exact ⟨fun h => h.2, fun h => ⟨by decide, h⟩⟩
theorem s70_80 (x1 : Int) (x2 : Int) (x3 : Int) (x4 : Int) (y1 : Int) (y2 : Int) (M : ma_M) (Q : Option ma_V → ma_S → ma_M → Prop) (hF : mr_FIX M) : ma_wp 70 80 [(2, 0), (0, x1), (0, x2), (0, x3), (0, x4)] [(2, 0), (0, y1), (2, y2)] mr_SH M Q ↔ ma_wp 70 83 [(2, 0), (0, x1), (0, x2), (0, x3), (0, x4)] [(2, 8), (0, y1), (2, y2)] mr_SH M Q := by
  rw [x70_80, mf_0_1 hF, ml_0]
  exact ⟨fun h => h.2, fun h => ⟨by decide, h⟩⟩
theorem s70_83 (x1 : Int) (x2 : Int) (x3 : Int) (x4 : Int) (y1 : Int) (y2 : Int) (M : ma_M) (Q : Option ma_V → ma_S → ma_M → Prop) (hF : mr_FIX M) : ma_wp 70 83 [(2, 0), (0, x1), (0, x2), (0, x3), (0, x4)] [(2, 8), (0, y1), (2, y2)] mr_SH M Q ↔ ma_wp 70 86 [(2, 0), (0, x1), (0, x2), (0, x3), (0, x4)] [(2, 9), (0, y1), (2, y2)] mr_SH M Q := by
  rw [x70_83, mf_8_0 hF, ml_8]
  exact ⟨fun h => h.2, fun h => ⟨by decide, h⟩⟩
theorem s70_86 (x1 : Int) (x2 : Int) (x3 : Int) (x4 : Int) (y1 : Int) (y2 : Int) (M : ma_M) (Q : Option ma_V → ma_S → ma_M → Prop) : ma_wp 70 86 [(2, 0), (0, x1), (0, x2), (0, x3), (0, x4)] [(2, 9), (0, y1), (2, y2)] mr_SH M Q ↔ ma_wp 70 87 [(2, 0), (0, x1), (0, x2), (0, x3), (0, x4)] [(2, 0), (2, 9), (0, y1), (2, y2)] mr_SH M Q := by
  rw [x70_86]
  exact ⟨fun h => h.2, fun h => ⟨by decide, h⟩⟩
theorem s70_87 (x1 : Int) (x2 : Int) (x3 : Int) (x4 : Int) (y2 : Int) (y3 : Int) (M : ma_M) (Q : Option ma_V → ma_S → ma_M → Prop) (hF : mr_FIX M) : ma_wp 70 87 [(2, 0), (0, x1), (0, x2), (0, x3), (0, x4)] [(2, 0), (2, 9), (0, y2), (2, y3)] mr_SH M Q ↔ ma_wp 70 90 [(2, 0), (0, x1), (0, x2), (0, x3), (0, x4)] [(2, 54), (2, 9), (0, y2), (2, y3)] mr_SH M Q := by
  rw [x70_87, mf_0_9 hF, ml_0]
  exact ⟨fun h => h.2, fun h => ⟨by decide, h⟩⟩
theorem s70_92 (x1 : Int) (x2 : Int) (x3 : Int) (x4 : Int) (y0 : Int) (y3 : Int) (y4 : Int) (M : ma_M) (Q : Option ma_V → ma_S → ma_M → Prop) : ma_wp 70 92 [(2, 0), (0, x1), (0, x2), (0, x3), (0, x4)] [(0, y0), (2, 54), (2, 9), (0, y3), (2, y4)] mr_SH M Q ↔ (0 ≤ y0 ∧ y0 < 5) ∧ ma_wp 70 93 [(2, 0), (0, x1), (0, x2), (0, x3), (0, x4)] [(0, M 54 y0), (2, 9), (0, y3), (2, y4)] mr_SH M Q := by
  rw [x70_92, ml_54]
theorem s70_93 (x1 : Int) (x2 : Int) (x3 : Int) (x4 : Int) (y0 : Int) (y2 : Int) (y3 : Int) (M : ma_M) (Q : Option ma_V → ma_S → ma_M → Prop) (hF : mr_FIX M) : ma_wp 70 93 [(2, 0), (0, x1), (0, x2), (0, x3), (0, x4)] [(0, y0), (2, 9), (0, y2), (2, y3)] mr_SH M Q ↔ (0 ≤ y0 ∧ y0 < 24) ∧ ma_wp 70 94 [(2, 0), (0, x1), (0, x2), (0, x3), (0, x4)] [(2, 10 + y0), (0, y2), (2, y3)] mr_SH M Q := by
  rw [x70_93, ml_9]
  constructor
  · rintro ⟨h1, h2⟩
    rw [mg_9 hF h1.1 h1.2] at h2
    exact ⟨h1, h2⟩
  · rintro ⟨h1, h2⟩
    rw [mg_9 hF h1.1 h1.2]
    exact ⟨h1, h2⟩
theorem s71_0 (x1 : Int) (x2 : Int) (x3 : Int) (M : ma_M) (Q : Option ma_V → ma_S → ma_M → Prop) : ma_wp 71 0 [(2, 0), (0, x1), (3, x2), (3, x3)] [] mr_SH M Q ↔ ma_wp 71 1 [(2, 0), (0, x1), (3, x2), (3, x3)] [(2, 0)] mr_SH M Q := by
  rw [x71_0]
  exact ⟨fun h => h.2, fun h => ⟨by decide, h⟩⟩
theorem s71_1 (x1 : Int) (x2 : Int) (x3 : Int) (M : ma_M) (Q : Option ma_V → ma_S → ma_M → Prop) : ma_wp 71 1 [(2, 0), (0, x1), (3, x2), (3, x3)] [(2, 0)] mr_SH M Q ↔ ma_wp 71 2 [(2, 0), (0, x1), (3, x2), (3, x3)] [(2, 0), (2, 0)] mr_SH M Q := by
  rw [x71_1]
  exact ⟨fun h => h.2, fun h => ⟨by decide, h⟩⟩
theorem s71_2 (x1 : Int) (x2 : Int) (x3 : Int) (M : ma_M) (Q : Option ma_V → ma_S → ma_M → Prop) : ma_wp 71 2 [(2, 0), (0, x1), (3, x2), (3, x3)] [(2, 0), (2, 0)] mr_SH M Q ↔ ma_wp 71 5 [(2, 0), (0, x1), (3, x2), (3, x3)] [(0, M 0 11), (2, 0)] mr_SH M Q := by
  rw [x71_2, ml_0]
  exact ⟨fun h => h.2, fun h => ⟨by decide, h⟩⟩
theorem s71_5 (x1 : Int) (x2 : Int) (x3 : Int) (y0 : Int) (M : ma_M) (Q : Option ma_V → ma_S → ma_M → Prop) : ma_wp 71 5 [(2, 0), (0, x1), (3, x2), (3, x3)] [(0, y0), (2, 0)] mr_SH M Q ↔ ma_wp 71 8 [(2, 0), (0, x1), (3, x2), (3, x3)] [] mr_SH (ma_up M 0 15 y0) Q := by
  rw [x71_5, ml_0]
  exact ⟨fun h => h.2, fun h => ⟨by decide, h⟩⟩
theorem s71_8 (x1 : Int) (x2 : Int) (x3 : Int) (M : ma_M) (Q : Option ma_V → ma_S → ma_M → Prop) : ma_wp 71 8 [(2, 0), (0, x1), (3, x2), (3, x3)] [] mr_SH M Q ↔ ma_wp 71 9 [(2, 0), (0, x1), (3, x2), (3, x3)] [(2, 0)] mr_SH M Q := by
  rw [x71_8]
  exact ⟨fun h => h.2, fun h => ⟨by decide, h⟩⟩
theorem s71_9 (x1 : Int) (x2 : Int) (x3 : Int) (M : ma_M) (Q : Option ma_V → ma_S → ma_M → Prop) (hF : mr_FIX M) : ma_wp 71 9 [(2, 0), (0, x1), (3, x2), (3, x3)] [(2, 0)] mr_SH M Q ↔ ma_wp 71 12 [(2, 0), (0, x1), (3, x2), (3, x3)] [(2, 56)] mr_SH M Q := by
  rw [x71_9, mf_0_12 hF, ml_0]
  exact ⟨fun h => h.2, fun h => ⟨by decide, h⟩⟩
theorem s71_13 (x1 : Int) (x2 : Int) (x3 : Int) (y0 : Int) (M : ma_M) (Q : Option ma_V → ma_S → ma_M → Prop) (hF : mr_FIX M) : ma_wp 71 13 [(2, 0), (0, x1), (3, x2), (3, x3)] [(0, y0), (2, 56)] mr_SH M Q ↔ (0 ≤ y0 ∧ y0 < 21) ∧ ma_wp 71 14 [(2, 0), (0, x1), (3, x2), (3, x3)] [(2, 57 + y0)] mr_SH M Q := by
  rw [x71_13, ml_56]
  constructor
  · rintro ⟨h1, h2⟩
    rw [mg_56 hF h1.1 h1.2] at h2
    exact ⟨h1, h2⟩
  · rintro ⟨h1, h2⟩
    rw [mg_56 hF h1.1 h1.2]
    exact ⟨h1, h2⟩
theorem s71_15 (x1 : Int) (x2 : Int) (x3 : Int) (y0 : Int) (y1 : Int) (M : ma_M) (Q : Option ma_V → ma_S → ma_M → Prop) : ma_wp 71 15 [(2, 0), (0, x1), (3, x2), (3, x3)] [(0, y0), (2, y1)] mr_SH M Q ↔ ma_wp 71 16 [(2, 0), (0, x1), (3, x2), (3, x3)] [(2, 0), (0, y0), (2, y1)] mr_SH M Q := by
  rw [x71_15]
  exact ⟨fun h => h.2, fun h => ⟨by decide, h⟩⟩
theorem s71_16 (x1 : Int) (x2 : Int) (x3 : Int) (y1 : Int) (y2 : Int) (M : ma_M) (Q : Option ma_V → ma_S → ma_M → Prop) (hF : mr_FIX M) : ma_wp 71 16 [(2, 0), (0, x1), (3, x2), (3, x3)] [(2, 0), (0, y1), (2, y2)] mr_SH M Q ↔ ma_wp 71 19 [(2, 0), (0, x1), (3, x2), (3, x3)] [(2, 78), (0, y1), (2, y2)] mr_SH M Q := by
  rw [x71_16, mf_0_13 hF, ml_0]
  exact ⟨fun h => h.2, fun h => ⟨by decide, h⟩⟩
theorem s71_20 (x1 : Int) (x2 : Int) (x3 : Int) (y0 : Int) (y2 : Int) (y3 : Int) (M : ma_M) (Q : Option ma_V → ma_S → ma_M → Prop) : ma_wp 71 20 [(2, 0), (0, x1), (3, x2), (3, x3)] [(0, y0), (2, 78), (0, y2), (2, y3)] mr_SH M Q ↔ ma_wp 71 21 [(2, 0), (0, x1), (3, x2), (3, x3)] [(2, 0), (0, y0), (2, 78), (0, y2), (2, y3)] mr_SH M Q := by
  rw [x71_20]
  exact ⟨fun h => h.2, fun h => ⟨by decide, h⟩⟩
theorem s71_21 (x1 : Int) (x2 : Int) (x3 : Int) (y1 : Int) (y3 : Int) (y4 : Int) (M : ma_M) (Q : Option ma_V → ma_S → ma_M → Prop) : ma_wp 71 21 [(2, 0), (0, x1), (3, x2), (3, x3)] [(2, 0), (0, y1), (2, 78), (0, y3), (2, y4)] mr_SH M Q ↔ ma_wp 71 24 [(2, 0), (0, x1), (3, x2), (3, x3)] [(0, M 0 15), (0, y1), (2, 78), (0, y3), (2, y4)] mr_SH M Q := by
  rw [x71_21, ml_0]
  exact ⟨fun h => h.2, fun h => ⟨by decide, h⟩⟩
theorem s71_27 (x1 : Int) (x2 : Int) (x3 : Int) (M : ma_M) (Q : Option ma_V → ma_S → ma_M → Prop) : ma_wp 71 27 [(2, 0), (0, x1), (3, x2), (3, x3)] [] mr_SH M Q ↔ ma_wp 71 28 [(2, 0), (0, x1), (3, x2), (3, x3)] [(2, 0)] mr_SH M Q := by
  rw [x71_27]
  exact ⟨fun h => h.2, fun h => ⟨by decide, h⟩⟩
theorem s71_28 (x1 : Int) (x2 : Int) (x3 : Int) (M : ma_M) (Q : Option ma_V → ma_S → ma_M → Prop) (hF : mr_FIX M) : ma_wp 71 28 [(2, 0), (0, x1), (3, x2), (3, x3)] [(2, 0)] mr_SH M Q ↔ ma_wp 71 31 [(2, 0), (0, x1), (3, x2), (3, x3)] [(2, 55)] mr_SH M Q := by
  rw [x71_28, mf_0_10 hF, ml_0]
  exact ⟨fun h => h.2, fun h => ⟨by decide, h⟩⟩
theorem s71_32 (x1 : Int) (x2 : Int) (x3 : Int) (y0 : Int) (M : ma_M) (Q : Option ma_V → ma_S → ma_M → Prop) : ma_wp 71 32 [(2, 0), (0, x1), (3, x2), (3, x3)] [(0, y0), (2, 55)] mr_SH M Q ↔ ma_wp 71 33 [(2, 0), (0, x1), (3, x2), (3, x3)] [(2, 0), (0, y0), (2, 55)] mr_SH M Q := by
  rw [x71_32]
  exact ⟨fun h => h.2, fun h => ⟨by decide, h⟩⟩
theorem s71_33 (x1 : Int) (x2 : Int) (x3 : Int) (y1 : Int) (M : ma_M) (Q : Option ma_V → ma_S → ma_M → Prop) (hF : mr_FIX M) : ma_wp 71 33 [(2, 0), (0, x1), (3, x2), (3, x3)] [(2, 0), (0, y1), (2, 55)] mr_SH M Q ↔ ma_wp 71 36 [(2, 0), (0, x1), (3, x2), (3, x3)] [(2, 79), (0, y1), (2, 55)] mr_SH M Q := by
  rw [x71_33, mf_0_14 hF, ml_0]
  exact ⟨fun h => h.2, fun h => ⟨by decide, h⟩⟩
theorem s71_37 (x1 : Int) (x2 : Int) (x3 : Int) (y0 : Int) (y2 : Int) (M : ma_M) (Q : Option ma_V → ma_S → ma_M → Prop) : ma_wp 71 37 [(2, 0), (0, x1), (3, x2), (3, x3)] [(0, y0), (2, 79), (0, y2), (2, 55)] mr_SH M Q ↔ ma_wp 71 38 [(2, 0), (0, x1), (3, x2), (3, x3)] [(2, 0), (0, y0), (2, 79), (0, y2), (2, 55)] mr_SH M Q := by
  rw [x71_37]
  exact ⟨fun h => h.2, fun h => ⟨by decide, h⟩⟩
theorem s71_38 (x1 : Int) (x2 : Int) (x3 : Int) (y1 : Int) (y3 : Int) (M : ma_M) (Q : Option ma_V → ma_S → ma_M → Prop) : ma_wp 71 38 [(2, 0), (0, x1), (3, x2), (3, x3)] [(2, 0), (0, y1), (2, 79), (0, y3), (2, 55)] mr_SH M Q ↔ ma_wp 71 41 [(2, 0), (0, x1), (3, x2), (3, x3)] [(0, M 0 15), (0, y1), (2, 79), (0, y3), (2, 55)] mr_SH M Q := by
  rw [x71_38, ml_0]
  exact ⟨fun h => h.2, fun h => ⟨by decide, h⟩⟩
theorem s71_52 (x1 : Int) (x2 : Int) (a3 : ma_V) (M : ma_M) (Q : Option ma_V → ma_S → ma_M → Prop) : ma_wp 71 52 [(2, 0), (0, x1), (0, x2), a3] [] mr_SH M Q ↔ ma_wp 71 53 [(2, 0), (0, x1), (0, x2), a3] [(2, 0)] mr_SH M Q := by
  rw [x71_52]
  exact ⟨fun h => h.2, fun h => ⟨by decide, h⟩⟩
theorem s71_53 (x1 : Int) (x2 : Int) (a3 : ma_V) (M : ma_M) (Q : Option ma_V → ma_S → ma_M → Prop) (hF : mr_FIX M) : ma_wp 71 53 [(2, 0), (0, x1), (0, x2), a3] [(2, 0)] mr_SH M Q ↔ ma_wp 71 56 [(2, 0), (0, x1), (0, x2), a3] [(2, 8)] mr_SH M Q := by
  rw [x71_53, mf_0_1 hF, ml_0]
  exact ⟨fun h => h.2, fun h => ⟨by decide, h⟩⟩
theorem s71_56 (x1 : Int) (x2 : Int) (a3 : ma_V) (M : ma_M) (Q : Option ma_V → ma_S → ma_M → Prop) : ma_wp 71 56 [(2, 0), (0, x1), (0, x2), a3] [(2, 8)] mr_SH M Q ↔ ma_wp 71 57 [(2, 0), (0, x1), (0, x2), a3] [(2, 0), (2, 8)] mr_SH M Q := by
  rw [x71_56]
  exact ⟨fun h => h.2, fun h => ⟨by decide, h⟩⟩
theorem s71_57 (x1 : Int) (x2 : Int) (a3 : ma_V) (M : ma_M) (Q : Option ma_V → ma_S → ma_M → Prop) (hF : mr_FIX M) : ma_wp 71 57 [(2, 0), (0, x1), (0, x2), a3] [(2, 0), (2, 8)] mr_SH M Q ↔ ma_wp 71 60 [(2, 0), (0, x1), (0, x2), a3] [(2, 1), (2, 8)] mr_SH M Q := by
  rw [x71_57, mf_0_0 hF, ml_0]
  exact ⟨fun h => h.2, fun h => ⟨by decide, h⟩⟩
theorem s71_60 (x1 : Int) (x2 : Int) (a3 : ma_V) (M : ma_M) (Q : Option ma_V → ma_S → ma_M → Prop) : ma_wp 71 60 [(2, 0), (0, x1), (0, x2), a3] [(2, 1), (2, 8)] mr_SH M Q ↔ ma_wp 71 61 [(2, 0), (0, x1), (0, x2), a3] [(2, 0), (2, 1), (2, 8)] mr_SH M Q := by
  rw [x71_60]
  exact ⟨fun h => h.2, fun h => ⟨by decide, h⟩⟩
theorem s71_61 (x1 : Int) (x2 : Int) (a3 : ma_V) (M : ma_M) (Q : Option ma_V → ma_S → ma_M → Prop) (hF : mr_FIX M) : ma_wp 71 61 [(2, 0), (0, x1), (0, x2), a3] [(2, 0), (2, 1), (2, 8)] mr_SH M Q ↔ ma_wp 71 64 [(2, 0), (0, x1), (0, x2), a3] [(2, 56), (2, 1), (2, 8)] mr_SH M Q := by
  rw [x71_61, mf_0_12 hF, ml_0]
  exact ⟨fun h => h.2, fun h => ⟨by decide, h⟩⟩
theorem s71_65 (x1 : Int) (x2 : Int) (a3 : ma_V) (y0 : Int) (M : ma_M) (Q : Option ma_V → ma_S → ma_M → Prop) (hF : mr_FIX M) : ma_wp 71 65 [(2, 0), (0, x1), (0, x2), a3] [(0, y0), (2, 56), (2, 1), (2, 8)] mr_SH M Q ↔ (0 ≤ y0 ∧ y0 < 21) ∧ ma_wp 71 66 [(2, 0), (0, x1), (0, x2), a3] [(2, 57 + y0), (2, 1), (2, 8)] mr_SH M Q := by
  rw [x71_65, ml_56]
  constructor
  · rintro ⟨h1, h2⟩
    rw [mg_56 hF h1.1 h1.2] at h2
    exact ⟨h1, h2⟩
  · rintro ⟨h1, h2⟩
    rw [mg_56 hF h1.1 h1.2]
    exact ⟨h1, h2⟩
theorem s71_66 (x1 : Int) (x2 : Int) (a3 : ma_V) (y0 : Int) (M : ma_M) (Q : Option ma_V → ma_S → ma_M → Prop) : ma_wp 71 66 [(2, 0), (0, x1), (0, x2), a3] [(2, y0), (2, 1), (2, 8)] mr_SH M Q ↔ ma_wp 71 67 [(2, 0), (0, x1), (0, x2), a3] [(2, 0), (2, y0), (2, 1), (2, 8)] mr_SH M Q := by
  rw [x71_66]
  exact ⟨fun h => h.2, fun h => ⟨by decide, h⟩⟩
theorem s71_67 (x1 : Int) (x2 : Int) (a3 : ma_V) (y1 : Int) (M : ma_M) (Q : Option ma_V → ma_S → ma_M → Prop) (hF : mr_FIX M) : ma_wp 71 67 [(2, 0), (0, x1), (0, x2), a3] [(2, 0), (2, y1), (2, 1), (2, 8)] mr_SH M Q ↔ ma_wp 71 70 [(2, 0), (0, x1), (0, x2), a3] [(2, 51), (2, y1), (2, 1), (2, 8)] mr_SH M Q := by
  rw [x71_67, mf_0_6 hF, ml_0]
  exact ⟨fun h => h.2, fun h => ⟨by decide, h⟩⟩
theorem s71_71 (x1 : Int) (x2 : Int) (a3 : ma_V) (y0 : Int) (y2 : Int) (M : ma_M) (Q : Option ma_V → ma_S → ma_M → Prop) : ma_wp 71 71 [(2, 0), (0, x1), (0, x2), a3] [(0, y0), (2, 51), (2, y2), (2, 1), (2, 8)] mr_SH M Q ↔ mr_do 15 [(2, 8), (2, 1), (2, y2), (2, 51), (0, y0)] mr_SH M (fun r sh M => ma_wp 71 74 [(2, 0), (0, x1), (0, x2), a3] (r.toList ++ []) sh M Q) := by
  rw [x71_71, ml_8]
  exact ⟨fun h => h.2, fun h => ⟨by decide, h⟩⟩
theorem s71_74 (x1 : Int) (x2 : Int) (a3 : ma_V) (M : ma_M) (Q : Option ma_V → ma_S → ma_M → Prop) : ma_wp 71 74 [(2, 0), (0, x1), (0, x2), a3] [] mr_SH M Q ↔ ma_wp 71 75 [(2, 0), (0, x1), (0, x2), a3] [(2, 0)] mr_SH M Q := by
  rw [x71_74]
  exact ⟨fun h => h.2, fun h => ⟨by decide, h⟩⟩
theorem s71_75 (x1 : Int) (x2 : Int) (a3 : ma_V) (M : ma_M) (Q : Option ma_V → ma_S → ma_M → Prop) : ma_wp 71 75 [(2, 0), (0, x1), (0, x2), a3] [(2, 0)] mr_SH M Q ↔ ma_wp 71 76 [(2, 0), (0, x1), (0, x2), a3] [(2, 0), (2, 0)] mr_SH M Q := by
  rw [x71_75]
  exact ⟨fun h => h.2, fun h => ⟨by decide, h⟩⟩
theorem s71_76 (x1 : Int) (x2 : Int) (a3 : ma_V) (M : ma_M) (Q : Option ma_V → ma_S → ma_M → Prop) (hF : mr_FIX M) : ma_wp 71 76 [(2, 0), (0, x1), (0, x2), a3] [(2, 0), (2, 0)] mr_SH M Q ↔ ma_wp 71 79 [(2, 0), (0, x1), (0, x2), a3] [(2, 79), (2, 0)] mr_SH M Q := by
  rw [x71_76, mf_0_14 hF, ml_0]
  exact ⟨fun h => h.2, fun h => ⟨by decide, h⟩⟩
theorem s71_79 (x1 : Int) (x2 : Int) (a3 : ma_V) (M : ma_M) (Q : Option ma_V → ma_S → ma_M → Prop) : ma_wp 71 79 [(2, 0), (0, x1), (0, x2), a3] [(2, 79), (2, 0)] mr_SH M Q ↔ mr_do 66 [(2, 0), (2, 79)] mr_SH M (fun r sh M => ma_wp 71 82 [(2, 0), (0, x1), (0, x2), a3] (r.toList ++ []) sh M Q) := by
  rw [x71_79, ml_0]
  exact ⟨fun h => h.2, fun h => ⟨by decide, h⟩⟩
theorem s71_85 (x1 : Int) (x2 : Int) (x3 : Int) (y0 : Int) (M : ma_M) (Q : Option ma_V → ma_S → ma_M → Prop) : ma_wp 71 85 [(2, 0), (0, x1), (0, x2), (0, x3)] [(0, y0)] mr_SH M Q ↔ ma_wp 71 86 [(2, 0), (0, x1), (0, x2), (0, x3)] [(2, 0), (0, y0)] mr_SH M Q := by
  rw [x71_85]
  exact ⟨fun h => h.2, fun h => ⟨by decide, h⟩⟩
theorem s71_86 (x1 : Int) (x2 : Int) (x3 : Int) (y1 : Int) (M : ma_M) (Q : Option ma_V → ma_S → ma_M → Prop) : ma_wp 71 86 [(2, 0), (0, x1), (0, x2), (0, x3)] [(2, 0), (0, y1)] mr_SH M Q ↔ ma_wp 71 89 [(2, 0), (0, x1), (0, x2), (0, x3)] [(0, M 0 15), (0, y1)] mr_SH M Q := by
  rw [x71_86, ml_0]
  exact ⟨fun h => h.2, fun h => ⟨by decide, h⟩⟩
theorem s71_92 (x1 : Int) (x2 : Int) (x3 : Int) (M : ma_M) (Q : Option ma_V → ma_S → ma_M → Prop) : ma_wp 71 92 [(2, 0), (0, x1), (0, x2), (0, x3)] [] mr_SH M Q ↔ ma_wp 71 93 [(2, 0), (0, x1), (0, x2), (0, x3)] [(2, 0)] mr_SH M Q := by
  rw [x71_92]
  exact ⟨fun h => h.2, fun h => ⟨by decide, h⟩⟩
theorem s71_93 (x1 : Int) (x2 : Int) (x3 : Int) (M : ma_M) (Q : Option ma_V → ma_S → ma_M → Prop) (hF : mr_FIX M) : ma_wp 71 93 [(2, 0), (0, x1), (0, x2), (0, x3)] [(2, 0)] mr_SH M Q ↔ ma_wp 71 96 [(2, 0), (0, x1), (0, x2), (0, x3)] [(2, 79)] mr_SH M Q := by
  rw [x71_93, mf_0_14 hF, ml_0]
  exact ⟨fun h => h.2, fun h => ⟨by decide, h⟩⟩
theorem s71_97 (x1 : Int) (x2 : Int) (x3 : Int) (y0 : Int) (M : ma_M) (Q : Option ma_V → ma_S → ma_M → Prop) : ma_wp 71 97 [(2, 0), (0, x1), (0, x2), (0, x3)] [(0, y0), (2, 79)] mr_SH M Q ↔ ma_wp 71 98 [(2, 0), (0, x1), (0, x2), (0, x3)] [(2, 0), (0, y0), (2, 79)] mr_SH M Q := by
  rw [x71_97]
  exact ⟨fun h => h.2, fun h => ⟨by decide, h⟩⟩
theorem s71_98 (x1 : Int) (x2 : Int) (x3 : Int) (y1 : Int) (M : ma_M) (Q : Option ma_V → ma_S → ma_M → Prop) (hF : mr_FIX M) : ma_wp 71 98 [(2, 0), (0, x1), (0, x2), (0, x3)] [(2, 0), (0, y1), (2, 79)] mr_SH M Q ↔ ma_wp 71 101 [(2, 0), (0, x1), (0, x2), (0, x3)] [(2, 35), (0, y1), (2, 79)] mr_SH M Q := by
  rw [x71_98, mf_0_2 hF, ml_0]
  exact ⟨fun h => h.2, fun h => ⟨by decide, h⟩⟩
theorem s71_101 (x1 : Int) (x2 : Int) (x3 : Int) (y1 : Int) (M : ma_M) (Q : Option ma_V → ma_S → ma_M → Prop) (hF : mr_FIX M) : ma_wp 71 101 [(2, 0), (0, x1), (0, x2), (0, x3)] [(2, 35), (0, y1), (2, 79)] mr_SH M Q ↔ ma_wp 71 104 [(2, 0), (0, x1), (0, x2), (0, x3)] [(2, 36), (0, y1), (2, 79)] mr_SH M Q := by
  rw [x71_101, mf_35_0 hF, ml_35]
  exact ⟨fun h => h.2, fun h => ⟨by decide, h⟩⟩
theorem s71_104 (x1 : Int) (x2 : Int) (x3 : Int) (y1 : Int) (M : ma_M) (Q : Option ma_V → ma_S → ma_M → Prop) : ma_wp 71 104 [(2, 0), (0, x1), (0, x2), (0, x3)] [(2, 36), (0, y1), (2, 79)] mr_SH M Q ↔ ma_wp 71 105 [(2, 0), (0, x1), (0, x2), (0, x3)] [(2, 0), (2, 36), (0, y1), (2, 79)] mr_SH M Q := by
  rw [x71_104]
  exact ⟨fun h => h.2, fun h => ⟨by decide, h⟩⟩
theorem s71_105 (x1 : Int) (x2 : Int) (x3 : Int) (y2 : Int) (M : ma_M) (Q : Option ma_V → ma_S → ma_M → Prop) (hF : mr_FIX M) : ma_wp 71 105 [(2, 0), (0, x1), (0, x2), (0, x3)] [(2, 0), (2, 36), (0, y2), (2, 79)] mr_SH M Q ↔ ma_wp 71 108 [(2, 0), (0, x1), (0, x2), (0, x3)] [(2, 1), (2, 36), (0, y2), (2, 79)] mr_SH M Q := by
  rw [x71_105, mf_0_0 hF, ml_0]
  exact ⟨fun h => h.2, fun h => ⟨by decide, h⟩⟩
theorem s71_108 (x1 : Int) (x2 : Int) (x3 : Int) (y2 : Int) (M : ma_M) (Q : Option ma_V → ma_S → ma_M → Prop) (hF : mr_FIX M) : ma_wp 71 108 [(2, 0), (0, x1), (0, x2), (0, x3)] [(2, 1), (2, 36), (0, y2), (2, 79)] mr_SH M Q ↔ ma_wp 71 111 [(2, 0), (0, x1), (0, x2), (0, x3)] [(2, 7), (2, 36), (0, y2), (2, 79)] mr_SH M Q := by
  rw [x71_108, mf_1_7 hF, ml_1]
  exact ⟨fun h => h.2, fun h => ⟨by decide, h⟩⟩
theorem s71_112 (x1 : Int) (x2 : Int) (x3 : Int) (y0 : Int) (y3 : Int) (M : ma_M) (Q : Option ma_V → ma_S → ma_M → Prop) : ma_wp 71 112 [(2, 0), (0, x1), (0, x2), (0, x3)] [(0, y0), (2, 7), (2, 36), (0, y3), (2, 79)] mr_SH M Q ↔ (0 ≤ y0 ∧ y0 < 5) ∧ ma_wp 71 113 [(2, 0), (0, x1), (0, x2), (0, x3)] [(0, M 7 y0), (2, 36), (0, y3), (2, 79)] mr_SH M Q := by
  rw [x71_112, ml_7]
theorem s71_113 (x1 : Int) (x2 : Int) (x3 : Int) (y0 : Int) (y2 : Int) (M : ma_M) (Q : Option ma_V → ma_S → ma_M → Prop) : ma_wp 71 113 [(2, 0), (0, x1), (0, x2), (0, x3)] [(0, y0), (2, 36), (0, y2), (2, 79)] mr_SH M Q ↔ (0 ≤ y0 ∧ y0 < 24) ∧ ma_wp 71 114 [(2, 0), (0, x1), (0, x2), (0, x3)] [(0, M 36 y0), (0, y2), (2, 79)] mr_SH M Q := by
  rw [x71_113, ml_36]
theorem s71_114 (x1 : Int) (x2 : Int) (x3 : Int) (y0 : Int) (y1 : Int) (M : ma_M) (Q : Option ma_V → ma_S → ma_M → Prop) : ma_wp 71 114 [(2, 0), (0, x1), (0, x2), (0, x3)] [(0, y0), (0, y1), (2, 79)] mr_SH M Q ↔ (0 ≤ y1 ∧ y1 < 5) ∧ ma_wp 71 115 [(2, 0), (0, x1), (0, x2), (0, x3)] [] mr_SH (ma_up M 79 y1 y0) Q := by
  rw [x71_114, ml_79]
