theorem s85_10 (x1 : Int) (x2 : Int) (x3 : Int) (x4 : Int) (M : ma_M) (Q : Option ma_V → ma_S → ma_M → Prop) : ma_wp 85 10 [(2, 80), (0, x1), (0, x2), (0, x3), (0, x4)] [] mr_SH M Q ↔ ma_wp 85 11 [(2, 80), (0, x1), (0, x2), (0, x3), (0, x4)] [(2, 80)] mr_SH M Q := by
  rw [x85_10]
  exact ⟨fun h => h.2, fun h => ⟨by decide, h⟩⟩
theorem s85_11 (x1 : Int) (x2 : Int) (x3 : Int) (x4 : Int) (M : ma_M) (Q : Option ma_V → ma_S → ma_M → Prop) (hF : mr_FIX M) : ma_wp 85 11 [(2, 80), (0, x1), (0, x2), (0, x3), (0, x4)] [(2, 80)] mr_SH M Q ↔ ma_wp 85 14 [(2, 80), (0, x1), (0, x2), (0, x3), (0, x4)] [(2, 90)] mr_SH M Q := by
  rw [x85_11, mf_80_12 hF, ml_80]
  exact ⟨fun h => h.2, fun h => ⟨by decide, h⟩⟩
theorem s85_17 (x1 : Int) (x2 : Int) (x3 : Int) (x4 : Int) (y0 : Int) (y1 : Int) (M : ma_M) (Q : Option ma_V → ma_S → ma_M → Prop) : ma_wp 85 17 [(2, 80), (0, x1), (0, x2), (0, x3), (0, x4)] [(1, y0), (0, y1), (2, 90)] mr_SH M Q ↔ (0 ≤ y1 ∧ y1 < 45) ∧ ma_wp 85 18 [(2, 80), (0, x1), (0, x2), (0, x3), (0, x4)] [] mr_SH (ma_up M 90 y1 y0) Q := by
  rw [x85_17, ml_90]
theorem s85_29 (x1 : Int) (x2 : Int) (x3 : Int) (x4 : Int) (y0 : Int) (M : ma_M) (Q : Option ma_V → ma_S → ma_M → Prop) : ma_wp 85 29 [(2, 80), (0, x1), (0, x2), (0, x3), (0, x4)] [(0, y0)] mr_SH M Q ↔ ma_wp 85 30 [(2, 80), (0, x1), (0, x2), (0, x3), (0, x4)] [(2, 80), (0, y0)] mr_SH M Q := by
  rw [x85_29]
  exact ⟨fun h => h.2, fun h => ⟨by decide, h⟩⟩
theorem s85_30 (x1 : Int) (x2 : Int) (x3 : Int) (x4 : Int) (y1 : Int) (M : ma_M) (Q : Option ma_V → ma_S → ma_M → Prop) : ma_wp 85 30 [(2, 80), (0, x1), (0, x2), (0, x3), (0, x4)] [(2, 80), (0, y1)] mr_SH M Q ↔ ma_wp 85 33 [(2, 80), (0, x1), (0, x2), (0, x3), (0, x4)] [(0, M 80 5), (0, y1)] mr_SH M Q := by
  rw [x85_30, ml_80]
  exact ⟨fun h => h.2, fun h => ⟨by decide, h⟩⟩
theorem s85_36 (x1 : Int) (x2 : Int) (x3 : Int) (x4 : Int) (M : ma_M) (Q : Option ma_V → ma_S → ma_M → Prop) : ma_wp 85 36 [(2, 80), (0, x1), (0, x2), (0, x3), (0, x4)] [] mr_SH M Q ↔ ma_wp 85 37 [(2, 80), (0, x1), (0, x2), (0, x3), (0, x4)] [(2, 80)] mr_SH M Q := by
  rw [x85_36]
  exact ⟨fun h => h.2, fun h => ⟨by decide, h⟩⟩
theorem s85_37 (x1 : Int) (x2 : Int) (x3 : Int) (x4 : Int) (M : ma_M) (Q : Option ma_V → ma_S → ma_M → Prop) (hF : mr_FIX M) : ma_wp 85 37 [(2, 80), (0, x1), (0, x2), (0, x3), (0, x4)] [(2, 80)] mr_SH M Q ↔ ma_wp 85 40 [(2, 80), (0, x1), (0, x2), (0, x3), (0, x4)] [(2, 90)] mr_SH M Q := by
  rw [x85_37, mf_80_12 hF, ml_80]
  exact ⟨fun h => h.2, fun h => ⟨by decide, h⟩⟩
theorem s85_45 (x1 : Int) (x2 : Int) (x3 : Int) (x4 : Int) (y0 : Int) (M : ma_M) (Q : Option ma_V → ma_S → ma_M → Prop) : ma_wp 85 45 [(2, 80), (0, x1), (0, x2), (0, x3), (0, x4)] [(0, y0), (2, 90)] mr_SH M Q ↔ ma_wp 85 46 [(2, 80), (0, x1), (0, x2), (0, x3), (0, x4)] [(2, 80), (0, y0), (2, 90)] mr_SH M Q := by
  rw [x85_45]
  exact ⟨fun h => h.2, fun h => ⟨by decide, h⟩⟩
theorem s85_46 (x1 : Int) (x2 : Int) (x3 : Int) (x4 : Int) (y1 : Int) (M : ma_M) (Q : Option ma_V → ma_S → ma_M → Prop) (hF : mr_FIX M) : ma_wp 85 46 [(2, 80), (0, x1), (0, x2), (0, x3), (0, x4)] [(2, 80), (0, y1), (2, 90)] mr_SH M Q ↔ ma_wp 85 49 [(2, 80), (0, x1), (0, x2), (0, x3), (0, x4)] [(2, 86), (0, y1), (2, 90)] mr_SH M Q := by
  rw [x85_46, mf_80_7 hF, ml_80]
  exact ⟨fun h => h.2, fun h => ⟨by decide, h⟩⟩
theorem s85_51 (x1 : Int) (x2 : Int) (x3 : Int) (x4 : Int) (y0 : Int) (y2 : Int) (M : ma_M) (Q : Option ma_V → ma_S → ma_M → Prop) : ma_wp 85 51 [(2, 80), (0, x1), (0, x2), (0, x3), (0, x4)] [(0, y0), (2, 86), (0, y2), (2, 90)] mr_SH M Q ↔ (0 ≤ y0 ∧ y0 < 5) ∧ ma_wp 85 52 [(2, 80), (0, x1), (0, x2), (0, x3), (0, x4)] [(1, M 86 y0), (0, y2), (2, 90)] mr_SH M Q := by
  rw [x85_51, ml_86]
theorem s85_52 (x1 : Int) (x2 : Int) (x3 : Int) (x4 : Int) (y0 : Int) (y1 : Int) (M : ma_M) (Q : Option ma_V → ma_S → ma_M → Prop) : ma_wp 85 52 [(2, 80), (0, x1), (0, x2), (0, x3), (0, x4)] [(1, y0), (0, y1), (2, 90)] mr_SH M Q ↔ (0 ≤ y1 ∧ y1 < 45) ∧ ma_wp 85 53 [(2, 80), (0, x1), (0, x2), (0, x3), (0, x4)] [] mr_SH (ma_up M 90 y1 y0) Q := by
  rw [x85_52, ml_90]
theorem s85_53 (x1 : Int) (x2 : Int) (x3 : Int) (x4 : Int) (M : ma_M) (Q : Option ma_V → ma_S → ma_M → Prop) : ma_wp 85 53 [(2, 80), (0, x1), (0, x2), (0, x3), (0, x4)] [] mr_SH M Q ↔ ma_wp 85 54 [(2, 80), (0, x1), (0, x2), (0, x3), (0, x4)] [(2, 80)] mr_SH M Q := by
  rw [x85_53]
  exact ⟨fun h => h.2, fun h => ⟨by decide, h⟩⟩
theorem s85_54 (x1 : Int) (x2 : Int) (x3 : Int) (x4 : Int) (M : ma_M) (Q : Option ma_V → ma_S → ma_M → Prop) (hF : mr_FIX M) : ma_wp 85 54 [(2, 80), (0, x1), (0, x2), (0, x3), (0, x4)] [(2, 80)] mr_SH M Q ↔ ma_wp 85 57 [(2, 80), (0, x1), (0, x2), (0, x3), (0, x4)] [(2, 90)] mr_SH M Q := by
  rw [x85_54, mf_80_12 hF, ml_80]
  exact ⟨fun h => h.2, fun h => ⟨by decide, h⟩⟩
theorem s85_68 (x1 : Int) (x2 : Int) (x3 : Int) (x4 : Int) (y0 : Int) (M : ma_M) (Q : Option ma_V → ma_S → ma_M → Prop) : ma_wp 85 68 [(2, 80), (0, x1), (0, x2), (0, x3), (0, x4)] [(0, y0), (2, 90)] mr_SH M Q ↔ ma_wp 85 69 [(2, 80), (0, x1), (0, x2), (0, x3), (0, x4)] [(2, 80), (0, y0), (2, 90)] mr_SH M Q := by
  rw [x85_68]
  exact ⟨fun h => h.2, fun h => ⟨by decide, h⟩⟩
theorem s85_69 (x1 : Int) (x2 : Int) (x3 : Int) (x4 : Int) (y1 : Int) (M : ma_M) (Q : Option ma_V → ma_S → ma_M → Prop) (hF : mr_FIX M) : ma_wp 85 69 [(2, 80), (0, x1), (0, x2), (0, x3), (0, x4)] [(2, 80), (0, y1), (2, 90)] mr_SH M Q ↔ ma_wp 85 72 [(2, 80), (0, x1), (0, x2), (0, x3), (0, x4)] [(2, 87), (0, y1), (2, 90)] mr_SH M Q := by
  rw [x85_69, mf_80_8 hF, ml_80]
  exact ⟨fun h => h.2, fun h => ⟨by decide, h⟩⟩
theorem s85_74 (x1 : Int) (x2 : Int) (x3 : Int) (x4 : Int) (y0 : Int) (y2 : Int) (M : ma_M) (Q : Option ma_V → ma_S → ma_M → Prop) : ma_wp 85 74 [(2, 80), (0, x1), (0, x2), (0, x3), (0, x4)] [(0, y0), (2, 87), (0, y2), (2, 90)] mr_SH M Q ↔ (0 ≤ y0 ∧ y0 < 5) ∧ ma_wp 85 75 [(2, 80), (0, x1), (0, x2), (0, x3), (0, x4)] [(1, M 87 y0), (0, y2), (2, 90)] mr_SH M Q := by
  rw [x85_74, ml_87]
theorem s85_101 (x1 : Int) (x2 : Int) (x3 : Int) (x4 : Int) (y0 : Int) (y1 : Int) (M : ma_M) (Q : Option ma_V → ma_S → ma_M → Prop) : ma_wp 85 101 [(2, 80), (0, x1), (0, x2), (0, x3), (0, x4)] [(1, y0), (0, y1), (2, 90)] mr_SH M Q ↔ (0 ≤ y1 ∧ y1 < 45) ∧ ma_wp 85 102 [(2, 80), (0, x1), (0, x2), (0, x3), (0, x4)] [] mr_SH (ma_up M 90 y1 y0) Q := by
  rw [x85_101, ml_90]
theorem s87_21 (x1 : Int) (x2 : Int) (x3 : Int) (x4 : Int) (x5 : Int) (x6 : Int) (y0 : Int) (M : ma_M) (Q : Option ma_V → ma_S → ma_M → Prop) : ma_wp 87 21 [(2, 80), (0, x1), (0, x2), (0, x3), (1, x4), (3, x5), (0, x6)] [(1, y0)] mr_SH M Q ↔ ma_wp 87 22 [(2, 80), (0, x1), (0, x2), (0, x3), (1, x4), (3, x5), (0, x6)] [(2, 80), (1, y0)] mr_SH M Q := by
  rw [x87_21]
  exact ⟨fun h => h.2, fun h => ⟨by decide, h⟩⟩
theorem s87_22 (x1 : Int) (x2 : Int) (x3 : Int) (x4 : Int) (x5 : Int) (x6 : Int) (y1 : Int) (M : ma_M) (Q : Option ma_V → ma_S → ma_M → Prop) (hF : mr_FIX M) : ma_wp 87 22 [(2, 80), (0, x1), (0, x2), (0, x3), (1, x4), (3, x5), (0, x6)] [(2, 80), (1, y1)] mr_SH M Q ↔ ma_wp 87 25 [(2, 80), (0, x1), (0, x2), (0, x3), (1, x4), (3, x5), (0, x6)] [(2, 91), (1, y1)] mr_SH M Q := by
  rw [x87_22, mf_80_13 hF, ml_80]
  exact ⟨fun h => h.2, fun h => ⟨by decide, h⟩⟩
theorem s87_32 (x1 : Int) (x2 : Int) (x3 : Int) (x4 : Int) (x5 : Int) (x6 : Int) (y0 : Int) (y2 : Int) (M : ma_M) (Q : Option ma_V → ma_S → ma_M → Prop) : ma_wp 87 32 [(2, 80), (0, x1), (0, x2), (0, x3), (1, x4), (3, x5), (0, x6)] [(0, y0), (2, 91), (1, y2)] mr_SH M Q ↔ (0 ≤ y0 ∧ y0 < 216) ∧ ma_wp 87 33 [(2, 80), (0, x1), (0, x2), (0, x3), (1, x4), (3, x5), (0, x6)] [(1, M 91 y0), (1, y2)] mr_SH M Q := by
  rw [x87_32, ml_91]
theorem s87_33 (x1 : Int) (x2 : Int) (x3 : Int) (x4 : Int) (x5 : Int) (x6 : Int) (y0 : Int) (y1 : Int) (M : ma_M) (Q : Option ma_V → ma_S → ma_M → Prop) : ma_wp 87 33 [(2, 80), (0, x1), (0, x2), (0, x3), (1, x4), (3, x5), (0, x6)] [(1, y0), (1, y1)] mr_SH M Q ↔ ma_wp 87 34 [(2, 80), (0, x1), (0, x2), (0, x3), (1, x4), (3, x5), (0, x6)] [(2, 80), (1, y0), (1, y1)] mr_SH M Q := by
  rw [x87_33]
  exact ⟨fun h => h.2, fun h => ⟨by decide, h⟩⟩
theorem s87_34 (x1 : Int) (x2 : Int) (x3 : Int) (x4 : Int) (x5 : Int) (x6 : Int) (y1 : Int) (y2 : Int) (M : ma_M) (Q : Option ma_V → ma_S → ma_M → Prop) (hF : mr_FIX M) : ma_wp 87 34 [(2, 80), (0, x1), (0, x2), (0, x3), (1, x4), (3, x5), (0, x6)] [(2, 80), (1, y1), (1, y2)] mr_SH M Q ↔ ma_wp 87 37 [(2, 80), (0, x1), (0, x2), (0, x3), (1, x4), (3, x5), (0, x6)] [(2, 91), (1, y1), (1, y2)] mr_SH M Q := by
  rw [x87_34, mf_80_13 hF, ml_80]
  exact ⟨fun h => h.2, fun h => ⟨by decide, h⟩⟩
theorem s87_46 (x1 : Int) (x2 : Int) (x3 : Int) (x4 : Int) (x5 : Int) (x6 : Int) (y0 : Int) (y2 : Int) (y3 : Int) (M : ma_M) (Q : Option ma_V → ma_S → ma_M → Prop) : ma_wp 87 46 [(2, 80), (0, x1), (0, x2), (0, x3), (1, x4), (3, x5), (0, x6)] [(0, y0), (2, 91), (1, y2), (1, y3)] mr_SH M Q ↔ (0 ≤ y0 ∧ y0 < 216) ∧ ma_wp 87 47 [(2, 80), (0, x1), (0, x2), (0, x3), (1, x4), (3, x5), (0, x6)] [(1, M 91 y0), (1, y2), (1, y3)] mr_SH M Q := by
  rw [x87_46, ml_91]
theorem s87_61 (x1 : Int) (x2 : Int) (x3 : Int) (x4 : Int) (x5 : Int) (x6 : Int) (M : ma_M) (Q : Option ma_V → ma_S → ma_M → Prop) : ma_wp 87 61 [(2, 80), (0, x1), (0, x2), (0, x3), (1, x4), (3, x5), (0, x6)] [] mr_SH M Q ↔ ma_wp 87 62 [(2, 80), (0, x1), (0, x2), (0, x3), (1, x4), (3, x5), (0, x6)] [(2, 80)] mr_SH M Q := by
  rw [x87_61]
  exact ⟨fun h => h.2, fun h => ⟨by decide, h⟩⟩
theorem s87_62 (x1 : Int) (x2 : Int) (x3 : Int) (x4 : Int) (x5 : Int) (x6 : Int) (M : ma_M) (Q : Option ma_V → ma_S → ma_M → Prop) (hF : mr_FIX M) : ma_wp 87 62 [(2, 80), (0, x1), (0, x2), (0, x3), (1, x4), (3, x5), (0, x6)] [(2, 80)] mr_SH M Q ↔ ma_wp 87 65 [(2, 80), (0, x1), (0, x2), (0, x3), (1, x4), (3, x5), (0, x6)] [(2, 92)] mr_SH M Q := by
  rw [x87_62, mf_80_14 hF, ml_80]
  exact ⟨fun h => h.2, fun h => ⟨by decide, h⟩⟩
theorem s87_68 (x1 : Int) (x2 : Int) (x3 : Int) (x4 : Int) (x5 : Int) (x6 : Int) (y0 : Int) (y1 : Int) (M : ma_M) (Q : Option ma_V → ma_S → ma_M → Prop) : ma_wp 87 68 [(2, 80), (0, x1), (0, x2), (0, x3), (1, x4), (3, x5), (0, x6)] [(1, y0), (0, y1), (2, 92)] mr_SH M Q ↔ (0 ≤ y1 ∧ y1 < 9) ∧ ma_wp 87 69 [(2, 80), (0, x1), (0, x2), (0, x3), (1, x4), (3, x5), (0, x6)] [] mr_SH (ma_up M 92 y1 y0) Q := by
  rw [x87_68, ml_92]
theorem s87_83 (x1 : Int) (x2 : Int) (x3 : Int) (a4 : ma_V) (x5 : Int) (a6 : ma_V) (M : ma_M) (Q : Option ma_V → ma_S → ma_M → Prop) : ma_wp 87 83 [(2, 80), (0, x1), (0, x2), (0, x3), a4, (3, x5), a6] [] mr_SH M Q ↔ ma_wp 87 84 [(2, 80), (0, x1), (0, x2), (0, x3), a4, (3, x5), a6] [(2, 80)] mr_SH M Q := by
  rw [x87_83]
  exact ⟨fun h => h.2, fun h => ⟨by decide, h⟩⟩
theorem s87_84 (x1 : Int) (x2 : Int) (x3 : Int) (a4 : ma_V) (x5 : Int) (a6 : ma_V) (M : ma_M) (Q : Option ma_V → ma_S → ma_M → Prop) (hF : mr_FIX M) : ma_wp 87 84 [(2, 80), (0, x1), (0, x2), (0, x3), a4, (3, x5), a6] [(2, 80)] mr_SH M Q ↔ ma_wp 87 87 [(2, 80), (0, x1), (0, x2), (0, x3), a4, (3, x5), a6] [(2, 91)] mr_SH M Q := by
  rw [x87_84, mf_80_13 hF, ml_80]
  exact ⟨fun h => h.2, fun h => ⟨by decide, h⟩⟩
theorem s87_93 (x1 : Int) (x2 : Int) (x3 : Int) (a4 : ma_V) (x5 : Int) (a6 : ma_V) (y0 : Int) (M : ma_M) (Q : Option ma_V → ma_S → ma_M → Prop) : ma_wp 87 93 [(2, 80), (0, x1), (0, x2), (0, x3), a4, (3, x5), a6] [(0, y0), (2, 91)] mr_SH M Q ↔ ma_wp 87 94 [(2, 80), (0, x1), (0, x2), (0, x3), a4, (3, x5), a6] [(2, 80), (0, y0), (2, 91)] mr_SH M Q := by
  rw [x87_93]
  exact ⟨fun h => h.2, fun h => ⟨by decide, h⟩⟩
theorem s87_94 (x1 : Int) (x2 : Int) (x3 : Int) (a4 : ma_V) (x5 : Int) (a6 : ma_V) (y1 : Int) (M : ma_M) (Q : Option ma_V → ma_S → ma_M → Prop) (hF : mr_FIX M) : ma_wp 87 94 [(2, 80), (0, x1), (0, x2), (0, x3), a4, (3, x5), a6] [(2, 80), (0, y1), (2, 91)] mr_SH M Q ↔ ma_wp 87 97 [(2, 80), (0, x1), (0, x2), (0, x3), a4, (3, x5), a6] [(2, 92), (0, y1), (2, 91)] mr_SH M Q := by
  rw [x87_94, mf_80_14 hF, ml_80]
  exact ⟨fun h => h.2, fun h => ⟨by decide, h⟩⟩
theorem s87_98 (x1 : Int) (x2 : Int) (x3 : Int) (a4 : ma_V) (x5 : Int) (a6 : ma_V) (y0 : Int) (y2 : Int) (M : ma_M) (Q : Option ma_V → ma_S → ma_M → Prop) : ma_wp 87 98 [(2, 80), (0, x1), (0, x2), (0, x3), a4, (3, x5), a6] [(0, y0), (2, 92), (0, y2), (2, 91)] mr_SH M Q ↔ (0 ≤ y0 ∧ y0 < 9) ∧ ma_wp 87 99 [(2, 80), (0, x1), (0, x2), (0, x3), a4, (3, x5), a6] [(1, M 92 y0), (0, y2), (2, 91)] mr_SH M Q := by
  rw [x87_98, ml_92]
theorem s87_99 (x1 : Int) (x2 : Int) (x3 : Int) (a4 : ma_V) (x5 : Int) (a6 : ma_V) (y0 : Int) (y1 : Int) (M : ma_M) (Q : Option ma_V → ma_S → ma_M → Prop) : ma_wp 87 99 [(2, 80), (0, x1), (0, x2), (0, x3), a4, (3, x5), a6] [(1, y0), (0, y1), (2, 91)] mr_SH M Q ↔ (0 ≤ y1 ∧ y1 < 216) ∧ ma_wp 87 100 [(2, 80), (0, x1), (0, x2), (0, x3), a4, (3, x5), a6] [] mr_SH (ma_up M 91 y1 y0) Q := by
  rw [x87_99, ml_91]
theorem s88_8 (x1 : Int) (x2 : Int) (x3 : Int) (M : ma_M) (Q : Option ma_V → ma_S → ma_M → Prop) : ma_wp 88 8 [(2, 80), (0, x1), (0, x2), (0, x3)] [] mr_SH M Q ↔ ma_wp 88 9 [(2, 80), (0, x1), (0, x2), (0, x3)] [(2, 80)] mr_SH M Q := by
  rw [x88_8]
  exact ⟨fun h => h.2, fun h => ⟨by decide, h⟩⟩
theorem s88_9 (x1 : Int) (x2 : Int) (x3 : Int) (M : ma_M) (Q : Option ma_V → ma_S → ma_M → Prop) (hF : mr_FIX M) : ma_wp 88 9 [(2, 80), (0, x1), (0, x2), (0, x3)] [(2, 80)] mr_SH M Q ↔ ma_wp 88 12 [(2, 80), (0, x1), (0, x2), (0, x3)] [(2, 91)] mr_SH M Q := by
  rw [x88_9, mf_80_13 hF, ml_80]
  exact ⟨fun h => h.2, fun h => ⟨by decide, h⟩⟩
theorem s88_18 (x1 : Int) (x2 : Int) (x3 : Int) (y0 : Int) (M : ma_M) (Q : Option ma_V → ma_S → ma_M → Prop) : ma_wp 88 18 [(2, 80), (0, x1), (0, x2), (0, x3)] [(0, y0), (2, 91)] mr_SH M Q ↔ ma_wp 88 19 [(2, 80), (0, x1), (0, x2), (0, x3)] [(2, 80), (0, y0), (2, 91)] mr_SH M Q := by
  rw [x88_18]
  exact ⟨fun h => h.2, fun h => ⟨by decide, h⟩⟩
theorem s88_19 (x1 : Int) (x2 : Int) (x3 : Int) (y1 : Int) (M : ma_M) (Q : Option ma_V → ma_S → ma_M → Prop) (hF : mr_FIX M) : ma_wp 88 19 [(2, 80), (0, x1), (0, x2), (0, x3)] [(2, 80), (0, y1), (2, 91)] mr_SH M Q ↔ ma_wp 88 22 [(2, 80), (0, x1), (0, x2), (0, x3)] [(2, 91), (0, y1), (2, 91)] mr_SH M Q := by
  rw [x88_19, mf_80_13 hF, ml_80]
  exact ⟨fun h => h.2, fun h => ⟨by decide, h⟩⟩
theorem s88_28 (x1 : Int) (x2 : Int) (x3 : Int) (y0 : Int) (y2 : Int) (M : ma_M) (Q : Option ma_V → ma_S → ma_M → Prop) : ma_wp 88 28 [(2, 80), (0, x1), (0, x2), (0, x3)] [(0, y0), (2, 91), (0, y2), (2, 91)] mr_SH M Q ↔ (0 ≤ y0 ∧ y0 < 216) ∧ ma_wp 88 29 [(2, 80), (0, x1), (0, x2), (0, x3)] [(1, M 91 y0), (0, y2), (2, 91)] mr_SH M Q := by
  rw [x88_28, ml_91]
theorem s88_29 (x1 : Int) (x2 : Int) (x3 : Int) (y0 : Int) (y1 : Int) (M : ma_M) (Q : Option ma_V → ma_S → ma_M → Prop) : ma_wp 88 29 [(2, 80), (0, x1), (0, x2), (0, x3)] [(1, y0), (0, y1), (2, 91)] mr_SH M Q ↔ (0 ≤ y1 ∧ y1 < 216) ∧ ma_wp 88 30 [(2, 80), (0, x1), (0, x2), (0, x3)] [] mr_SH (ma_up M 91 y1 y0) Q := by
  rw [x88_29, ml_91]
theorem s89_10 (x1 : Int) (x2 : Int) (x3 : Int) (x4 : Int) (M : ma_M) (Q : Option ma_V → ma_S → ma_M → Prop) : ma_wp 89 10 [(2, 80), (0, x1), (1, x2), (3, x3), (0, x4)] [] mr_SH M Q ↔ ma_wp 89 11 [(2, 80), (0, x1), (1, x2), (3, x3), (0, x4)] [(2, 80)] mr_SH M Q := by
  rw [x89_10]
  exact ⟨fun h => h.2, fun h => ⟨by decide, h⟩⟩
theorem s89_11 (x1 : Int) (x2 : Int) (x3 : Int) (x4 : Int) (M : ma_M) (Q : Option ma_V → ma_S → ma_M → Prop) (hF : mr_FIX M) : ma_wp 89 11 [(2, 80), (0, x1), (1, x2), (3, x3), (0, x4)] [(2, 80)] mr_SH M Q ↔ ma_wp 89 14 [(2, 80), (0, x1), (1, x2), (3, x3), (0, x4)] [(2, 91)] mr_SH M Q := by
  rw [x89_11, mf_80_13 hF, ml_80]
  exact ⟨fun h => h.2, fun h => ⟨by decide, h⟩⟩
theorem s89_22 (x1 : Int) (x2 : Int) (x3 : Int) (x4 : Int) (y0 : Int) (y1 : Int) (M : ma_M) (Q : Option ma_V → ma_S → ma_M → Prop) : ma_wp 89 22 [(2, 80), (0, x1), (1, x2), (3, x3), (0, x4)] [(1, y0), (0, y1), (2, 91)] mr_SH M Q ↔ (0 ≤ y1 ∧ y1 < 216) ∧ ma_wp 89 23 [(2, 80), (0, x1), (1, x2), (3, x3), (0, x4)] [] mr_SH (ma_up M 91 y1 y0) Q := by
  rw [x89_22, ml_91]
theorem s89_29 (x1 : Int) (x2 : Int) (x3 : Int) (x4 : Int) (M : ma_M) (Q : Option ma_V → ma_S → ma_M → Prop) : ma_wp 89 29 [(2, 80), (0, x1), (1, x2), (3, x3), (0, x4)] [] mr_SH M Q ↔ ma_wp 89 30 [(2, 80), (0, x1), (1, x2), (3, x3), (0, x4)] [(2, 80)] mr_SH M Q := by
  rw [x89_29]
  exact ⟨fun h => h.2, fun h => ⟨by decide, h⟩⟩
theorem s89_30 (x1 : Int) (x2 : Int) (x3 : Int) (x4 : Int) (M : ma_M) (Q : Option ma_V → ma_S → ma_M → Prop) (hF : mr_FIX M) : ma_wp 89 30 [(2, 80), (0, x1), (1, x2), (3, x3), (0, x4)] [(2, 80)] mr_SH M Q ↔ ma_wp 89 33 [(2, 80), (0, x1), (1, x2), (3, x3), (0, x4)] [(2, 91)] mr_SH M Q := by
  rw [x89_30, mf_80_13 hF, ml_80]
  exact ⟨fun h => h.2, fun h => ⟨by decide, h⟩⟩
theorem s89_38 (x1 : Int) (x2 : Int) (x3 : Int) (x4 : Int) (y0 : Int) (y1 : Int) (M : ma_M) (Q : Option ma_V → ma_S → ma_M → Prop) : ma_wp 89 38 [(2, 80), (0, x1), (1, x2), (3, x3), (0, x4)] [(1, y0), (0, y1), (2, 91)] mr_SH M Q ↔ (0 ≤ y1 ∧ y1 < 216) ∧ ma_wp 89 39 [(2, 80), (0, x1), (1, x2), (3, x3), (0, x4)] [] mr_SH (ma_up M 91 y1 y0) Q := by
  rw [x89_38, ml_91]
theorem s90_0 (x1 : Int) (x2 : Int) (x3 : Int) (x4 : Int) (x5 : Int) (x6 : Int) (x7 : Int) (x8 : Int) (x9 : Int) (M : ma_M) (Q : Option ma_V → ma_S → ma_M → Prop) : ma_wp 90 0 [(2, 80), (0, x1), (0, x2), (0, x3), (3, x4), (3, x5), (3, x6), (3, x7), (3, x8), (3, x9)] [] mr_SH M Q ↔ ma_wp 90 1 [(2, 80), (0, x1), (0, x2), (0, x3), (3, x4), (3, x5), (3, x6), (3, x7), (3, x8), (3, x9)] [(2, 80)] mr_SH M Q := by
  rw [x90_0]
  exact ⟨fun h => h.2, fun h => ⟨by decide, h⟩⟩
theorem s90_1 (x1 : Int) (x2 : Int) (x3 : Int) (x4 : Int) (x5 : Int) (x6 : Int) (x7 : Int) (x8 : Int) (x9 : Int) (M : ma_M) (Q : Option ma_V → ma_S → ma_M → Prop) (hF : mr_FIX M) : ma_wp 90 1 [(2, 80), (0, x1), (0, x2), (0, x3), (3, x4), (3, x5), (3, x6), (3, x7), (3, x8), (3, x9)] [(2, 80)] mr_SH M Q ↔ ma_wp 90 4 [(2, 80), (0, x1), (0, x2), (0, x3), (3, x4), (3, x5), (3, x6), (3, x7), (3, x8), (3, x9)] [(2, 91)] mr_SH M Q := by
  rw [x90_1, mf_80_13 hF, ml_80]
  exact ⟨fun h => h.2, fun h => ⟨by decide, h⟩⟩
theorem s90_8 (x1 : Int) (x2 : Int) (x3 : Int) (x4 : Int) (x5 : Int) (x6 : Int) (x7 : Int) (x8 : Int) (x9 : Int) (y0 : Int) (M : ma_M) (Q : Option ma_V → ma_S → ma_M → Prop) : ma_wp 90 8 [(2, 80), (0, x1), (0, x2), (0, x3), (3, x4), (3, x5), (3, x6), (3, x7), (3, x8), (3, x9)] [(0, y0), (2, 91)] mr_SH M Q ↔ (0 ≤ y0 ∧ y0 < 216) ∧ ma_wp 90 9 [(2, 80), (0, x1), (0, x2), (0, x3), (3, x4), (3, x5), (3, x6), (3, x7), (3, x8), (3, x9)] [(1, M 91 y0)] mr_SH M Q := by
  rw [x90_8, ml_91]
theorem s90_24 (x1 : Int) (x2 : Int) (x3 : Int) (x4 : Int) (x5 : Int) (x6 : Int) (a7 : ma_V) (x8 : Int) (a9 : ma_V) (M : ma_M) (Q : Option ma_V → ma_S → ma_M → Prop) : ma_wp 90 24 [(2, 80), (0, x1), (0, x2), (0, x3), (1, x4), (3, x5), (0, x6), a7, (3, x8), a9] [] mr_SH M Q ↔ ma_wp 90 25 [(2, 80), (0, x1), (0, x2), (0, x3), (1, x4), (3, x5), (0, x6), a7, (3, x8), a9] [(2, 80)] mr_SH M Q := by
  rw [x90_24]
  exact ⟨fun h => h.2, fun h => ⟨by decide, h⟩⟩
theorem s90_25 (x1 : Int) (x2 : Int) (x3 : Int) (x4 : Int) (x5 : Int) (x6 : Int) (a7 : ma_V) (x8 : Int) (a9 : ma_V) (M : ma_M) (Q : Option ma_V → ma_S → ma_M → Prop) (hF : mr_FIX M) : ma_wp 90 25 [(2, 80), (0, x1), (0, x2), (0, x3), (1, x4), (3, x5), (0, x6), a7, (3, x8), a9] [(2, 80)] mr_SH M Q ↔ ma_wp 90 28 [(2, 80), (0, x1), (0, x2), (0, x3), (1, x4), (3, x5), (0, x6), a7, (3, x8), a9] [(2, 91)] mr_SH M Q := by
  rw [x90_25, mf_80_13 hF, ml_80]
  exact ⟨fun h => h.2, fun h => ⟨by decide, h⟩⟩
theorem s90_35 (x1 : Int) (x2 : Int) (x3 : Int) (x4 : Int) (x5 : Int) (x6 : Int) (a7 : ma_V) (x8 : Int) (a9 : ma_V) (y0 : Int) (M : ma_M) (Q : Option ma_V → ma_S → ma_M → Prop) : ma_wp 90 35 [(2, 80), (0, x1), (0, x2), (0, x3), (1, x4), (3, x5), (0, x6), a7, (3, x8), a9] [(0, y0), (2, 91)] mr_SH M Q ↔ (0 ≤ y0 ∧ y0 < 216) ∧ ma_wp 90 36 [(2, 80), (0, x1), (0, x2), (0, x3), (1, x4), (3, x5), (0, x6), a7, (3, x8), a9] [(1, M 91 y0)] mr_SH M Q := by
  rw [x90_35, ml_91]
theorem s90_53 (x1 : Int) (x2 : Int) (x3 : Int) (x4 : Int) (x5 : Int) (x6 : Int) (x7 : Int) (x8 : Int) (x9 : Int) (y0 : Int) (y1 : Int) (M : ma_M) (Q : Option ma_V → ma_S → ma_M → Prop) : ma_wp 90 53 [(2, 80), (0, x1), (0, x2), (0, x3), (1, x4), (3, x5), (0, x6), (1, x7), (3, x8), (0, x9)] [(1, y0), (1, y1)] mr_SH M Q ↔ ma_wp 90 54 [(2, 80), (0, x1), (0, x2), (0, x3), (1, x4), (3, x5), (0, x6), (1, x7), (3, x8), (0, x9)] [(2, 80), (1, y0), (1, y1)] mr_SH M Q := by
  rw [x90_53]
  exact ⟨fun h => h.2, fun h => ⟨by decide, h⟩⟩
theorem s90_54 (x1 : Int) (x2 : Int) (x3 : Int) (x4 : Int) (x5 : Int) (x6 : Int) (x7 : Int) (x8 : Int) (x9 : Int) (y1 : Int) (y2 : Int) (M : ma_M) (Q : Option ma_V → ma_S → ma_M → Prop) (hF : mr_FIX M) : ma_wp 90 54 [(2, 80), (0, x1), (0, x2), (0, x3), (1, x4), (3, x5), (0, x6), (1, x7), (3, x8), (0, x9)] [(2, 80), (1, y1), (1, y2)] mr_SH M Q ↔ ma_wp 90 57 [(2, 80), (0, x1), (0, x2), (0, x3), (1, x4), (3, x5), (0, x6), (1, x7), (3, x8), (0, x9)] [(2, 91), (1, y1), (1, y2)] mr_SH M Q := by
  rw [x90_54, mf_80_13 hF, ml_80]
  exact ⟨fun h => h.2, fun h => ⟨by decide, h⟩⟩
theorem s90_64 (x1 : Int) (x2 : Int) (x3 : Int) (x4 : Int) (x5 : Int) (x6 : Int) (x7 : Int) (x8 : Int) (x9 : Int) (y0 : Int) (y2 : Int) (y3 : Int) (M : ma_M) (Q : Option ma_V → ma_S → ma_M → Prop) : ma_wp 90 64 [(2, 80), (0, x1), (0, x2), (0, x3), (1, x4), (3, x5), (0, x6), (1, x7), (3, x8), (0, x9)] [(0, y0), (2, 91), (1, y2), (1, y3)] mr_SH M Q ↔ (0 ≤ y0 ∧ y0 < 216) ∧ ma_wp 90 65 [(2, 80), (0, x1), (0, x2), (0, x3), (1, x4), (3, x5), (0, x6), (1, x7), (3, x8), (0, x9)] [(1, M 91 y0), (1, y2), (1, y3)] mr_SH M Q := by
  rw [x90_64, ml_91]
theorem s90_66 (x1 : Int) (x2 : Int) (x3 : Int) (x4 : Int) (x5 : Int) (x6 : Int) (x7 : Int) (x8 : Int) (x9 : Int) (y0 : Int) (y1 : Int) (M : ma_M) (Q : Option ma_V → ma_S → ma_M → Prop) : ma_wp 90 66 [(2, 80), (0, x1), (0, x2), (0, x3), (1, x4), (3, x5), (0, x6), (1, x7), (3, x8), (0, x9)] [(1, y0), (1, y1)] mr_SH M Q ↔ ma_wp 90 67 [(2, 80), (0, x1), (0, x2), (0, x3), (1, x4), (3, x5), (0, x6), (1, x7), (3, x8), (0, x9)] [(2, 80), (1, y0), (1, y1)] mr_SH M Q := by
  rw [x90_66]
  exact ⟨fun h => h.2, fun h => ⟨by decide, h⟩⟩
theorem s90_67 (x1 : Int) (x2 : Int) (x3 : Int) (x4 : Int) (x5 : Int) (x6 : Int) (x7 : Int) (x8 : Int) (x9 : Int) (y1 : Int) (y2 : Int) (M : ma_M) (Q : Option ma_V → ma_S → ma_M → Prop) (hF : mr_FIX M) : ma_wp 90 67 [(2, 80), (0, x1), (0, x2), (0, x3), (1, x4), (3, x5), (0, x6), (1, x7), (3, x8), (0, x9)] [(2, 80), (1, y1), (1, y2)] mr_SH M Q ↔ ma_wp 90 70 [(2, 80), (0, x1), (0, x2), (0, x3), (1, x4), (3, x5), (0, x6), (1, x7), (3, x8), (0, x9)] [(2, 91), (1, y1), (1, y2)] mr_SH M Q := by
  rw [x90_67, mf_80_13 hF, ml_80]
  exact ⟨fun h => h.2, fun h => ⟨by decide, h⟩⟩
theorem s90_80 (x1 : Int) (x2 : Int) (x3 : Int) (x4 : Int) (x5 : Int) (x6 : Int) (x7 : Int) (x8 : Int) (x9 : Int) (y0 : Int) (y2 : Int) (y3 : Int) (M : ma_M) (Q : Option ma_V → ma_S → ma_M → Prop) : ma_wp 90 80 [(2, 80), (0, x1), (0, x2), (0, x3), (1, x4), (3, x5), (0, x6), (1, x7), (3, x8), (0, x9)] [(0, y0), (2, 91), (1, y2), (1, y3)] mr_SH M Q ↔ (0 ≤ y0 ∧ y0 < 216) ∧ ma_wp 90 81 [(2, 80), (0, x1), (0, x2), (0, x3), (1, x4), (3, x5), (0, x6), (1, x7), (3, x8), (0, x9)] [(1, M 91 y0), (1, y2), (1, y3)] mr_SH M Q := by
  rw [x90_80, ml_91]
theorem s90_95 (x1 : Int) (x2 : Int) (x3 : Int) (x4 : Int) (x5 : Int) (x6 : Int) (x7 : Int) (x8 : Int) (x9 : Int) (M : ma_M) (Q : Option ma_V → ma_S → ma_M → Prop) : ma_wp 90 95 [(2, 80), (0, x1), (0, x2), (0, x3), (1, x4), (3, x5), (0, x6), (1, x7), (3, x8), (0, x9)] [] mr_SH M Q ↔ ma_wp 90 96 [(2, 80), (0, x1), (0, x2), (0, x3), (1, x4), (3, x5), (0, x6), (1, x7), (3, x8), (0, x9)] [(2, 80)] mr_SH M Q := by
  rw [x90_95]
  exact ⟨fun h => h.2, fun h => ⟨by decide, h⟩⟩
theorem s90_96 (x1 : Int) (x2 : Int) (x3 : Int) (x4 : Int) (x5 : Int) (x6 : Int) (x7 : Int) (x8 : Int) (x9 : Int) (M : ma_M) (Q : Option ma_V → ma_S → ma_M → Prop) (hF : mr_FIX M) : ma_wp 90 96 [(2, 80), (0, x1), (0, x2), (0, x3), (1, x4), (3, x5), (0, x6), (1, x7), (3, x8), (0, x9)] [(2, 80)] mr_SH M Q ↔ ma_wp 90 99 [(2, 80), (0, x1), (0, x2), (0, x3), (1, x4), (3, x5), (0, x6), (1, x7), (3, x8), (0, x9)] [(2, 91)] mr_SH M Q := by
  rw [x90_96, mf_80_13 hF, ml_80]
  exact ⟨fun h => h.2, fun h => ⟨by decide, h⟩⟩
theorem s90_115 (x1 : Int) (x2 : Int) (x3 : Int) (x4 : Int) (x5 : Int) (x6 : Int) (x7 : Int) (x8 : Int) (x9 : Int) (y0 : Int) (y1 : Int) (M : ma_M) (Q : Option ma_V → ma_S → ma_M → Prop) : ma_wp 90 115 [(2, 80), (0, x1), (0, x2), (0, x3), (1, x4), (3, x5), (0, x6), (1, x7), (3, x8), (0, x9)] [(1, y0), (0, y1), (2, 91)] mr_SH M Q ↔ (0 ≤ y1 ∧ y1 < 216) ∧ ma_wp 90 116 [(2, 80), (0, x1), (0, x2), (0, x3), (1, x4), (3, x5), (0, x6), (1, x7), (3, x8), (0, x9)] [] mr_SH (ma_up M 91 y1 y0) Q := by
  rw [x90_115, ml_91]
theorem s91_0 (x1 : Int) (x2 : Int) (x3 : Int) (x4 : Int) (x5 : Int) (x6 : Int) (x7 : Int) (x8 : Int) (x9 : Int) (x10 : Int) (M : ma_M) (Q : Option ma_V → ma_S → ma_M → Prop) : ma_wp 91 0 [(2, 80), (0, x1), (3, x2), (3, x3), (3, x4), (3, x5), (3, x6), (3, x7), (3, x8), (3, x9), (3, x10)] [] mr_SH M Q ↔ ma_wp 91 1 [(2, 80), (0, x1), (3, x2), (3, x3), (3, x4), (3, x5), (3, x6), (3, x7), (3, x8), (3, x9), (3, x10)] [(2, 80)] mr_SH M Q := by
  rw [x91_0]
  exact ⟨fun h => h.2, fun h => ⟨by decide, h⟩⟩
theorem s91_1 (x1 : Int) (x2 : Int) (x3 : Int) (x4 : Int) (x5 : Int) (x6 : Int) (x7 : Int) (x8 : Int) (x9 : Int) (x10 : Int) (M : ma_M) (Q : Option ma_V → ma_S → ma_M → Prop) (hF : mr_FIX M) : ma_wp 91 1 [(2, 80), (0, x1), (3, x2), (3, x3), (3, x4), (3, x5), (3, x6), (3, x7), (3, x8), (3, x9), (3, x10)] [(2, 80)] mr_SH M Q ↔ ma_wp 91 4 [(2, 80), (0, x1), (3, x2), (3, x3), (3, x4), (3, x5), (3, x6), (3, x7), (3, x8), (3, x9), (3, x10)] [(2, 81)] mr_SH M Q := by
  rw [x91_1, mf_80_1 hF, ml_80]
  exact ⟨fun h => h.2, fun h => ⟨by decide, h⟩⟩
theorem s91_5 (x1 : Int) (x2 : Int) (x3 : Int) (x4 : Int) (x5 : Int) (x6 : Int) (x7 : Int) (x8 : Int) (x9 : Int) (x10 : Int) (y0 : Int) (M : ma_M) (Q : Option ma_V → ma_S → ma_M → Prop) : ma_wp 91 5 [(2, 80), (0, x1), (3, x2), (3, x3), (3, x4), (3, x5), (3, x6), (3, x7), (3, x8), (3, x9), (3, x10)] [(0, y0), (2, 81)] mr_SH M Q ↔ (0 ≤ y0 ∧ y0 < 24) ∧ ma_wp 91 6 [(2, 80), (0, x1), (3, x2), (3, x3), (3, x4), (3, x5), (3, x6), (3, x7), (3, x8), (3, x9), (3, x10)] [(0, M 81 y0)] mr_SH M Q := by
  rw [x91_5, ml_81]
theorem s91_7 (x1 : Int) (x2 : Int) (x3 : Int) (x4 : Int) (x5 : Int) (x6 : Int) (x7 : Int) (x8 : Int) (x9 : Int) (x10 : Int) (M : ma_M) (Q : Option ma_V → ma_S → ma_M → Prop) : ma_wp 91 7 [(2, 80), (0, x1), (0, x2), (3, x3), (3, x4), (3, x5), (3, x6), (3, x7), (3, x8), (3, x9), (3, x10)] [] mr_SH M Q ↔ ma_wp 91 8 [(2, 80), (0, x1), (0, x2), (3, x3), (3, x4), (3, x5), (3, x6), (3, x7), (3, x8), (3, x9), (3, x10)] [(2, 80)] mr_SH M Q := by
  rw [x91_7]
  exact ⟨fun h => h.2, fun h => ⟨by decide, h⟩⟩
theorem s91_8 (x1 : Int) (x2 : Int) (x3 : Int) (x4 : Int) (x5 : Int) (x6 : Int) (x7 : Int) (x8 : Int) (x9 : Int) (x10 : Int) (M : ma_M) (Q : Option ma_V → ma_S → ma_M → Prop) (hF : mr_FIX M) : ma_wp 91 8 [(2, 80), (0, x1), (0, x2), (3, x3), (3, x4), (3, x5), (3, x6), (3, x7), (3, x8), (3, x9), (3, x10)] [(2, 80)] mr_SH M Q ↔ ma_wp 91 11 [(2, 80), (0, x1), (0, x2), (3, x3), (3, x4), (3, x5), (3, x6), (3, x7), (3, x8), (3, x9), (3, x10)] [(2, 82)] mr_SH M Q := by
  rw [x91_8, mf_80_2 hF, ml_80]
  exact ⟨fun h => h.2, fun h => ⟨by decide, h⟩⟩
theorem s91_12 (x1 : Int) (x2 : Int) (x3 : Int) (x4 : Int) (x5 : Int) (x6 : Int) (x7 : Int) (x8 : Int) (x9 : Int) (x10 : Int) (y0 : Int) (M : ma_M) (Q : Option ma_V → ma_S → ma_M → Prop) : ma_wp 91 12 [(2, 80), (0, x1), (0, x2), (3, x3), (3, x4), (3, x5), (3, x6), (3, x7), (3, x8), (3, x9), (3, x10)] [(0, y0), (2, 82)] mr_SH M Q ↔ (0 ≤ y0 ∧ y0 < 24) ∧ ma_wp 91 13 [(2, 80), (0, x1), (0, x2), (3, x3), (3, x4), (3, x5), (3, x6), (3, x7), (3, x8), (3, x9), (3, x10)] [(0, M 82 y0)] mr_SH M Q := by
  rw [x91_12, ml_82]
theorem s91_24 (x1 : Int) (x2 : Int) (x3 : Int) (x4 : Int) (x5 : Int) (x6 : Int) (x7 : Int) (x8 : Int) (x9 : Int) (x10 : Int) (M : ma_M) (Q : Option ma_V → ma_S → ma_M → Prop) : ma_wp 91 24 [(2, 80), (0, x1), (0, x2), (0, x3), (3, x4), (3, x5), (3, x6), (3, x7), (3, x8), (3, x9), (3, x10)] [] mr_SH M Q ↔ ma_wp 91 25 [(2, 80), (0, x1), (0, x2), (0, x3), (3, x4), (3, x5), (3, x6), (3, x7), (3, x8), (3, x9), (3, x10)] [(2, 80)] mr_SH M Q := by
  rw [x91_24]
  exact ⟨fun h => h.2, fun h => ⟨by decide, h⟩⟩
theorem s91_25 (x1 : Int) (x2 : Int) (x3 : Int) (x4 : Int) (x5 : Int) (x6 : Int) (x7 : Int) (x8 : Int) (x9 : Int) (x10 : Int) (M : ma_M) (Q : Option ma_V → ma_S → ma_M → Prop) (hF : mr_FIX M) : ma_wp 91 25 [(2, 80), (0, x1), (0, x2), (0, x3), (3, x4), (3, x5), (3, x6), (3, x7), (3, x8), (3, x9), (3, x10)] [(2, 80)] mr_SH M Q ↔ ma_wp 91 28 [(2, 80), (0, x1), (0, x2), (0, x3), (3, x4), (3, x5), (3, x6), (3, x7), (3, x8), (3, x9), (3, x10)] [(2, 83)] mr_SH M Q := by
  rw [x91_25, mf_80_3 hF, ml_80]
  exact ⟨fun h => h.2, fun h => ⟨by decide, h⟩⟩
theorem s91_29 (x1 : Int) (x2 : Int) (x3 : Int) (x4 : Int) (x5 : Int) (x6 : Int) (x7 : Int) (x8 : Int) (x9 : Int) (x10 : Int) (y0 : Int) (M : ma_M) (Q : Option ma_V → ma_S → ma_M → Prop) : ma_wp 91 29 [(2, 80), (0, x1), (0, x2), (0, x3), (3, x4), (3, x5), (3, x6), (3, x7), (3, x8), (3, x9), (3, x10)] [(0, y0), (2, 83)] mr_SH M Q ↔ (0 ≤ y0 ∧ y0 < 24) ∧ ma_wp 91 30 [(2, 80), (0, x1), (0, x2), (0, x3), (3, x4), (3, x5), (3, x6), (3, x7), (3, x8), (3, x9), (3, x10)] [(0, M 83 y0)] mr_SH M Q := by
  rw [x91_29, ml_83]
theorem s91_32 (x1 : Int) (x2 : Int) (x3 : Int) (x4 : Int) (x5 : Int) (x6 : Int) (x7 : Int) (x8 : Int) (x9 : Int) (x10 : Int) (M : ma_M) (Q : Option ma_V → ma_S → ma_M → Prop) : ma_wp 91 32 [(2, 80), (0, x1), (0, x2), (0, x3), (0, x4), (3, x5), (3, x6), (3, x7), (3, x8), (3, x9), (3, x10)] [] mr_SH M Q ↔ ma_wp 91 33 [(2, 80), (0, x1), (0, x2), (0, x3), (0, x4), (3, x5), (3, x6), (3, x7), (3, x8), (3, x9), (3, x10)] [(2, 80)] mr_SH M Q := by
  rw [x91_32]
  exact ⟨fun h => h.2, fun h => ⟨by decide, h⟩⟩
theorem s91_33 (x1 : Int) (x2 : Int) (x3 : Int) (x4 : Int) (x5 : Int) (x6 : Int) (x7 : Int) (x8 : Int) (x9 : Int) (x10 : Int) (M : ma_M) (Q : Option ma_V → ma_S → ma_M → Prop) (hF : mr_FIX M) : ma_wp 91 33 [(2, 80), (0, x1), (0, x2), (0, x3), (0, x4), (3, x5), (3, x6), (3, x7), (3, x8), (3, x9), (3, x10)] [(2, 80)] mr_SH M Q ↔ ma_wp 91 36 [(2, 80), (0, x1), (0, x2), (0, x3), (0, x4), (3, x5), (3, x6), (3, x7), (3, x8), (3, x9), (3, x10)] [(2, 93)] mr_SH M Q := by
  rw [x91_33, mf_80_15 hF, ml_80]
  exact ⟨fun h => h.2, fun h => ⟨by decide, h⟩⟩
theorem s91_37 (x1 : Int) (x2 : Int) (x3 : Int) (x4 : Int) (x5 : Int) (x6 : Int) (x7 : Int) (x8 : Int) (x9 : Int) (x10 : Int) (y0 : Int) (M : ma_M) (Q : Option ma_V → ma_S → ma_M → Prop) : ma_wp 91 37 [(2, 80), (0, x1), (0, x2), (0, x3), (0, x4), (3, x5), (3, x6), (3, x7), (3, x8), (3, x9), (3, x10)] [(0, y0), (2, 93)] mr_SH M Q ↔ ma_wp 91 38 [(2, 80), (0, x1), (0, x2), (0, x3), (0, x4), (3, x5), (3, x6), (3, x7), (3, x8), (3, x9), (3, x10)] [(2, 80), (0, y0), (2, 93)] mr_SH M Q := by
  rw [x91_37]
  exact ⟨fun h => h.2, fun h => ⟨by decide, h⟩⟩
theorem s91_38 (x1 : Int) (x2 : Int) (x3 : Int) (x4 : Int) (x5 : Int) (x6 : Int) (x7 : Int) (x8 : Int) (x9 : Int) (x10 : Int) (y1 : Int) (M : ma_M) (Q : Option ma_V → ma_S → ma_M → Prop) (hF : mr_FIX M) : ma_wp 91 38 [(2, 80), (0, x1), (0, x2), (0, x3), (0, x4), (3, x5), (3, x6), (3, x7), (3, x8), (3, x9), (3, x10)] [(2, 80), (0, y1), (2, 93)] mr_SH M Q ↔ ma_wp 91 41 [(2, 80), (0, x1), (0, x2), (0, x3), (0, x4), (3, x5), (3, x6), (3, x7), (3, x8), (3, x9), (3, x10)] [(2, 93), (0, y1), (2, 93)] mr_SH M Q := by
  rw [x91_38, mf_80_15 hF, ml_80]
  exact ⟨fun h => h.2, fun h => ⟨by decide, h⟩⟩
theorem s91_42 (x1 : Int) (x2 : Int) (x3 : Int) (x4 : Int) (x5 : Int) (x6 : Int) (x7 : Int) (x8 : Int) (x9 : Int) (x10 : Int) (y0 : Int) (y2 : Int) (M : ma_M) (Q : Option ma_V → ma_S → ma_M → Prop) : ma_wp 91 42 [(2, 80), (0, x1), (0, x2), (0, x3), (0, x4), (3, x5), (3, x6), (3, x7), (3, x8), (3, x9), (3, x10)] [(0, y0), (2, 93), (0, y2), (2, 93)] mr_SH M Q ↔ (0 ≤ y0 ∧ y0 < 24) ∧ ma_wp 91 43 [(2, 80), (0, x1), (0, x2), (0, x3), (0, x4), (3, x5), (3, x6), (3, x7), (3, x8), (3, x9), (3, x10)] [(0, M 93 y0), (0, y2), (2, 93)] mr_SH M Q := by
  rw [x91_42, ml_93]
theorem s91_46 (x1 : Int) (x2 : Int) (x3 : Int) (x4 : Int) (x5 : Int) (x6 : Int) (x7 : Int) (x8 : Int) (x9 : Int) (x10 : Int) (y0 : Int) (M : ma_M) (Q : Option ma_V → ma_S → ma_M → Prop) : ma_wp 91 46 [(2, 80), (0, x1), (0, x2), (0, x3), (0, x4), (3, x5), (3, x6), (3, x7), (3, x8), (3, x9), (3, x10)] [(0, y0), (2, 93)] mr_SH M Q ↔ ma_wp 91 47 [(2, 80), (0, x1), (0, x2), (0, x3), (0, x4), (3, x5), (3, x6), (3, x7), (3, x8), (3, x9), (3, x10)] [(2, 80), (0, y0), (2, 93)] mr_SH M Q := by
  rw [x91_46]
  exact ⟨fun h => h.2, fun h => ⟨by decide, h⟩⟩
theorem s91_47 (x1 : Int) (x2 : Int) (x3 : Int) (x4 : Int) (x5 : Int) (x6 : Int) (x7 : Int) (x8 : Int) (x9 : Int) (x10 : Int) (y1 : Int) (M : ma_M) (Q : Option ma_V → ma_S → ma_M → Prop) (hF : mr_FIX M) : ma_wp 91 47 [(2, 80), (0, x1), (0, x2), (0, x3), (0, x4), (3, x5), (3, x6), (3, x7), (3, x8), (3, x9), (3, x10)] [(2, 80), (0, y1), (2, 93)] mr_SH M Q ↔ ma_wp 91 50 [(2, 80), (0, x1), (0, x2), (0, x3), (0, x4), (3, x5), (3, x6), (3, x7), (3, x8), (3, x9), (3, x10)] [(2, 93), (0, y1), (2, 93)] mr_SH M Q := by
  rw [x91_47, mf_80_15 hF, ml_80]
  exact ⟨fun h => h.2, fun h => ⟨by decide, h⟩⟩
theorem s91_52 (x1 : Int) (x2 : Int) (x3 : Int) (x4 : Int) (x5 : Int) (x6 : Int) (x7 : Int) (x8 : Int) (x9 : Int) (x10 : Int) (y0 : Int) (y2 : Int) (M : ma_M) (Q : Option ma_V → ma_S → ma_M → Prop) : ma_wp 91 52 [(2, 80), (0, x1), (0, x2), (0, x3), (0, x4), (3, x5), (3, x6), (3, x7), (3, x8), (3, x9), (3, x10)] [(0, y0), (2, 93), (0, y2), (2, 93)] mr_SH M Q ↔ (0 ≤ y0 ∧ y0 < 24) ∧ ma_wp 91 53 [(2, 80), (0, x1), (0, x2), (0, x3), (0, x4), (3, x5), (3, x6), (3, x7), (3, x8), (3, x9), (3, x10)] [(0, M 93 y0), (0, y2), (2, 93)] mr_SH M Q := by
  rw [x91_52, ml_93]
theorem s91_61 (x1 : Int) (x2 : Int) (x3 : Int) (x4 : Int) (x5 : Int) (x6 : Int) (x7 : Int) (x8 : Int) (x9 : Int) (x10 : Int) (y0 : Int) (M : ma_M) (Q : Option ma_V → ma_S → ma_M → Prop) : ma_wp 91 61 [(2, 80), (0, x1), (0, x2), (0, x3), (0, x4), (3, x5), (3, x6), (3, x7), (3, x8), (3, x9), (3, x10)] [(0, y0), (2, 93)] mr_SH M Q ↔ ma_wp 91 62 [(2, 80), (0, x1), (0, x2), (0, x3), (0, x4), (3, x5), (3, x6), (3, x7), (3, x8), (3, x9), (3, x10)] [(2, 80), (0, y0), (2, 93)] mr_SH M Q := by
  rw [x91_61]
  exact ⟨fun h => h.2, fun h => ⟨by decide, h⟩⟩
theorem s91_62 (x1 : Int) (x2 : Int) (x3 : Int) (x4 : Int) (x5 : Int) (x6 : Int) (x7 : Int) (x8 : Int) (x9 : Int) (x10 : Int) (y1 : Int) (M : ma_M) (Q : Option ma_V → ma_S → ma_M → Prop) (hF : mr_FIX M) : ma_wp 91 62 [(2, 80), (0, x1), (0, x2), (0, x3), (0, x4), (3, x5), (3, x6), (3, x7), (3, x8), (3, x9), (3, x10)] [(2, 80), (0, y1), (2, 93)] mr_SH M Q ↔ ma_wp 91 65 [(2, 80), (0, x1), (0, x2), (0, x3), (0, x4), (3, x5), (3, x6), (3, x7), (3, x8), (3, x9), (3, x10)] [(2, 91), (0, y1), (2, 93)] mr_SH M Q := by
  rw [x91_62, mf_80_13 hF, ml_80]
  exact ⟨fun h => h.2, fun h => ⟨by decide, h⟩⟩
theorem s91_70 (x1 : Int) (x2 : Int) (x3 : Int) (x4 : Int) (x5 : Int) (x6 : Int) (x7 : Int) (x8 : Int) (x9 : Int) (x10 : Int) (y0 : Int) (y2 : Int) (M : ma_M) (Q : Option ma_V → ma_S → ma_M → Prop) : ma_wp 91 70 [(2, 80), (0, x1), (0, x2), (0, x3), (0, x4), (3, x5), (3, x6), (3, x7), (3, x8), (3, x9), (3, x10)] [(0, y0), (2, 91), (0, y2), (2, 93)] mr_SH M Q ↔ (0 ≤ y0 ∧ y0 < 216) ∧ ma_wp 91 71 [(2, 80), (0, x1), (0, x2), (0, x3), (0, x4), (3, x5), (3, x6), (3, x7), (3, x8), (3, x9), (3, x10)] [(1, M 91 y0), (0, y2), (2, 93)] mr_SH M Q := by
  rw [x91_70, ml_91]
theorem s91_81 (x1 : Int) (x2 : Int) (x3 : Int) (x4 : Int) (x5 : Int) (x6 : Int) (x7 : Int) (x8 : Int) (x9 : Int) (x10 : Int) (y0 : Int) (y1 : Int) (M : ma_M) (Q : Option ma_V → ma_S → ma_M → Prop) : ma_wp 91 81 [(2, 80), (0, x1), (0, x2), (0, x3), (0, x4), (3, x5), (3, x6), (3, x7), (3, x8), (3, x9), (3, x10)] [(0, y0), (0, y1), (2, 93)] mr_SH M Q ↔ ((0 ≤ y1 ∧ y1 < 24) ∧ (y0 = 0 ∨ y0 = 1)) ∧ ma_wp 91 82 [(2, 80), (0, x1), (0, x2), (0, x3), (0, x4), (3, x5), (3, x6), (3, x7), (3, x8), (3, x9), (3, x10)] [] mr_SH (ma_up M 93 y1 y0) Q := by
  rw [x91_81, ml_93]
theorem s91_82 (x1 : Int) (x2 : Int) (x3 : Int) (x4 : Int) (x5 : Int) (x6 : Int) (x7 : Int) (x8 : Int) (x9 : Int) (x10 : Int) (M : ma_M) (Q : Option ma_V → ma_S → ma_M → Prop) : ma_wp 91 82 [(2, 80), (0, x1), (0, x2), (0, x3), (0, x4), (3, x5), (3, x6), (3, x7), (3, x8), (3, x9), (3, x10)] [] mr_SH M Q ↔ ma_wp 91 83 [(2, 80), (0, x1), (0, x2), (0, x3), (0, x4), (3, x5), (3, x6), (3, x7), (3, x8), (3, x9), (3, x10)] [(2, 80)] mr_SH M Q := by
  rw [x91_82]
  exact ⟨fun h => h.2, fun h => ⟨by decide, h⟩⟩
theorem s91_83 (x1 : Int) (x2 : Int) (x3 : Int) (x4 : Int) (x5 : Int) (x6 : Int) (x7 : Int) (x8 : Int) (x9 : Int) (x10 : Int) (M : ma_M) (Q : Option ma_V → ma_S → ma_M → Prop) (hF : mr_FIX M) : ma_wp 91 83 [(2, 80), (0, x1), (0, x2), (0, x3), (0, x4), (3, x5), (3, x6), (3, x7), (3, x8), (3, x9), (3, x10)] [(2, 80)] mr_SH M Q ↔ ma_wp 91 86 [(2, 80), (0, x1), (0, x2), (0, x3), (0, x4), (3, x5), (3, x6), (3, x7), (3, x8), (3, x9), (3, x10)] [(2, 93)] mr_SH M Q := by
  rw [x91_83, mf_80_15 hF, ml_80]
  exact ⟨fun h => h.2, fun h => ⟨by decide, h⟩⟩
theorem s91_87 (x1 : Int) (x2 : Int) (x3 : Int) (x4 : Int) (x5 : Int) (x6 : Int) (x7 : Int) (x8 : Int) (x9 : Int) (x10 : Int) (y0 : Int) (M : ma_M) (Q : Option ma_V → ma_S → ma_M → Prop) : ma_wp 91 87 [(2, 80), (0, x1), (0, x2), (0, x3), (0, x4), (3, x5), (3, x6), (3, x7), (3, x8), (3, x9), (3, x10)] [(0, y0), (2, 93)] mr_SH M Q ↔ (0 ≤ y0 ∧ y0 < 24) ∧ ma_wp 91 88 [(2, 80), (0, x1), (0, x2), (0, x3), (0, x4), (3, x5), (3, x6), (3, x7), (3, x8), (3, x9), (3, x10)] [(0, M 93 y0)] mr_SH M Q := by
  rw [x91_87, ml_93]
theorem s91_91 (x1 : Int) (x2 : Int) (x3 : Int) (x4 : Int) (x5 : Int) (x6 : Int) (x7 : Int) (x8 : Int) (x9 : Int) (x10 : Int) (M : ma_M) (Q : Option ma_V → ma_S → ma_M → Prop) : ma_wp 91 91 [(2, 80), (0, x1), (0, x2), (0, x3), (0, x4), (3, x5), (3, x6), (3, x7), (3, x8), (3, x9), (3, x10)] [] mr_SH M Q ↔ ma_wp 91 92 [(2, 80), (0, x1), (0, x2), (0, x3), (0, x4), (3, x5), (3, x6), (3, x7), (3, x8), (3, x9), (3, x10)] [(2, 80)] mr_SH M Q := by
  rw [x91_91]
  exact ⟨fun h => h.2, fun h => ⟨by decide, h⟩⟩
theorem s91_92 (x1 : Int) (x2 : Int) (x3 : Int) (x4 : Int) (x5 : Int) (x6 : Int) (x7 : Int) (x8 : Int) (x9 : Int) (x10 : Int) (M : ma_M) (Q : Option ma_V → ma_S → ma_M → Prop) (hF : mr_FIX M) : ma_wp 91 92 [(2, 80), (0, x1), (0, x2), (0, x3), (0, x4), (3, x5), (3, x6), (3, x7), (3, x8), (3, x9), (3, x10)] [(2, 80)] mr_SH M Q ↔ ma_wp 91 95 [(2, 80), (0, x1), (0, x2), (0, x3), (0, x4), (3, x5), (3, x6), (3, x7), (3, x8), (3, x9), (3, x10)] [(2, 94)] mr_SH M Q := by
  rw [x91_92, mf_80_16 hF, ml_80]
  exact ⟨fun h => h.2, fun h => ⟨by decide, h⟩⟩
theorem s91_97 (x1 : Int) (x2 : Int) (x3 : Int) (x4 : Int) (x5 : Int) (x6 : Int) (x7 : Int) (x8 : Int) (x9 : Int) (x10 : Int) (y0 : Int) (y1 : Int) (M : ma_M) (Q : Option ma_V → ma_S → ma_M → Prop) : ma_wp 91 97 [(2, 80), (0, x1), (0, x2), (0, x3), (0, x4), (3, x5), (3, x6), (3, x7), (3, x8), (3, x9), (3, x10)] [(0, y0), (0, y1), (2, 94)] mr_SH M Q ↔ ((0 ≤ y1 ∧ y1 < 24) ∧ (y0 = 0 ∨ y0 = 1)) ∧ ma_wp 91 98 [(2, 80), (0, x1), (0, x2), (0, x3), (0, x4), (3, x5), (3, x6), (3, x7), (3, x8), (3, x9), (3, x10)] [] mr_SH (ma_up M 94 y1 y0) Q := by
  rw [x91_97, ml_94]
theorem s91_98 (x1 : Int) (x2 : Int) (x3 : Int) (x4 : Int) (x5 : Int) (x6 : Int) (x7 : Int) (x8 : Int) (x9 : Int) (x10 : Int) (M : ma_M) (Q : Option ma_V → ma_S → ma_M → Prop) : ma_wp 91 98 [(2, 80), (0, x1), (0, x2), (0, x3), (0, x4), (3, x5), (3, x6), (3, x7), (3, x8), (3, x9), (3, x10)] [] mr_SH M Q ↔ ma_wp 91 99 [(2, 80), (0, x1), (0, x2), (0, x3), (0, x4), (3, x5), (3, x6), (3, x7), (3, x8), (3, x9), (3, x10)] [(2, 80)] mr_SH M Q := by
  rw [x91_98]
  exact ⟨fun h => h.2, fun h => ⟨by decide, h⟩⟩
theorem s91_101 (x1 : Int) (x2 : Int) (x3 : Int) (x4 : Int) (x5 : Int) (x6 : Int) (x7 : Int) (x8 : Int) (x9 : Int) (x10 : Int) (y0 : Int) (y1 : Int) (M : ma_M) (Q : Option ma_V → ma_S → ma_M → Prop) : ma_wp 91 101 [(2, 80), (0, x1), (0, x2), (0, x3), (0, x4), (3, x5), (3, x6), (3, x7), (3, x8), (3, x9), (3, x10)] [(1, y0), (0, y1), (2, 80)] mr_SH M Q ↔ mr_do 89 [(2, 80), (0, y1), (1, y0)] mr_SH M (fun r sh M => ma_wp 91 104 [(2, 80), (0, x1), (0, x2), (0, x3), (0, x4), (3, x5), (3, x6), (3, x7), (3, x8), (3, x9), (3, x10)] (r.toList ++ []) sh M Q) := by
  rw [x91_101, ml_80]
  exact ⟨fun h => h.2, fun h => ⟨by decide, h⟩⟩
theorem s91_122 (x1 : Int) (x2 : Int) (x3 : Int) (x4 : Int) (x5 : Int) (x6 : Int) (x7 : Int) (x8 : Int) (x9 : Int) (x10 : Int) (M : ma_M) (Q : Option ma_V → ma_S → ma_M → Prop) : ma_wp 91 122 [(2, 80), (0, x1), (0, x2), (0, x3), (0, x4), (0, x5), (3, x6), (3, x7), (3, x8), (3, x9), (3, x10)] [] mr_SH M Q ↔ ma_wp 91 123 [(2, 80), (0, x1), (0, x2), (0, x3), (0, x4), (0, x5), (3, x6), (3, x7), (3, x8), (3, x9), (3, x10)] [(2, 80)] mr_SH M Q := by
  rw [x91_122]
  exact ⟨fun h => h.2, fun h => ⟨by decide, h⟩⟩
theorem s91_123 (x1 : Int) (x2 : Int) (x3 : Int) (x4 : Int) (x5 : Int) (x6 : Int) (x7 : Int) (x8 : Int) (x9 : Int) (x10 : Int) (M : ma_M) (Q : Option ma_V → ma_S → ma_M → Prop) (hF : mr_FIX M) : ma_wp 91 123 [(2, 80), (0, x1), (0, x2), (0, x3), (0, x4), (0, x5), (3, x6), (3, x7), (3, x8), (3, x9), (3, x10)] [(2, 80)] mr_SH M Q ↔ ma_wp 91 126 [(2, 80), (0, x1), (0, x2), (0, x3), (0, x4), (0, x5), (3, x6), (3, x7), (3, x8), (3, x9), (3, x10)] [(2, 91)] mr_SH M Q := by
  rw [x91_123, mf_80_13 hF, ml_80]
  exact ⟨fun h => h.2, fun h => ⟨by decide, h⟩⟩
theorem s91_130 (x1 : Int) (x2 : Int) (x3 : Int) (x4 : Int) (x5 : Int) (x6 : Int) (x7 : Int) (x8 : Int) (x9 : Int) (x10 : Int) (y0 : Int) (M : ma_M) (Q : Option ma_V → ma_S → ma_M → Prop) : ma_wp 91 130 [(2, 80), (0, x1), (0, x2), (0, x3), (0, x4), (0, x5), (3, x6), (3, x7), (3, x8), (3, x9), (3, x10)] [(0, y0), (2, 91)] mr_SH M Q ↔ (0 ≤ y0 ∧ y0 < 216) ∧ ma_wp 91 131 [(2, 80), (0, x1), (0, x2), (0, x3), (0, x4), (0, x5), (3, x6), (3, x7), (3, x8), (3, x9), (3, x10)] [(1, M 91 y0)] mr_SH M Q := by
  rw [x91_130, ml_91]
theorem s91_133 (x1 : Int) (x2 : Int) (x3 : Int) (x4 : Int) (x5 : Int) (x6 : Int) (x7 : Int) (x8 : Int) (x9 : Int) (x10 : Int) (M : ma_M) (Q : Option ma_V → ma_S → ma_M → Prop) : ma_wp 91 133 [(2, 80), (0, x1), (0, x2), (0, x3), (0, x4), (0, x5), (1, x6), (3, x7), (3, x8), (3, x9), (3, x10)] [] mr_SH M Q ↔ ma_wp 91 134 [(2, 80), (0, x1), (0, x2), (0, x3), (0, x4), (0, x5), (1, x6), (3, x7), (3, x8), (3, x9), (3, x10)] [(2, 80)] mr_SH M Q := by
  rw [x91_133]
  exact ⟨fun h => h.2, fun h => ⟨by decide, h⟩⟩
theorem s91_134 (x1 : Int) (x2 : Int) (x3 : Int) (x4 : Int) (x5 : Int) (x6 : Int) (x7 : Int) (x8 : Int) (x9 : Int) (x10 : Int) (M : ma_M) (Q : Option ma_V → ma_S → ma_M → Prop) (hF : mr_FIX M) : ma_wp 91 134 [(2, 80), (0, x1), (0, x2), (0, x3), (0, x4), (0, x5), (1, x6), (3, x7), (3, x8), (3, x9), (3, x10)] [(2, 80)] mr_SH M Q ↔ ma_wp 91 137 [(2, 80), (0, x1), (0, x2), (0, x3), (0, x4), (0, x5), (1, x6), (3, x7), (3, x8), (3, x9), (3, x10)] [(2, 91)] mr_SH M Q := by
  rw [x91_134, mf_80_13 hF, ml_80]
  exact ⟨fun h => h.2, fun h => ⟨by decide, h⟩⟩
theorem s91_142 (x1 : Int) (x2 : Int) (x3 : Int) (x4 : Int) (x5 : Int) (x6 : Int) (x7 : Int) (x8 : Int) (x9 : Int) (x10 : Int) (y0 : Int) (M : ma_M) (Q : Option ma_V → ma_S → ma_M → Prop) : ma_wp 91 142 [(2, 80), (0, x1), (0, x2), (0, x3), (0, x4), (0, x5), (1, x6), (3, x7), (3, x8), (3, x9), (3, x10)] [(0, y0), (2, 91)] mr_SH M Q ↔ (0 ≤ y0 ∧ y0 < 216) ∧ ma_wp 91 143 [(2, 80), (0, x1), (0, x2), (0, x3), (0, x4), (0, x5), (1, x6), (3, x7), (3, x8), (3, x9), (3, x10)] [(1, M 91 y0)] mr_SH M Q := by
  rw [x91_142, ml_91]
theorem s91_145 (x1 : Int) (x2 : Int) (x3 : Int) (x4 : Int) (x5 : Int) (x6 : Int) (x7 : Int) (x8 : Int) (x9 : Int) (x10 : Int) (M : ma_M) (Q : Option ma_V → ma_S → ma_M → Prop) : ma_wp 91 145 [(2, 80), (0, x1), (0, x2), (0, x3), (0, x4), (0, x5), (1, x6), (3, x7), (1, x8), (3, x9), (3, x10)] [] mr_SH M Q ↔ ma_wp 91 146 [(2, 80), (0, x1), (0, x2), (0, x3), (0, x4), (0, x5), (1, x6), (3, x7), (1, x8), (3, x9), (3, x10)] [(2, 80)] mr_SH M Q := by
  rw [x91_145]
  exact ⟨fun h => h.2, fun h => ⟨by decide, h⟩⟩
theorem s91_146 (x1 : Int) (x2 : Int) (x3 : Int) (x4 : Int) (x5 : Int) (x6 : Int) (x7 : Int) (x8 : Int) (x9 : Int) (x10 : Int) (M : ma_M) (Q : Option ma_V → ma_S → ma_M → Prop) (hF : mr_FIX M) : ma_wp 91 146 [(2, 80), (0, x1), (0, x2), (0, x3), (0, x4), (0, x5), (1, x6), (3, x7), (1, x8), (3, x9), (3, x10)] [(2, 80)] mr_SH M Q ↔ ma_wp 91 149 [(2, 80), (0, x1), (0, x2), (0, x3), (0, x4), (0, x5), (1, x6), (3, x7), (1, x8), (3, x9), (3, x10)] [(2, 94)] mr_SH M Q := by
  rw [x91_146, mf_80_16 hF, ml_80]
  exact ⟨fun h => h.2, fun h => ⟨by decide, h⟩⟩
theorem s91_150 (x1 : Int) (x2 : Int) (x3 : Int) (x4 : Int) (x5 : Int) (x6 : Int) (x7 : Int) (x8 : Int) (x9 : Int) (x10 : Int) (y0 : Int) (M : ma_M) (Q : Option ma_V → ma_S → ma_M → Prop) : ma_wp 91 150 [(2, 80), (0, x1), (0, x2), (0, x3), (0, x4), (0, x5), (1, x6), (3, x7), (1, x8), (3, x9), (3, x10)] [(0, y0), (2, 94)] mr_SH M Q ↔ ma_wp 91 151 [(2, 80), (0, x1), (0, x2), (0, x3), (0, x4), (0, x5), (1, x6), (3, x7), (1, x8), (3, x9), (3, x10)] [(2, 80), (0, y0), (2, 94)] mr_SH M Q := by
  rw [x91_150]
  exact ⟨fun h => h.2, fun h => ⟨by decide, h⟩⟩
theorem s91_151 (x1 : Int) (x2 : Int) (x3 : Int) (x4 : Int) (x5 : Int) (x6 : Int) (x7 : Int) (x8 : Int) (x9 : Int) (x10 : Int) (y1 : Int) (M : ma_M) (Q : Option ma_V → ma_S → ma_M → Prop) (hF : mr_FIX M) : ma_wp 91 151 [(2, 80), (0, x1), (0, x2), (0, x3), (0, x4), (0, x5), (1, x6), (3, x7), (1, x8), (3, x9), (3, x10)] [(2, 80), (0, y1), (2, 94)] mr_SH M Q ↔ ma_wp 91 154 [(2, 80), (0, x1), (0, x2), (0, x3), (0, x4), (0, x5), (1, x6), (3, x7), (1, x8), (3, x9), (3, x10)] [(2, 94), (0, y1), (2, 94)] mr_SH M Q := by
  rw [x91_151, mf_80_16 hF, ml_80]
  exact ⟨fun h => h.2, fun h => ⟨by decide, h⟩⟩
theorem s91_155 (x1 : Int) (x2 : Int) (x3 : Int) (x4 : Int) (x5 : Int) (x6 : Int) (x7 : Int) (x8 : Int) (x9 : Int) (x10 : Int) (y0 : Int) (y2 : Int) (M : ma_M) (Q : Option ma_V → ma_S → ma_M → Prop) : ma_wp 91 155 [(2, 80), (0, x1), (0, x2), (0, x3), (0, x4), (0, x5), (1, x6), (3, x7), (1, x8), (3, x9), (3, x10)] [(0, y0), (2, 94), (0, y2), (2, 94)] mr_SH M Q ↔ (0 ≤ y0 ∧ y0 < 24) ∧ ma_wp 91 156 [(2, 80), (0, x1), (0, x2), (0, x3), (0, x4), (0, x5), (1, x6), (3, x7), (1, x8), (3, x9), (3, x10)] [(0, M 94 y0), (0, y2), (2, 94)] mr_SH M Q := by
  rw [x91_155, ml_94]
theorem s91_159 (x1 : Int) (x2 : Int) (x3 : Int) (x4 : Int) (x5 : Int) (x6 : Int) (x7 : Int) (x8 : Int) (x9 : Int) (x10 : Int) (y0 : Int) (M : ma_M) (Q : Option ma_V → ma_S → ma_M → Prop) : ma_wp 91 159 [(2, 80), (0, x1), (0, x2), (0, x3), (0, x4), (0, x5), (1, x6), (3, x7), (1, x8), (3, x9), (3, x10)] [(0, y0), (2, 94)] mr_SH M Q ↔ ma_wp 91 160 [(2, 80), (0, x1), (0, x2), (0, x3), (0, x4), (0, x5), (1, x6), (3, x7), (1, x8), (3, x9), (3, x10)] [(2, 80), (0, y0), (2, 94)] mr_SH M Q := by
  rw [x91_159]
  exact ⟨fun h => h.2, fun h => ⟨by decide, h⟩⟩
theorem s91_160 (x1 : Int) (x2 : Int) (x3 : Int) (x4 : Int) (x5 : Int) (x6 : Int) (x7 : Int) (x8 : Int) (x9 : Int) (x10 : Int) (y1 : Int) (M : ma_M) (Q : Option ma_V → ma_S → ma_M → Prop) (hF : mr_FIX M) : ma_wp 91 160 [(2, 80), (0, x1), (0, x2), (0, x3), (0, x4), (0, x5), (1, x6), (3, x7), (1, x8), (3, x9), (3, x10)] [(2, 80), (0, y1), (2, 94)] mr_SH M Q ↔ ma_wp 91 163 [(2, 80), (0, x1), (0, x2), (0, x3), (0, x4), (0, x5), (1, x6), (3, x7), (1, x8), (3, x9), (3, x10)] [(2, 94), (0, y1), (2, 94)] mr_SH M Q := by
  rw [x91_160, mf_80_16 hF, ml_80]
  exact ⟨fun h => h.2, fun h => ⟨by decide, h⟩⟩
theorem s91_165 (x1 : Int) (x2 : Int) (x3 : Int) (x4 : Int) (x5 : Int) (x6 : Int) (x7 : Int) (x8 : Int) (x9 : Int) (x10 : Int) (y0 : Int) (y2 : Int) (M : ma_M) (Q : Option ma_V → ma_S → ma_M → Prop) : ma_wp 91 165 [(2, 80), (0, x1), (0, x2), (0, x3), (0, x4), (0, x5), (1, x6), (3, x7), (1, x8), (3, x9), (3, x10)] [(0, y0), (2, 94), (0, y2), (2, 94)] mr_SH M Q ↔ (0 ≤ y0 ∧ y0 < 24) ∧ ma_wp 91 166 [(2, 80), (0, x1), (0, x2), (0, x3), (0, x4), (0, x5), (1, x6), (3, x7), (1, x8), (3, x9), (3, x10)] [(0, M 94 y0), (0, y2), (2, 94)] mr_SH M Q := by
  rw [x91_165, ml_94]
theorem s91_187 (x1 : Int) (x2 : Int) (x3 : Int) (x4 : Int) (x5 : Int) (x6 : Int) (x7 : Int) (x8 : Int) (x9 : Int) (x10 : Int) (y0 : Int) (y1 : Int) (M : ma_M) (Q : Option ma_V → ma_S → ma_M → Prop) : ma_wp 91 187 [(2, 80), (0, x1), (0, x2), (0, x3), (0, x4), (0, x5), (1, x6), (3, x7), (1, x8), (3, x9), (3, x10)] [(0, y0), (0, y1), (2, 94)] mr_SH M Q ↔ ((0 ≤ y1 ∧ y1 < 24) ∧ (y0 = 0 ∨ y0 = 1)) ∧ ma_wp 91 188 [(2, 80), (0, x1), (0, x2), (0, x3), (0, x4), (0, x5), (1, x6), (3, x7), (1, x8), (3, x9), (3, x10)] [] mr_SH (ma_up M 94 y1 y0) Q := by
  rw [x91_187, ml_94]
theorem s91_193 (x1 : Int) (x2 : Int) (x3 : Int) (x4 : Int) (x5 : Int) (x6 : Int) (x7 : Int) (x8 : Int) (x9 : Int) (x10 : Int) (M : ma_M) (Q : Option ma_V → ma_S → ma_M → Prop) : ma_wp 91 193 [(2, 80), (0, x1), (0, x2), (0, x3), (0, x4), (0, x5), (1, x6), (3, x7), (1, x8), (3, x9), (3, x10)] [] mr_SH M Q ↔ ma_wp 91 194 [(2, 80), (0, x1), (0, x2), (0, x3), (0, x4), (0, x5), (1, x6), (3, x7), (1, x8), (3, x9), (3, x10)] [(2, 80)] mr_SH M Q := by
  rw [x91_193]
  exact ⟨fun h => h.2, fun h => ⟨by decide, h⟩⟩
theorem s91_227 (x1 : Int) (x2 : Int) (x3 : Int) (x4 : Int) (x5 : Int) (x6 : Int) (x7 : Int) (x8 : Int) (x9 : Int) (x10 : Int) (y0 : Int) (y1 : Int) (M : ma_M) (Q : Option ma_V → ma_S → ma_M → Prop) : ma_wp 91 227 [(2, 80), (0, x1), (0, x2), (0, x3), (0, x4), (0, x5), (1, x6), (3, x7), (1, x8), (3, x9), (3, x10)] [(0, y0), (0, y1), (2, 80)] mr_SH M Q ↔ mr_do 88 [(2, 80), (0, y1), (0, y0)] mr_SH M (fun r sh M => ma_wp 91 230 [(2, 80), (0, x1), (0, x2), (0, x3), (0, x4), (0, x5), (1, x6), (3, x7), (1, x8), (3, x9), (3, x10)] (r.toList ++ []) sh M Q) := by
  rw [x91_227, ml_80]
  exact ⟨fun h => h.2, fun h => ⟨by decide, h⟩⟩
theorem s91_238 (x1 : Int) (x2 : Int) (x3 : Int) (x4 : Int) (x5 : Int) (x6 : Int) (x7 : Int) (x8 : Int) (x9 : Int) (x10 : Int) (M : ma_M) (Q : Option ma_V → ma_S → ma_M → Prop) : ma_wp 91 238 [(2, 80), (0, x1), (0, x2), (0, x3), (0, x4), (0, x5), (1, x6), (3, x7), (1, x8), (3, x9), (3, x10)] [] mr_SH M Q ↔ ma_wp 91 239 [(2, 80), (0, x1), (0, x2), (0, x3), (0, x4), (0, x5), (1, x6), (3, x7), (1, x8), (3, x9), (3, x10)] [(2, 80)] mr_SH M Q := by
  rw [x91_238]
  exact ⟨fun h => h.2, fun h => ⟨by decide, h⟩⟩
theorem s91_243 (x1 : Int) (x2 : Int) (x3 : Int) (x4 : Int) (x5 : Int) (x6 : Int) (x7 : Int) (x8 : Int) (x9 : Int) (x10 : Int) (y0 : Int) (y1 : Int) (y2 : Int) (M : ma_M) (Q : Option ma_V → ma_S → ma_M → Prop) : ma_wp 91 243 [(2, 80), (0, x1), (0, x2), (0, x3), (0, x4), (0, x5), (1, x6), (3, x7), (1, x8), (3, x9), (3, x10)] [(0, y0), (0, y1), (0, y2), (2, 80)] mr_SH M Q ↔ mr_do 90 [(2, 80), (0, y2), (0, y1), (0, y0)] mr_SH M (fun r sh M => ma_wp 91 246 [(2, 80), (0, x1), (0, x2), (0, x3), (0, x4), (0, x5), (1, x6), (3, x7), (1, x8), (3, x9), (3, x10)] (r.toList ++ []) sh M Q) := by
  rw [x91_243, ml_80]
  exact ⟨fun h => h.2, fun h => ⟨by decide, h⟩⟩
theorem s91_254 (x1 : Int) (x2 : Int) (x3 : Int) (x4 : Int) (x5 : Int) (x6 : Int) (x7 : Int) (x8 : Int) (x9 : Int) (x10 : Int) (M : ma_M) (Q : Option ma_V → ma_S → ma_M → Prop) : ma_wp 91 254 [(2, 80), (0, x1), (0, x2), (0, x3), (0, x4), (0, x5), (1, x6), (3, x7), (1, x8), (3, x9), (3, x10)] [] mr_SH M Q ↔ ma_wp 91 255 [(2, 80), (0, x1), (0, x2), (0, x3), (0, x4), (0, x5), (1, x6), (3, x7), (1, x8), (3, x9), (3, x10)] [(2, 80)] mr_SH M Q := by
  rw [x91_254]
  exact ⟨fun h => h.2, fun h => ⟨by decide, h⟩⟩
theorem s91_257 (x1 : Int) (x2 : Int) (x3 : Int) (x4 : Int) (x5 : Int) (x6 : Int) (x7 : Int) (x8 : Int) (x9 : Int) (x10 : Int) (y0 : Int) (y1 : Int) (M : ma_M) (Q : Option ma_V → ma_S → ma_M → Prop) : ma_wp 91 257 [(2, 80), (0, x1), (0, x2), (0, x3), (0, x4), (0, x5), (1, x6), (3, x7), (1, x8), (3, x9), (3, x10)] [(0, y0), (0, y1), (2, 80)] mr_SH M Q ↔ mr_do 88 [(2, 80), (0, y1), (0, y0)] mr_SH M (fun r sh M => ma_wp 91 260 [(2, 80), (0, x1), (0, x2), (0, x3), (0, x4), (0, x5), (1, x6), (3, x7), (1, x8), (3, x9), (3, x10)] (r.toList ++ []) sh M Q) := by
  rw [x91_257, ml_80]
  exact ⟨fun h => h.2, fun h => ⟨by decide, h⟩⟩
theorem s91_260 (x1 : Int) (x2 : Int) (x3 : Int) (x4 : Int) (x5 : Int) (x6 : Int) (x7 : Int) (x8 : Int) (x9 : Int) (x10 : Int) (M : ma_M) (Q : Option ma_V → ma_S → ma_M → Prop) : ma_wp 91 260 [(2, 80), (0, x1), (0, x2), (0, x3), (0, x4), (0, x5), (1, x6), (3, x7), (1, x8), (3, x9), (3, x10)] [] mr_SH M Q ↔ ma_wp 91 261 [(2, 80), (0, x1), (0, x2), (0, x3), (0, x4), (0, x5), (1, x6), (3, x7), (1, x8), (3, x9), (3, x10)] [(2, 80)] mr_SH M Q := by
  rw [x91_260]
  exact ⟨fun h => h.2, fun h => ⟨by decide, h⟩⟩
theorem s91_264 (x1 : Int) (x2 : Int) (x3 : Int) (x4 : Int) (x5 : Int) (x6 : Int) (x7 : Int) (x8 : Int) (x9 : Int) (x10 : Int) (y0 : Int) (y1 : Int) (M : ma_M) (Q : Option ma_V → ma_S → ma_M → Prop) : ma_wp 91 264 [(2, 80), (0, x1), (0, x2), (0, x3), (0, x4), (0, x5), (1, x6), (3, x7), (1, x8), (3, x9), (3, x10)] [(0, y0), (0, y1), (2, 80)] mr_SH M Q ↔ mr_do 87 [(2, 80), (0, y1), (0, y0)] mr_SH M (fun r sh M => ma_wp 91 267 [(2, 80), (0, x1), (0, x2), (0, x3), (0, x4), (0, x5), (1, x6), (3, x7), (1, x8), (3, x9), (3, x10)] (r.toList ++ []) sh M Q) := by
  rw [x91_264, ml_80]
  exact ⟨fun h => h.2, fun h => ⟨by decide, h⟩⟩
theorem s91_276 (x1 : Int) (x2 : Int) (x3 : Int) (x4 : Int) (x5 : Int) (x6 : Int) (x7 : Int) (x8 : Int) (x9 : Int) (x10 : Int) (M : ma_M) (Q : Option ma_V → ma_S → ma_M → Prop) : ma_wp 91 276 [(2, 80), (0, x1), (0, x2), (0, x3), (0, x4), (0, x5), (1, x6), (3, x7), (1, x8), (3, x9), (3, x10)] [] mr_SH M Q ↔ ma_wp 91 277 [(2, 80), (0, x1), (0, x2), (0, x3), (0, x4), (0, x5), (1, x6), (3, x7), (1, x8), (3, x9), (3, x10)] [(2, 80)] mr_SH M Q := by
  rw [x91_276]
  exact ⟨fun h => h.2, fun h => ⟨by decide, h⟩⟩
theorem s91_279 (x1 : Int) (x2 : Int) (x3 : Int) (x4 : Int) (x5 : Int) (x6 : Int) (x7 : Int) (x8 : Int) (x9 : Int) (x10 : Int) (y0 : Int) (y1 : Int) (M : ma_M) (Q : Option ma_V → ma_S → ma_M → Prop) : ma_wp 91 279 [(2, 80), (0, x1), (0, x2), (0, x3), (0, x4), (0, x5), (1, x6), (3, x7), (1, x8), (3, x9), (3, x10)] [(1, y0), (0, y1), (2, 80)] mr_SH M Q ↔ mr_do 89 [(2, 80), (0, y1), (1, y0)] mr_SH M (fun r sh M => ma_wp 91 282 [(2, 80), (0, x1), (0, x2), (0, x3), (0, x4), (0, x5), (1, x6), (3, x7), (1, x8), (3, x9), (3, x10)] (r.toList ++ []) sh M Q) := by
  rw [x91_279, ml_80]
  exact ⟨fun h => h.2, fun h => ⟨by decide, h⟩⟩
theorem s91_287 (x1 : Int) (x2 : Int) (x3 : Int) (x4 : Int) (x5 : Int) (x6 : Int) (x7 : Int) (x8 : Int) (x9 : Int) (x10 : Int) (y0 : Int) (M : ma_M) (Q : Option ma_V → ma_S → ma_M → Prop) : ma_wp 91 287 [(2, 80), (0, x1), (0, x2), (0, x3), (0, x4), (0, x5), (1, x6), (3, x7), (1, x8), (3, x9), (0, x10)] [(0, y0)] mr_SH M Q ↔ ma_wp 91 288 [(2, 80), (0, x1), (0, x2), (0, x3), (0, x4), (0, x5), (1, x6), (3, x7), (1, x8), (3, x9), (0, x10)] [(2, 80), (0, y0)] mr_SH M Q := by
  rw [x91_287]
  exact ⟨fun h => h.2, fun h => ⟨by decide, h⟩⟩
theorem s91_288 (x1 : Int) (x2 : Int) (x3 : Int) (x4 : Int) (x5 : Int) (x6 : Int) (x7 : Int) (x8 : Int) (x9 : Int) (x10 : Int) (y1 : Int) (M : ma_M) (Q : Option ma_V → ma_S → ma_M → Prop) (hF : mr_FIX M) : ma_wp 91 288 [(2, 80), (0, x1), (0, x2), (0, x3), (0, x4), (0, x5), (1, x6), (3, x7), (1, x8), (3, x9), (0, x10)] [(2, 80), (0, y1)] mr_SH M Q ↔ ma_wp 91 291 [(2, 80), (0, x1), (0, x2), (0, x3), (0, x4), (0, x5), (1, x6), (3, x7), (1, x8), (3, x9), (0, x10)] [(2, 83), (0, y1)] mr_SH M Q := by
  rw [x91_288, mf_80_3 hF, ml_80]
  exact ⟨fun h => h.2, fun h => ⟨by decide, h⟩⟩
theorem s91_292 (x1 : Int) (x2 : Int) (x3 : Int) (x4 : Int) (x5 : Int) (x6 : Int) (x7 : Int) (x8 : Int) (x9 : Int) (x10 : Int) (y0 : Int) (y2 : Int) (M : ma_M) (Q : Option ma_V → ma_S → ma_M → Prop) : ma_wp 91 292 [(2, 80), (0, x1), (0, x2), (0, x3), (0, x4), (0, x5), (1, x6), (3, x7), (1, x8), (3, x9), (0, x10)] [(0, y0), (2, 83), (0, y2)] mr_SH M Q ↔ (0 ≤ y0 ∧ y0 < 24) ∧ ma_wp 91 293 [(2, 80), (0, x1), (0, x2), (0, x3), (0, x4), (0, x5), (1, x6), (3, x7), (1, x8), (3, x9), (0, x10)] [(0, M 83 y0), (0, y2)] mr_SH M Q := by
  rw [x91_292, ml_83]
theorem s91_296 (x1 : Int) (x2 : Int) (x3 : Int) (x4 : Int) (x5 : Int) (x6 : Int) (x7 : Int) (x8 : Int) (x9 : Int) (x10 : Int) (M : ma_M) (Q : Option ma_V → ma_S → ma_M → Prop) : ma_wp 91 296 [(2, 80), (0, x1), (0, x2), (0, x3), (0, x4), (0, x5), (1, x6), (3, x7), (1, x8), (3, x9), (0, x10)] [] mr_SH M Q ↔ ma_wp 91 297 [(2, 80), (0, x1), (0, x2), (0, x3), (0, x4), (0, x5), (1, x6), (3, x7), (1, x8), (3, x9), (0, x10)] [(2, 80)] mr_SH M Q := by
  rw [x91_296]
  exact ⟨fun h => h.2, fun h => ⟨by decide, h⟩⟩
theorem s91_299 (x1 : Int) (x2 : Int) (x3 : Int) (x4 : Int) (x5 : Int) (x6 : Int) (x7 : Int) (x8 : Int) (x9 : Int) (x10 : Int) (y0 : Int) (y1 : Int) (M : ma_M) (Q : Option ma_V → ma_S → ma_M → Prop) : ma_wp 91 299 [(2, 80), (0, x1), (0, x2), (0, x3), (0, x4), (0, x5), (1, x6), (3, x7), (1, x8), (3, x9), (0, x10)] [(0, y0), (0, y1), (2, 80)] mr_SH M Q ↔ mr_do 87 [(2, 80), (0, y1), (0, y0)] mr_SH M (fun r sh M => ma_wp 91 302 [(2, 80), (0, x1), (0, x2), (0, x3), (0, x4), (0, x5), (1, x6), (3, x7), (1, x8), (3, x9), (0, x10)] (r.toList ++ []) sh M Q) := by
  rw [x91_299, ml_80]
  exact ⟨fun h => h.2, fun h => ⟨by decide, h⟩⟩
theorem s91_321 (x1 : Int) (x2 : Int) (x3 : Int) (x4 : Int) (x5 : Int) (x6 : Int) (x7 : Int) (x8 : Int) (x9 : Int) (x10 : Int) (M : ma_M) (Q : Option ma_V → ma_S → ma_M → Prop) : ma_wp 91 321 [(2, 80), (0, x1), (0, x2), (0, x3), (0, x4), (0, x5), (1, x6), (3, x7), (1, x8), (3, x9), (0, x10)] [] mr_SH M Q ↔ ma_wp 91 322 [(2, 80), (0, x1), (0, x2), (0, x3), (0, x4), (0, x5), (1, x6), (3, x7), (1, x8), (3, x9), (0, x10)] [(2, 80)] mr_SH M Q := by
  rw [x91_321]
  exact ⟨fun h => h.2, fun h => ⟨by decide, h⟩⟩
theorem s91_322 (x1 : Int) (x2 : Int) (x3 : Int) (x4 : Int) (x5 : Int) (x6 : Int) (x7 : Int) (x8 : Int) (x9 : Int) (x10 : Int) (M : ma_M) (Q : Option ma_V → ma_S → ma_M → Prop) (hF : mr_FIX M) : ma_wp 91 322 [(2, 80), (0, x1), (0, x2), (0, x3), (0, x4), (0, x5), (1, x6), (3, x7), (1, x8), (3, x9), (0, x10)] [(2, 80)] mr_SH M Q ↔ ma_wp 91 325 [(2, 80), (0, x1), (0, x2), (0, x3), (0, x4), (0, x5), (1, x6), (3, x7), (1, x8), (3, x9), (0, x10)] [(2, 91)] mr_SH M Q := by
  rw [x91_322, mf_80_13 hF, ml_80]
  exact ⟨fun h => h.2, fun h => ⟨by decide, h⟩⟩
theorem s91_332 (x1 : Int) (x2 : Int) (x3 : Int) (x4 : Int) (x5 : Int) (x6 : Int) (x7 : Int) (x8 : Int) (x9 : Int) (x10 : Int) (y0 : Int) (M : ma_M) (Q : Option ma_V → ma_S → ma_M → Prop) : ma_wp 91 332 [(2, 80), (0, x1), (0, x2), (0, x3), (0, x4), (0, x5), (1, x6), (3, x7), (1, x8), (3, x9), (0, x10)] [(0, y0), (2, 91)] mr_SH M Q ↔ ma_wp 91 333 [(2, 80), (0, x1), (0, x2), (0, x3), (0, x4), (0, x5), (1, x6), (3, x7), (1, x8), (3, x9), (0, x10)] [(2, 80), (0, y0), (2, 91)] mr_SH M Q := by
  rw [x91_332]
  exact ⟨fun h => h.2, fun h => ⟨by decide, h⟩⟩
theorem s91_333 (x1 : Int) (x2 : Int) (x3 : Int) (x4 : Int) (x5 : Int) (x6 : Int) (x7 : Int) (x8 : Int) (x9 : Int) (x10 : Int) (y1 : Int) (M : ma_M) (Q : Option ma_V → ma_S → ma_M → Prop) (hF : mr_FIX M) : ma_wp 91 333 [(2, 80), (0, x1), (0, x2), (0, x3), (0, x4), (0, x5), (1, x6), (3, x7), (1, x8), (3, x9), (0, x10)] [(2, 80), (0, y1), (2, 91)] mr_SH M Q ↔ ma_wp 91 336 [(2, 80), (0, x1), (0, x2), (0, x3), (0, x4), (0, x5), (1, x6), (3, x7), (1, x8), (3, x9), (0, x10)] [(2, 91), (0, y1), (2, 91)] mr_SH M Q := by
  rw [x91_333, mf_80_13 hF, ml_80]
  exact ⟨fun h => h.2, fun h => ⟨by decide, h⟩⟩
theorem s91_343 (x1 : Int) (x2 : Int) (x3 : Int) (x4 : Int) (x5 : Int) (x6 : Int) (x7 : Int) (x8 : Int) (x9 : Int) (x10 : Int) (y0 : Int) (y2 : Int) (M : ma_M) (Q : Option ma_V → ma_S → ma_M → Prop) : ma_wp 91 343 [(2, 80), (0, x1), (0, x2), (0, x3), (0, x4), (0, x5), (1, x6), (3, x7), (1, x8), (3, x9), (0, x10)] [(0, y0), (2, 91), (0, y2), (2, 91)] mr_SH M Q ↔ (0 ≤ y0 ∧ y0 < 216) ∧ ma_wp 91 344 [(2, 80), (0, x1), (0, x2), (0, x3), (0, x4), (0, x5), (1, x6), (3, x7), (1, x8), (3, x9), (0, x10)] [(1, M 91 y0), (0, y2), (2, 91)] mr_SH M Q := by
  rw [x91_343, ml_91]
theorem s91_348 (x1 : Int) (x2 : Int) (x3 : Int) (x4 : Int) (x5 : Int) (x6 : Int) (x7 : Int) (x8 : Int) (x9 : Int) (x10 : Int) (y0 : Int) (y1 : Int) (M : ma_M) (Q : Option ma_V → ma_S → ma_M → Prop) : ma_wp 91 348 [(2, 80), (0, x1), (0, x2), (0, x3), (0, x4), (0, x5), (1, x6), (3, x7), (1, x8), (3, x9), (0, x10)] [(1, y0), (0, y1), (2, 91)] mr_SH M Q ↔ ma_wp 91 349 [(2, 80), (0, x1), (0, x2), (0, x3), (0, x4), (0, x5), (1, x6), (3, x7), (1, x8), (3, x9), (0, x10)] [(2, 80), (1, y0), (0, y1), (2, 91)] mr_SH M Q := by
  rw [x91_348]
  exact ⟨fun h => h.2, fun h => ⟨by decide, h⟩⟩
theorem s91_349 (x1 : Int) (x2 : Int) (x3 : Int) (x4 : Int) (x5 : Int) (x6 : Int) (x7 : Int) (x8 : Int) (x9 : Int) (x10 : Int) (y1 : Int) (y2 : Int) (M : ma_M) (Q : Option ma_V → ma_S → ma_M → Prop) (hF : mr_FIX M) : ma_wp 91 349 [(2, 80), (0, x1), (0, x2), (0, x3), (0, x4), (0, x5), (1, x6), (3, x7), (1, x8), (3, x9), (0, x10)] [(2, 80), (1, y1), (0, y2), (2, 91)] mr_SH M Q ↔ ma_wp 91 352 [(2, 80), (0, x1), (0, x2), (0, x3), (0, x4), (0, x5), (1, x6), (3, x7), (1, x8), (3, x9), (0, x10)] [(2, 91), (1, y1), (0, y2), (2, 91)] mr_SH M Q := by
  rw [x91_349, mf_80_13 hF, ml_80]
  exact ⟨fun h => h.2, fun h => ⟨by decide, h⟩⟩
theorem s91_360 (x1 : Int) (x2 : Int) (x3 : Int) (x4 : Int) (x5 : Int) (x6 : Int) (x7 : Int) (x8 : Int) (x9 : Int) (x10 : Int) (y0 : Int) (y2 : Int) (y3 : Int) (M : ma_M) (Q : Option ma_V → ma_S → ma_M → Prop) : ma_wp 91 360 [(2, 80), (0, x1), (0, x2), (0, x3), (0, x4), (0, x5), (1, x6), (3, x7), (1, x8), (3, x9), (0, x10)] [(0, y0), (2, 91), (1, y2), (0, y3), (2, 91)] mr_SH M Q ↔ (0 ≤ y0 ∧ y0 < 216) ∧ ma_wp 91 361 [(2, 80), (0, x1), (0, x2), (0, x3), (0, x4), (0, x5), (1, x6), (3, x7), (1, x8), (3, x9), (0, x10)] [(1, M 91 y0), (1, y2), (0, y3), (2, 91)] mr_SH M Q := by
  rw [x91_360, ml_91]
theorem s91_367 (x1 : Int) (x2 : Int) (x3 : Int) (x4 : Int) (x5 : Int) (x6 : Int) (x7 : Int) (x8 : Int) (x9 : Int) (x10 : Int) (y0 : Int) (y1 : Int) (y2 : Int) (M : ma_M) (Q : Option ma_V → ma_S → ma_M → Prop) : ma_wp 91 367 [(2, 80), (0, x1), (0, x2), (0, x3), (0, x4), (0, x5), (1, x6), (3, x7), (1, x8), (3, x9), (0, x10)] [(1, y0), (1, y1), (0, y2), (2, 91)] mr_SH M Q ↔ ma_wp 91 368 [(2, 80), (0, x1), (0, x2), (0, x3), (0, x4), (0, x5), (1, x6), (3, x7), (1, x8), (3, x9), (0, x10)] [(2, 80), (1, y0), (1, y1), (0, y2), (2, 91)] mr_SH M Q := by
  rw [x91_367]
  exact ⟨fun h => h.2, fun h => ⟨by decide, h⟩⟩
theorem s91_368 (x1 : Int) (x2 : Int) (x3 : Int) (x4 : Int) (x5 : Int) (x6 : Int) (x7 : Int) (x8 : Int) (x9 : Int) (x10 : Int) (y1 : Int) (y2 : Int) (y3 : Int) (M : ma_M) (Q : Option ma_V → ma_S → ma_M → Prop) (hF : mr_FIX M) : ma_wp 91 368 [(2, 80), (0, x1), (0, x2), (0, x3), (0, x4), (0, x5), (1, x6), (3, x7), (1, x8), (3, x9), (0, x10)] [(2, 80), (1, y1), (1, y2), (0, y3), (2, 91)] mr_SH M Q ↔ ma_wp 91 371 [(2, 80), (0, x1), (0, x2), (0, x3), (0, x4), (0, x5), (1, x6), (3, x7), (1, x8), (3, x9), (0, x10)] [(2, 91), (1, y1), (1, y2), (0, y3), (2, 91)] mr_SH M Q := by
  rw [x91_368, mf_80_13 hF, ml_80]
  exact ⟨fun h => h.2, fun h => ⟨by decide, h⟩⟩
theorem s91_379 (x1 : Int) (x2 : Int) (x3 : Int) (x4 : Int) (x5 : Int) (x6 : Int) (x7 : Int) (x8 : Int) (x9 : Int) (x10 : Int) (y0 : Int) (y2 : Int) (y3 : Int) (y4 : Int) (M : ma_M) (Q : Option ma_V → ma_S → ma_M → Prop) : ma_wp 91 379 [(2, 80), (0, x1), (0, x2), (0, x3), (0, x4), (0, x5), (1, x6), (3, x7), (1, x8), (3, x9), (0, x10)] [(0, y0), (2, 91), (1, y2), (1, y3), (0, y4), (2, 91)] mr_SH M Q ↔ (0 ≤ y0 ∧ y0 < 216) ∧ ma_wp 91 380 [(2, 80), (0, x1), (0, x2), (0, x3), (0, x4), (0, x5), (1, x6), (3, x7), (1, x8), (3, x9), (0, x10)] [(1, M 91 y0), (1, y2), (1, y3), (0, y4), (2, 91)] mr_SH M Q := by
  rw [x91_379, ml_91]
theorem s91_386 (x1 : Int) (x2 : Int) (x3 : Int) (x4 : Int) (x5 : Int) (x6 : Int) (x7 : Int) (x8 : Int) (x9 : Int) (x10 : Int) (y0 : Int) (y1 : Int) (M : ma_M) (Q : Option ma_V → ma_S → ma_M → Prop) : ma_wp 91 386 [(2, 80), (0, x1), (0, x2), (0, x3), (0, x4), (0, x5), (1, x6), (3, x7), (1, x8), (3, x9), (0, x10)] [(1, y0), (0, y1), (2, 91)] mr_SH M Q ↔ (0 ≤ y1 ∧ y1 < 216) ∧ ma_wp 91 387 [(2, 80), (0, x1), (0, x2), (0, x3), (0, x4), (0, x5), (1, x6), (3, x7), (1, x8), (3, x9), (0, x10)] [] mr_SH (ma_up M 91 y1 y0) Q := by
  rw [x91_386, ml_91]
theorem s92_3 (x1 : Int) (a2 : ma_V) (y0 : Int) (M : ma_M) (Q : Option ma_V → ma_S → ma_M → Prop) : ma_wp 92 3 [(2, 80), (0, x1), a2] [(0, y0)] mr_SH M Q ↔ ma_wp 92 4 [(2, 80), (0, x1), a2] [(2, 80), (0, y0)] mr_SH M Q := by
  rw [x92_3]
  exact ⟨fun h => h.2, fun h => ⟨by decide, h⟩⟩
theorem s92_4 (x1 : Int) (a2 : ma_V) (y1 : Int) (M : ma_M) (Q : Option ma_V → ma_S → ma_M → Prop) : ma_wp 92 4 [(2, 80), (0, x1), a2] [(2, 80), (0, y1)] mr_SH M Q ↔ ma_wp 92 7 [(2, 80), (0, x1), a2] [(0, M 80 0), (0, y1)] mr_SH M Q := by
  rw [x92_4, ml_80]
  exact ⟨fun h => h.2, fun h => ⟨by decide, h⟩⟩
theorem s92_10 (x1 : Int) (a2 : ma_V) (M : ma_M) (Q : Option ma_V → ma_S → ma_M → Prop) : ma_wp 92 10 [(2, 80), (0, x1), a2] [] mr_SH M Q ↔ ma_wp 92 11 [(2, 80), (0, x1), a2] [(2, 80)] mr_SH M Q := by
  rw [x92_10]
  exact ⟨fun h => h.2, fun h => ⟨by decide, h⟩⟩
theorem s92_11 (x1 : Int) (a2 : ma_V) (M : ma_M) (Q : Option ma_V → ma_S → ma_M → Prop) (hF : mr_FIX M) : ma_wp 92 11 [(2, 80), (0, x1), a2] [(2, 80)] mr_SH M Q ↔ ma_wp 92 14 [(2, 80), (0, x1), a2] [(2, 81)] mr_SH M Q := by
  rw [x92_11, mf_80_1 hF, ml_80]
  exact ⟨fun h => h.2, fun h => ⟨by decide, h⟩⟩
theorem s92_15 (x1 : Int) (a2 : ma_V) (y0 : Int) (M : ma_M) (Q : Option ma_V → ma_S → ma_M → Prop) : ma_wp 92 15 [(2, 80), (0, x1), a2] [(0, y0), (2, 81)] mr_SH M Q ↔ (0 ≤ y0 ∧ y0 < 24) ∧ ma_wp 92 16 [(2, 80), (0, x1), a2] [(0, M 81 y0)] mr_SH M Q := by
  rw [x92_15, ml_81]
theorem s92_21 (x1 : Int) (a2 : ma_V) (M : ma_M) (Q : Option ma_V → ma_S → ma_M → Prop) : ma_wp 92 21 [(2, 80), (0, x1), a2] [] mr_SH M Q ↔ ma_wp 92 22 [(2, 80), (0, x1), a2] [(2, 80)] mr_SH M Q := by
  rw [x92_21]
  exact ⟨fun h => h.2, fun h => ⟨by decide, h⟩⟩
theorem s92_22 (x1 : Int) (a2 : ma_V) (M : ma_M) (Q : Option ma_V → ma_S → ma_M → Prop) (hF : mr_FIX M) : ma_wp 92 22 [(2, 80), (0, x1), a2] [(2, 80)] mr_SH M Q ↔ ma_wp 92 25 [(2, 80), (0, x1), a2] [(2, 93)] mr_SH M Q := by
  rw [x92_22, mf_80_15 hF, ml_80]
  exact ⟨fun h => h.2, fun h => ⟨by decide, h⟩⟩
theorem s92_27 (x1 : Int) (a2 : ma_V) (y0 : Int) (y1 : Int) (M : ma_M) (Q : Option ma_V → ma_S → ma_M → Prop) : ma_wp 92 27 [(2, 80), (0, x1), a2] [(0, y0), (0, y1), (2, 93)] mr_SH M Q ↔ ((0 ≤ y1 ∧ y1 < 24) ∧ (y0 = 0 ∨ y0 = 1)) ∧ ma_wp 92 28 [(2, 80), (0, x1), a2] [] mr_SH (ma_up M 93 y1 y0) Q := by
  rw [x92_27, ml_93]
theorem s92_28 (x1 : Int) (a2 : ma_V) (M : ma_M) (Q : Option ma_V → ma_S → ma_M → Prop) : ma_wp 92 28 [(2, 80), (0, x1), a2] [] mr_SH M Q ↔ ma_wp 92 29 [(2, 80), (0, x1), a2] [(2, 80)] mr_SH M Q := by
  rw [x92_28]
  exact ⟨fun h => h.2, fun h => ⟨by decide, h⟩⟩
theorem s92_29 (x1 : Int) (a2 : ma_V) (M : ma_M) (Q : Option ma_V → ma_S → ma_M → Prop) (hF : mr_FIX M) : ma_wp 92 29 [(2, 80), (0, x1), a2] [(2, 80)] mr_SH M Q ↔ ma_wp 92 32 [(2, 80), (0, x1), a2] [(2, 94)] mr_SH M Q := by
  rw [x92_29, mf_80_16 hF, ml_80]
  exact ⟨fun h => h.2, fun h => ⟨by decide, h⟩⟩
theorem s92_34 (x1 : Int) (a2 : ma_V) (y0 : Int) (y1 : Int) (M : ma_M) (Q : Option ma_V → ma_S → ma_M → Prop) : ma_wp 92 34 [(2, 80), (0, x1), a2] [(0, y0), (0, y1), (2, 94)] mr_SH M Q ↔ ((0 ≤ y1 ∧ y1 < 24) ∧ (y0 = 0 ∨ y0 = 1)) ∧ ma_wp 92 35 [(2, 80), (0, x1), a2] [] mr_SH (ma_up M 94 y1 y0) Q := by
  rw [x92_34, ml_94]
theorem s92_43 (x1 : Int) (x2 : Int) (M : ma_M) (Q : Option ma_V → ma_S → ma_M → Prop) : ma_wp 92 43 [(2, 80), (0, x1), (0, x2)] [] mr_SH M Q ↔ ma_wp 92 44 [(2, 80), (0, x1), (0, x2)] [(2, 80)] mr_SH M Q := by
  rw [x92_43]
  exact ⟨fun h => h.2, fun h => ⟨by decide, h⟩⟩
theorem s92_44 (x1 : Int) (x2 : Int) (M : ma_M) (Q : Option ma_V → ma_S → ma_M → Prop) (hF : mr_FIX M) : ma_wp 92 44 [(2, 80), (0, x1), (0, x2)] [(2, 80)] mr_SH M Q ↔ ma_wp 92 47 [(2, 80), (0, x1), (0, x2)] [(2, 91)] mr_SH M Q := by
  rw [x92_44, mf_80_13 hF, ml_80]
  exact ⟨fun h => h.2, fun h => ⟨by decide, h⟩⟩
theorem s92_53 (x1 : Int) (x2 : Int) (y0 : Int) (M : ma_M) (Q : Option ma_V → ma_S → ma_M → Prop) : ma_wp 92 53 [(2, 80), (0, x1), (0, x2)] [(0, y0), (2, 91)] mr_SH M Q ↔ ma_wp 92 54 [(2, 80), (0, x1), (0, x2)] [(2, 80), (0, y0), (2, 91)] mr_SH M Q := by
  rw [x92_53]
  exact ⟨fun h => h.2, fun h => ⟨by decide, h⟩⟩
theorem s92_54 (x1 : Int) (x2 : Int) (y1 : Int) (M : ma_M) (Q : Option ma_V → ma_S → ma_M → Prop) (hF : mr_FIX M) : ma_wp 92 54 [(2, 80), (0, x1), (0, x2)] [(2, 80), (0, y1), (2, 91)] mr_SH M Q ↔ ma_wp 92 57 [(2, 80), (0, x1), (0, x2)] [(2, 90), (0, y1), (2, 91)] mr_SH M Q := by
  rw [x92_54, mf_80_12 hF, ml_80]
  exact ⟨fun h => h.2, fun h => ⟨by decide, h⟩⟩
theorem s92_59 (x1 : Int) (x2 : Int) (y0 : Int) (y2 : Int) (M : ma_M) (Q : Option ma_V → ma_S → ma_M → Prop) : ma_wp 92 59 [(2, 80), (0, x1), (0, x2)] [(0, y0), (2, 90), (0, y2), (2, 91)] mr_SH M Q ↔ ma_wp 92 60 [(2, 80), (0, x1), (0, x2)] [(2, 80), (0, y0), (2, 90), (0, y2), (2, 91)] mr_SH M Q := by
  rw [x92_59]
  exact ⟨fun h => h.2, fun h => ⟨by decide, h⟩⟩
theorem s92_60 (x1 : Int) (x2 : Int) (y1 : Int) (y3 : Int) (M : ma_M) (Q : Option ma_V → ma_S → ma_M → Prop) (hF : mr_FIX M) : ma_wp 92 60 [(2, 80), (0, x1), (0, x2)] [(2, 80), (0, y1), (2, 90), (0, y3), (2, 91)] mr_SH M Q ↔ ma_wp 92 63 [(2, 80), (0, x1), (0, x2)] [(2, 82), (0, y1), (2, 90), (0, y3), (2, 91)] mr_SH M Q := by
  rw [x92_60, mf_80_2 hF, ml_80]
  exact ⟨fun h => h.2, fun h => ⟨by decide, h⟩⟩
theorem s92_64 (x1 : Int) (x2 : Int) (y0 : Int) (y2 : Int) (y4 : Int) (M : ma_M) (Q : Option ma_V → ma_S → ma_M → Prop) : ma_wp 92 64 [(2, 80), (0, x1), (0, x2)] [(0, y0), (2, 82), (0, y2), (2, 90), (0, y4), (2, 91)] mr_SH M Q ↔ (0 ≤ y0 ∧ y0 < 24) ∧ ma_wp 92 65 [(2, 80), (0, x1), (0, x2)] [(0, M 82 y0), (0, y2), (2, 90), (0, y4), (2, 91)] mr_SH M Q := by
  rw [x92_64, ml_82]
theorem s92_68 (x1 : Int) (x2 : Int) (y0 : Int) (y2 : Int) (M : ma_M) (Q : Option ma_V → ma_S → ma_M → Prop) : ma_wp 92 68 [(2, 80), (0, x1), (0, x2)] [(0, y0), (2, 90), (0, y2), (2, 91)] mr_SH M Q ↔ (0 ≤ y0 ∧ y0 < 45) ∧ ma_wp 92 69 [(2, 80), (0, x1), (0, x2)] [(1, M 90 y0), (0, y2), (2, 91)] mr_SH M Q := by
  rw [x92_68, ml_90]
theorem s92_69 (x1 : Int) (x2 : Int) (y0 : Int) (y1 : Int) (M : ma_M) (Q : Option ma_V → ma_S → ma_M → Prop) : ma_wp 92 69 [(2, 80), (0, x1), (0, x2)] [(1, y0), (0, y1), (2, 91)] mr_SH M Q ↔ (0 ≤ y1 ∧ y1 < 216) ∧ ma_wp 92 70 [(2, 80), (0, x1), (0, x2)] [] mr_SH (ma_up M 91 y1 y0) Q := by
  rw [x92_69, ml_91]
theorem s92_79 (x1 : Int) (a2 : ma_V) (M : ma_M) (Q : Option ma_V → ma_S → ma_M → Prop) : ma_wp 92 79 [(2, 80), (0, x1), a2] [] mr_SH M Q ↔ ma_wp 92 80 [(2, 80), (0, x1), a2] [(2, 80)] mr_SH M Q := by
  rw [x92_79]
  exact ⟨fun h => h.2, fun h => ⟨by decide, h⟩⟩
theorem s92_80 (x1 : Int) (a2 : ma_V) (M : ma_M) (Q : Option ma_V → ma_S → ma_M → Prop) (hF : mr_FIX M) : ma_wp 92 80 [(2, 80), (0, x1), a2] [(2, 80)] mr_SH M Q ↔ ma_wp 92 83 [(2, 80), (0, x1), a2] [(2, 81)] mr_SH M Q := by
  rw [x92_80, mf_80_1 hF, ml_80]
  exact ⟨fun h => h.2, fun h => ⟨by decide, h⟩⟩
theorem s92_84 (x1 : Int) (a2 : ma_V) (y0 : Int) (M : ma_M) (Q : Option ma_V → ma_S → ma_M → Prop) : ma_wp 92 84 [(2, 80), (0, x1), a2] [(0, y0), (2, 81)] mr_SH M Q ↔ (0 ≤ y0 ∧ y0 < 24) ∧ ma_wp 92 85 [(2, 80), (0, x1), a2] [(0, M 81 y0)] mr_SH M Q := by
  rw [x92_84, ml_81]
theorem s92_90 (x1 : Int) (a2 : ma_V) (M : ma_M) (Q : Option ma_V → ma_S → ma_M → Prop) : ma_wp 92 90 [(2, 80), (0, x1), a2] [] mr_SH M Q ↔ ma_wp 92 91 [(2, 80), (0, x1), a2] [(2, 80)] mr_SH M Q := by
  rw [x92_90]
  exact ⟨fun h => h.2, fun h => ⟨by decide, h⟩⟩
theorem s92_91 (x1 : Int) (a2 : ma_V) (M : ma_M) (Q : Option ma_V → ma_S → ma_M → Prop) (hF : mr_FIX M) : ma_wp 92 91 [(2, 80), (0, x1), a2] [(2, 80)] mr_SH M Q ↔ ma_wp 92 94 [(2, 80), (0, x1), a2] [(2, 93)] mr_SH M Q := by
  rw [x92_91, mf_80_15 hF, ml_80]
  exact ⟨fun h => h.2, fun h => ⟨by decide, h⟩⟩
theorem s92_96 (x1 : Int) (a2 : ma_V) (y0 : Int) (y1 : Int) (M : ma_M) (Q : Option ma_V → ma_S → ma_M → Prop) : ma_wp 92 96 [(2, 80), (0, x1), a2] [(0, y0), (0, y1), (2, 93)] mr_SH M Q ↔ ((0 ≤ y1 ∧ y1 < 24) ∧ (y0 = 0 ∨ y0 = 1)) ∧ ma_wp 92 97 [(2, 80), (0, x1), a2] [] mr_SH (ma_up M 93 y1 y0) Q := by
  rw [x92_96, ml_93]
theorem s92_97 (x1 : Int) (a2 : ma_V) (M : ma_M) (Q : Option ma_V → ma_S → ma_M → Prop) : ma_wp 92 97 [(2, 80), (0, x1), a2] [] mr_SH M Q ↔ ma_wp 92 98 [(2, 80), (0, x1), a2] [(2, 80)] mr_SH M Q := by
  rw [x92_97]
  exact ⟨fun h => h.2, fun h => ⟨by decide, h⟩⟩
theorem s92_98 (x1 : Int) (a2 : ma_V) (M : ma_M) (Q : Option ma_V → ma_S → ma_M → Prop) (hF : mr_FIX M) : ma_wp 92 98 [(2, 80), (0, x1), a2] [(2, 80)] mr_SH M Q ↔ ma_wp 92 101 [(2, 80), (0, x1), a2] [(2, 94)] mr_SH M Q := by
  rw [x92_98, mf_80_16 hF, ml_80]
  exact ⟨fun h => h.2, fun h => ⟨by decide, h⟩⟩
theorem s92_103 (x1 : Int) (a2 : ma_V) (y0 : Int) (y1 : Int) (M : ma_M) (Q : Option ma_V → ma_S → ma_M → Prop) : ma_wp 92 103 [(2, 80), (0, x1), a2] [(0, y0), (0, y1), (2, 94)] mr_SH M Q ↔ ((0 ≤ y1 ∧ y1 < 24) ∧ (y0 = 0 ∨ y0 = 1)) ∧ ma_wp 92 104 [(2, 80), (0, x1), a2] [] mr_SH (ma_up M 94 y1 y0) Q := by
  rw [x92_103, ml_94]
theorem s92_104 (x1 : Int) (a2 : ma_V) (M : ma_M) (Q : Option ma_V → ma_S → ma_M → Prop) : ma_wp 92 104 [(2, 80), (0, x1), a2] [] mr_SH M Q ↔ ma_wp 92 105 [(2, 80), (0, x1), a2] [(2, 80)] mr_SH M Q := by
  rw [x92_104]
  exact ⟨fun h => h.2, fun h => ⟨by decide, h⟩⟩
theorem s92_106 (x1 : Int) (a2 : ma_V) (y0 : Int) (M : ma_M) (Q : Option ma_V → ma_S → ma_M → Prop) : ma_wp 92 106 [(2, 80), (0, x1), a2] [(0, y0), (2, 80)] mr_SH M Q ↔ ma_wp 92 107 [(2, 80), (0, x1), a2] [(2, 80), (0, y0), (2, 80)] mr_SH M Q := by
  rw [x92_106]
  exact ⟨fun h => h.2, fun h => ⟨by decide, h⟩⟩
theorem s92_107 (x1 : Int) (a2 : ma_V) (y1 : Int) (M : ma_M) (Q : Option ma_V → ma_S → ma_M → Prop) (hF : mr_FIX M) : ma_wp 92 107 [(2, 80), (0, x1), a2] [(2, 80), (0, y1), (2, 80)] mr_SH M Q ↔ ma_wp 92 110 [(2, 80), (0, x1), a2] [(2, 84), (0, y1), (2, 80)] mr_SH M Q := by
  rw [x92_107, mf_80_4 hF, ml_80]
  exact ⟨fun h => h.2, fun h => ⟨by decide, h⟩⟩
theorem s92_111 (x1 : Int) (a2 : ma_V) (y0 : Int) (y2 : Int) (M : ma_M) (Q : Option ma_V → ma_S → ma_M → Prop) : ma_wp 92 111 [(2, 80), (0, x1), a2] [(0, y0), (2, 84), (0, y2), (2, 80)] mr_SH M Q ↔ (0 ≤ y0 ∧ y0 < 24) ∧ ma_wp 92 112 [(2, 80), (0, x1), a2] [(1, M 84 y0), (0, y2), (2, 80)] mr_SH M Q := by
  rw [x92_111, ml_84]
theorem s92_112 (x1 : Int) (a2 : ma_V) (y0 : Int) (y1 : Int) (M : ma_M) (Q : Option ma_V → ma_S → ma_M → Prop) : ma_wp 92 112 [(2, 80), (0, x1), a2] [(1, y0), (0, y1), (2, 80)] mr_SH M Q ↔ mr_do 89 [(2, 80), (0, y1), (1, y0)] mr_SH M (fun r sh M => ma_wp 92 115 [(2, 80), (0, x1), a2] (r.toList ++ []) sh M Q) := by
  rw [x92_112, ml_80]
  exact ⟨fun h => h.2, fun h => ⟨by decide, h⟩⟩
theorem s92_118 (x1 : Int) (a2 : ma_V) (M : ma_M) (Q : Option ma_V → ma_S → ma_M → Prop) : ma_wp 92 118 [(2, 80), (0, x1), a2] [] mr_SH M Q ↔ ma_wp 92 119 [(2, 80), (0, x1), a2] [(2, 80)] mr_SH M Q := by
  rw [x92_118]
  exact ⟨fun h => h.2, fun h => ⟨by decide, h⟩⟩
theorem s92_120 (x1 : Int) (a2 : ma_V) (y0 : Int) (M : ma_M) (Q : Option ma_V → ma_S → ma_M → Prop) : ma_wp 92 120 [(2, 80), (0, x1), a2] [(0, y0), (2, 80)] mr_SH M Q ↔ mr_do 91 [(2, 80), (0, y0)] mr_SH M (fun r sh M => ma_wp 92 123 [(2, 80), (0, x1), a2] (r.toList ++ []) sh M Q) := by
  rw [x92_120, ml_80]
  exact ⟨fun h => h.2, fun h => ⟨by decide, h⟩⟩
theorem s93_0 (x1 : Int) (x2 : Int) (x3 : Int) (M : ma_M) (Q : Option ma_V → ma_S → ma_M → Prop) : ma_wp 93 0 [(2, 80), (0, x1), (0, x2), (3, x3)] [] mr_SH M Q ↔ ma_wp 93 1 [(2, 80), (0, x1), (0, x2), (3, x3)] [(2, 80)] mr_SH M Q := by
  rw [x93_0]
  exact ⟨fun h => h.2, fun h => ⟨by decide, h⟩⟩
theorem s93_1 (x1 : Int) (x2 : Int) (x3 : Int) (M : ma_M) (Q : Option ma_V → ma_S → ma_M → Prop) : ma_wp 93 1 [(2, 80), (0, x1), (0, x2), (3, x3)] [(2, 80)] mr_SH M Q ↔ mr_do 92 [(2, 80)] mr_SH M (fun r sh M => ma_wp 93 4 [(2, 80), (0, x1), (0, x2), (3, x3)] (r.toList ++ []) sh M Q) := by
  rw [x93_1, ml_80]
  exact ⟨fun h => h.2, fun h => ⟨by decide, h⟩⟩
theorem s93_4 (x1 : Int) (x2 : Int) (x3 : Int) (M : ma_M) (Q : Option ma_V → ma_S → ma_M → Prop) : ma_wp 93 4 [(2, 80), (0, x1), (0, x2), (3, x3)] [] mr_SH M Q ↔ ma_wp 93 5 [(2, 80), (0, x1), (0, x2), (3, x3)] [(2, 80)] mr_SH M Q := by
  rw [x93_4]
  exact ⟨fun h => h.2, fun h => ⟨by decide, h⟩⟩
theorem s93_5 (x1 : Int) (x2 : Int) (x3 : Int) (M : ma_M) (Q : Option ma_V → ma_S → ma_M → Prop) (hF : mr_FIX M) : ma_wp 93 5 [(2, 80), (0, x1), (0, x2), (3, x3)] [(2, 80)] mr_SH M Q ↔ ma_wp 93 8 [(2, 80), (0, x1), (0, x2), (3, x3)] [(2, 88)] mr_SH M Q := by
  rw [x93_5, mf_80_10 hF, ml_80]
  exact ⟨fun h => h.2, fun h => ⟨by decide, h⟩⟩
theorem s93_9 (x1 : Int) (x2 : Int) (x3 : Int) (y0 : Int) (M : ma_M) (Q : Option ma_V → ma_S → ma_M → Prop) : ma_wp 93 9 [(2, 80), (0, x1), (0, x2), (3, x3)] [(0, y0), (2, 88)] mr_SH M Q ↔ (0 ≤ y0 ∧ y0 < 5) ∧ ma_wp 93 10 [(2, 80), (0, x1), (0, x2), (3, x3)] [(0, M 88 y0)] mr_SH M Q := by
  rw [x93_9, ml_88]
theorem s93_11 (x1 : Int) (x2 : Int) (x3 : Int) (M : ma_M) (Q : Option ma_V → ma_S → ma_M → Prop) : ma_wp 93 11 [(2, 80), (0, x1), (0, x2), (0, x3)] [] mr_SH M Q ↔ ma_wp 93 12 [(2, 80), (0, x1), (0, x2), (0, x3)] [(2, 80)] mr_SH M Q := by
  rw [x93_11]
  exact ⟨fun h => h.2, fun h => ⟨by decide, h⟩⟩
theorem s93_12 (x1 : Int) (x2 : Int) (x3 : Int) (M : ma_M) (Q : Option ma_V → ma_S → ma_M → Prop) (hF : mr_FIX M) : ma_wp 93 12 [(2, 80), (0, x1), (0, x2), (0, x3)] [(2, 80)] mr_SH M Q ↔ ma_wp 93 15 [(2, 80), (0, x1), (0, x2), (0, x3)] [(2, 93)] mr_SH M Q := by
  rw [x93_12, mf_80_15 hF, ml_80]
  exact ⟨fun h => h.2, fun h => ⟨by decide, h⟩⟩
theorem s93_16 (x1 : Int) (x2 : Int) (x3 : Int) (y0 : Int) (M : ma_M) (Q : Option ma_V → ma_S → ma_M → Prop) : ma_wp 93 16 [(2, 80), (0, x1), (0, x2), (0, x3)] [(0, y0), (2, 93)] mr_SH M Q ↔ (0 ≤ y0 ∧ y0 < 24) ∧ ma_wp 93 17 [(2, 80), (0, x1), (0, x2), (0, x3)] [(0, M 93 y0)] mr_SH M Q := by
  rw [x93_16, ml_93]
theorem s93_24 (x1 : Int) (x2 : Int) (x3 : Int) (M : ma_M) (Q : Option ma_V → ma_S → ma_M → Prop) : ma_wp 93 24 [(2, 80), (0, x1), (0, x2), (0, x3)] [] mr_SH M Q ↔ ma_wp 93 25 [(2, 80), (0, x1), (0, x2), (0, x3)] [(2, 80)] mr_SH M Q := by
  rw [x93_24]
  exact ⟨fun h => h.2, fun h => ⟨by decide, h⟩⟩
theorem s93_25 (x1 : Int) (x2 : Int) (x3 : Int) (M : ma_M) (Q : Option ma_V → ma_S → ma_M → Prop) (hF : mr_FIX M) : ma_wp 93 25 [(2, 80), (0, x1), (0, x2), (0, x3)] [(2, 80)] mr_SH M Q ↔ ma_wp 93 28 [(2, 80), (0, x1), (0, x2), (0, x3)] [(2, 94)] mr_SH M Q := by
  rw [x93_25, mf_80_16 hF, ml_80]
  exact ⟨fun h => h.2, fun h => ⟨by decide, h⟩⟩
theorem s93_29 (x1 : Int) (x2 : Int) (x3 : Int) (y0 : Int) (M : ma_M) (Q : Option ma_V → ma_S → ma_M → Prop) : ma_wp 93 29 [(2, 80), (0, x1), (0, x2), (0, x3)] [(0, y0), (2, 94)] mr_SH M Q ↔ (0 ≤ y0 ∧ y0 < 24) ∧ ma_wp 93 30 [(2, 80), (0, x1), (0, x2), (0, x3)] [(0, M 94 y0)] mr_SH M Q := by
  rw [x93_29, ml_94]
theorem s93_38 (x1 : Int) (x2 : Int) (x3 : Int) (M : ma_M) (Q : Option ma_V → ma_S → ma_M → Prop) : ma_wp 93 38 [(2, 80), (0, x1), (0, x2), (0, x3)] [] mr_SH M Q ↔ ma_wp 93 39 [(2, 80), (0, x1), (0, x2), (0, x3)] [(2, 80)] mr_SH M Q := by
  rw [x93_38]
  exact ⟨fun h => h.2, fun h => ⟨by decide, h⟩⟩
theorem s93_39 (x1 : Int) (x2 : Int) (x3 : Int) (M : ma_M) (Q : Option ma_V → ma_S → ma_M → Prop) (hF : mr_FIX M) : ma_wp 93 39 [(2, 80), (0, x1), (0, x2), (0, x3)] [(2, 80)] mr_SH M Q ↔ ma_wp 93 42 [(2, 80), (0, x1), (0, x2), (0, x3)] [(2, 91)] mr_SH M Q := by
  rw [x93_39, mf_80_13 hF, ml_80]
  exact ⟨fun h => h.2, fun h => ⟨by decide, h⟩⟩
theorem s93_48 (x1 : Int) (x2 : Int) (x3 : Int) (y0 : Int) (M : ma_M) (Q : Option ma_V → ma_S → ma_M → Prop) : ma_wp 93 48 [(2, 80), (0, x1), (0, x2), (0, x3)] [(0, y0), (2, 91)] mr_SH M Q ↔ (0 ≤ y0 ∧ y0 < 216) ∧ ma_wp 93 49 [(2, 80), (0, x1), (0, x2), (0, x3)] [(1, M 91 y0)] mr_SH M Q := by
  rw [x93_48, ml_91]
theorem s94_0 (x1 : Int) (M : ma_M) (Q : Option ma_V → ma_S → ma_M → Prop) : ma_wp 94 0 [(2, 80), (0, x1)] [] mr_SH M Q ↔ ma_wp 94 1 [(2, 80), (0, x1)] [(2, 80)] mr_SH M Q := by
  rw [x94_0]
  exact ⟨fun h => h.2, fun h => ⟨by decide, h⟩⟩
theorem s94_2 (x1 : Int) (y0 : Int) (M : ma_M) (Q : Option ma_V → ma_S → ma_M → Prop) : ma_wp 94 2 [(2, 80), (0, x1)] [(0, y0), (2, 80)] mr_SH M Q ↔ mr_do 74 [(2, 80), (0, y0)] mr_SH M (fun r sh M => ma_wp 94 5 [(2, 80), (0, x1)] (r.toList ++ []) sh M Q) := by
  rw [x94_2, ml_80]
  exact ⟨fun h => h.2, fun h => ⟨by decide, h⟩⟩
theorem s94_11 (x1 : Int) (M : ma_M) (Q : Option ma_V → ma_S → ma_M → Prop) : ma_wp 94 11 [(2, 80), (0, x1)] [] mr_SH M Q ↔ ma_wp 94 12 [(2, 80), (0, x1)] [(2, 80)] mr_SH M Q := by
  rw [x94_11]
  exact ⟨fun h => h.2, fun h => ⟨by decide, h⟩⟩
theorem s94_15 (x1 : Int) (y0 : Int) (y1 : Int) (y2 : Int) (M : ma_M) (Q : Option ma_V → ma_S → ma_M → Prop) : ma_wp 94 15 [(2, 80), (0, x1)] [(0, y0), (0, y1), (0, y2), (2, 80)] mr_SH M Q ↔ mr_do 85 [(2, 80), (0, y2), (0, y1), (0, y0)] mr_SH M (fun r sh M => ma_wp 94 18 [(2, 80), (0, x1)] (r.toList ++ []) sh M Q) := by
  rw [x94_15, ml_80]
  exact ⟨fun h => h.2, fun h => ⟨by decide, h⟩⟩
theorem s94_18 (x1 : Int) (M : ma_M) (Q : Option ma_V → ma_S → ma_M → Prop) : ma_wp 94 18 [(2, 80), (0, x1)] [] mr_SH M Q ↔ ma_wp 94 19 [(2, 80), (0, x1)] [(2, 80)] mr_SH M Q := by
  rw [x94_18]
  exact ⟨fun h => h.2, fun h => ⟨by decide, h⟩⟩
theorem s94_19 (x1 : Int) (M : ma_M) (Q : Option ma_V → ma_S → ma_M → Prop) : ma_wp 94 19 [(2, 80), (0, x1)] [(2, 80)] mr_SH M Q ↔ mr_do 92 [(2, 80)] mr_SH M (fun r sh M => ma_wp 94 22 [(2, 80), (0, x1)] (r.toList ++ []) sh M Q) := by
  rw [x94_19, ml_80]
  exact ⟨fun h => h.2, fun h => ⟨by decide, h⟩⟩
theorem s94_22 (x1 : Int) (M : ma_M) (Q : Option ma_V → ma_S → ma_M → Prop) : ma_wp 94 22 [(2, 80), (0, x1)] [] mr_SH M Q ↔ ma_wp 94 23 [(2, 80), (0, x1)] [(2, 80)] mr_SH M Q := by
  rw [x94_22]
  exact ⟨fun h => h.2, fun h => ⟨by decide, h⟩⟩
theorem s94_23 (x1 : Int) (M : ma_M) (Q : Option ma_V → ma_S → ma_M → Prop) (hF : mr_FIX M) : ma_wp 94 23 [(2, 80), (0, x1)] [(2, 80)] mr_SH M Q ↔ ma_wp 94 26 [(2, 80), (0, x1)] [(2, 93)] mr_SH M Q := by
  rw [x94_23, mf_80_15 hF, ml_80]
  exact ⟨fun h => h.2, fun h => ⟨by decide, h⟩⟩
theorem s94_27 (x1 : Int) (y0 : Int) (M : ma_M) (Q : Option ma_V → ma_S → ma_M → Prop) : ma_wp 94 27 [(2, 80), (0, x1)] [(0, y0), (2, 93)] mr_SH M Q ↔ (0 ≤ y0 ∧ y0 < 24) ∧ ma_wp 94 28 [(2, 80), (0, x1)] [(0, M 93 y0)] mr_SH M Q := by
  rw [x94_27, ml_93]
theorem s94_35 (x1 : Int) (M : ma_M) (Q : Option ma_V → ma_S → ma_M → Prop) : ma_wp 94 35 [(2, 80), (0, x1)] [] mr_SH M Q ↔ ma_wp 94 36 [(2, 80), (0, x1)] [(2, 80)] mr_SH M Q := by
  rw [x94_35]
  exact ⟨fun h => h.2, fun h => ⟨by decide, h⟩⟩
theorem s94_36 (x1 : Int) (M : ma_M) (Q : Option ma_V → ma_S → ma_M → Prop) (hF : mr_FIX M) : ma_wp 94 36 [(2, 80), (0, x1)] [(2, 80)] mr_SH M Q ↔ ma_wp 94 39 [(2, 80), (0, x1)] [(2, 91)] mr_SH M Q := by
  rw [x94_36, mf_80_13 hF, ml_80]
  exact ⟨fun h => h.2, fun h => ⟨by decide, h⟩⟩
theorem s94_43 (x1 : Int) (y0 : Int) (M : ma_M) (Q : Option ma_V → ma_S → ma_M → Prop) : ma_wp 94 43 [(2, 80), (0, x1)] [(0, y0), (2, 91)] mr_SH M Q ↔ (0 ≤ y0 ∧ y0 < 216) ∧ ma_wp 94 44 [(2, 80), (0, x1)] [(1, M 91 y0)] mr_SH M Q := by
  rw [x94_43, ml_91]
theorem s95_0 (x1 : Int) (M : ma_M) (Q : Option ma_V → ma_S → ma_M → Prop) : ma_wp 95 0 [(2, 80), (0, x1)] [] mr_SH M Q ↔ ma_wp 95 1 [(2, 80), (0, x1)] [(2, 80)] mr_SH M Q := by
  rw [x95_0]
  exact ⟨fun h => h.2, fun h => ⟨by decide, h⟩⟩
theorem s95_3 (x1 : Int) (y0 : Int) (y1 : Int) (M : ma_M) (Q : Option ma_V → ma_S → ma_M → Prop) : ma_wp 95 3 [(2, 80), (0, x1)] [(0, y0), (0, y1), (2, 80)] mr_SH M Q ↔ mr_do 96 [(2, 80), (0, y1), (0, y0)] mr_SH M (fun r sh M => ma_wp 95 6 [(2, 80), (0, x1)] (r.toList ++ []) sh M Q) := by
  rw [x95_3, ml_80]
  exact ⟨fun h => h.2, fun h => ⟨by decide, h⟩⟩
theorem s96_0 (x1 : Int) (x2 : Int) (M : ma_M) (Q : Option ma_V → ma_S → ma_M → Prop) : ma_wp 96 0 [(2, 80), (0, x1), (0, x2)] [] mr_SH M Q ↔ ma_wp 96 1 [(2, 80), (0, x1), (0, x2)] [(2, 80)] mr_SH M Q := by
  rw [x96_0]
  exact ⟨fun h => h.2, fun h => ⟨by decide, h⟩⟩
theorem s96_2 (x1 : Int) (x2 : Int) (y0 : Int) (M : ma_M) (Q : Option ma_V → ma_S → ma_M → Prop) : ma_wp 96 2 [(2, 80), (0, x1), (0, x2)] [(0, y0), (2, 80)] mr_SH M Q ↔ mr_do 76 [(2, 80), (0, y0)] mr_SH M (fun r sh M => ma_wp 96 5 [(2, 80), (0, x1), (0, x2)] (r.toList ++ []) sh M Q) := by
  rw [x96_2, ml_80]
  exact ⟨fun h => h.2, fun h => ⟨by decide, h⟩⟩
theorem s96_21 (x1 : Int) (x2 : Int) (M : ma_M) (Q : Option ma_V → ma_S → ma_M → Prop) : ma_wp 96 21 [(2, 80), (0, x1), (0, x2)] [] mr_SH M Q ↔ ma_wp 96 22 [(2, 80), (0, x1), (0, x2)] [(2, 80)] mr_SH M Q := by
  rw [x96_21]
  exact ⟨fun h => h.2, fun h => ⟨by decide, h⟩⟩
theorem s96_25 (x1 : Int) (x2 : Int) (y0 : Int) (y1 : Int) (y2 : Int) (M : ma_M) (Q : Option ma_V → ma_S → ma_M → Prop) : ma_wp 96 25 [(2, 80), (0, x1), (0, x2)] [(0, y0), (0, y1), (0, y2), (2, 80)] mr_SH M Q ↔ mr_do 85 [(2, 80), (0, y2), (0, y1), (0, y0)] mr_SH M (fun r sh M => ma_wp 96 28 [(2, 80), (0, x1), (0, x2)] (r.toList ++ []) sh M Q) := by
  rw [x96_25, ml_80]
  exact ⟨fun h => h.2, fun h => ⟨by decide, h⟩⟩
theorem s96_28 (x1 : Int) (x2 : Int) (M : ma_M) (Q : Option ma_V → ma_S → ma_M → Prop) : ma_wp 96 28 [(2, 80), (0, x1), (0, x2)] [] mr_SH M Q ↔ ma_wp 96 29 [(2, 80), (0, x1), (0, x2)] [(2, 80)] mr_SH M Q := by
  rw [x96_28]
  exact ⟨fun h => h.2, fun h => ⟨by decide, h⟩⟩
theorem s96_31 (x1 : Int) (x2 : Int) (y0 : Int) (y1 : Int) (M : ma_M) (Q : Option ma_V → ma_S → ma_M → Prop) : ma_wp 96 31 [(2, 80), (0, x1), (0, x2)] [(0, y0), (0, y1), (2, 80)] mr_SH M Q ↔ mr_do 93 [(2, 80), (0, y1), (0, y0)] mr_SH M (fun r sh M => ma_wp 96 34 [(2, 80), (0, x1), (0, x2)] (r.toList ++ []) sh M Q) := by
  rw [x96_31, ml_80]
  exact ⟨fun h => h.2, fun h => ⟨by decide, h⟩⟩
theorem s97_0 (x1 : Int) (x2 : Int) (M : ma_M) (Q : Option ma_V → ma_S → ma_M → Prop) : ma_wp 97 0 [(2, 80), (0, x1), (0, x2)] [] mr_SH M Q ↔ ma_wp 97 1 [(2, 80), (0, x1), (0, x2)] [(2, 80)] mr_SH M Q := by
  rw [x97_0]
  exact ⟨fun h => h.2, fun h => ⟨by decide, h⟩⟩
theorem s97_2 (x1 : Int) (x2 : Int) (y0 : Int) (M : ma_M) (Q : Option ma_V → ma_S → ma_M → Prop) : ma_wp 97 2 [(2, 80), (0, x1), (0, x2)] [(0, y0), (2, 80)] mr_SH M Q ↔ mr_do 76 [(2, 80), (0, y0)] mr_SH M (fun r sh M => ma_wp 97 5 [(2, 80), (0, x1), (0, x2)] (r.toList ++ []) sh M Q) := by
  rw [x97_2, ml_80]
  exact ⟨fun h => h.2, fun h => ⟨by decide, h⟩⟩
theorem s97_8 (x1 : Int) (x2 : Int) (M : ma_M) (Q : Option ma_V → ma_S → ma_M → Prop) : ma_wp 97 8 [(2, 80), (0, x1), (0, x2)] [] mr_SH M Q ↔ ma_wp 97 9 [(2, 80), (0, x1), (0, x2)] [(2, 80)] mr_SH M Q := by
  rw [x97_8]
  exact ⟨fun h => h.2, fun h => ⟨by decide, h⟩⟩
theorem s97_10 (x1 : Int) (x2 : Int) (y0 : Int) (M : ma_M) (Q : Option ma_V → ma_S → ma_M → Prop) : ma_wp 97 10 [(2, 80), (0, x1), (0, x2)] [(0, y0), (2, 80)] mr_SH M Q ↔ mr_do 75 [(2, 80), (0, y0)] mr_SH M (fun r sh M => ma_wp 97 13 [(2, 80), (0, x1), (0, x2)] (r.toList ++ []) sh M Q) := by
  rw [x97_10, ml_80]
  exact ⟨fun h => h.2, fun h => ⟨by decide, h⟩⟩
theorem s97_19 (x1 : Int) (x2 : Int) (M : ma_M) (Q : Option ma_V → ma_S → ma_M → Prop) : ma_wp 97 19 [(2, 80), (0, x1), (0, x2)] [] mr_SH M Q ↔ ma_wp 97 20 [(2, 80), (0, x1), (0, x2)] [(2, 80)] mr_SH M Q := by
  rw [x97_19]
  exact ⟨fun h => h.2, fun h => ⟨by decide, h⟩⟩
theorem s97_23 (x1 : Int) (x2 : Int) (y0 : Int) (y1 : Int) (y2 : Int) (M : ma_M) (Q : Option ma_V → ma_S → ma_M → Prop) : ma_wp 97 23 [(2, 80), (0, x1), (0, x2)] [(0, y0), (0, y1), (0, y2), (2, 80)] mr_SH M Q ↔ mr_do 85 [(2, 80), (0, y2), (0, y1), (0, y0)] mr_SH M (fun r sh M => ma_wp 97 26 [(2, 80), (0, x1), (0, x2)] (r.toList ++ []) sh M Q) := by
  rw [x97_23, ml_80]
  exact ⟨fun h => h.2, fun h => ⟨by decide, h⟩⟩
theorem s97_26 (x1 : Int) (x2 : Int) (M : ma_M) (Q : Option ma_V → ma_S → ma_M → Prop) : ma_wp 97 26 [(2, 80), (0, x1), (0, x2)] [] mr_SH M Q ↔ ma_wp 97 27 [(2, 80), (0, x1), (0, x2)] [(2, 80)] mr_SH M Q := by
  rw [x97_26]
  exact ⟨fun h => h.2, fun h => ⟨by decide, h⟩⟩
theorem s97_29 (x1 : Int) (x2 : Int) (y0 : Int) (y1 : Int) (M : ma_M) (Q : Option ma_V → ma_S → ma_M → Prop) : ma_wp 97 29 [(2, 80), (0, x1), (0, x2)] [(0, y0), (0, y1), (2, 80)] mr_SH M Q ↔ mr_do 93 [(2, 80), (0, y1), (0, y0)] mr_SH M (fun r sh M => ma_wp 97 32 [(2, 80), (0, x1), (0, x2)] (r.toList ++ []) sh M Q) := by
  rw [x97_29, ml_80]
  exact ⟨fun h => h.2, fun h => ⟨by decide, h⟩⟩
theorem s98_0 (x1 : Int) (x2 : Int) (x3 : Int) (x4 : Int) (x5 : Int) (x6 : Int) (x7 : Int) (M : ma_M) (Q : Option ma_V → ma_S → ma_M → Prop) : ma_wp 98 0 [(2, 80), (0, x1), (3, x2), (3, x3), (3, x4), (3, x5), (3, x6), (3, x7)] [] mr_SH M Q ↔ ma_wp 98 1 [(2, 80), (0, x1), (3, x2), (3, x3), (3, x4), (3, x5), (3, x6), (3, x7)] [(2, 80)] mr_SH M Q := by
  rw [x98_0]
  exact ⟨fun h => h.2, fun h => ⟨by decide, h⟩⟩
theorem s98_2 (x1 : Int) (x2 : Int) (x3 : Int) (x4 : Int) (x5 : Int) (x6 : Int) (x7 : Int) (y0 : Int) (M : ma_M) (Q : Option ma_V → ma_S → ma_M → Prop) : ma_wp 98 2 [(2, 80), (0, x1), (3, x2), (3, x3), (3, x4), (3, x5), (3, x6), (3, x7)] [(0, y0), (2, 80)] mr_SH M Q ↔ mr_do 75 [(2, 80), (0, y0)] mr_SH M (fun r sh M => ma_wp 98 5 [(2, 80), (0, x1), (3, x2), (3, x3), (3, x4), (3, x5), (3, x6), (3, x7)] (r.toList ++ []) sh M Q) := by
  rw [x98_2, ml_80]
  exact ⟨fun h => h.2, fun h => ⟨by decide, h⟩⟩
theorem s98_24 (x1 : Int) (x2 : Int) (x3 : Int) (x4 : Int) (x5 : Int) (x6 : Int) (a7 : ma_V) (y0 : Int) (M : ma_M) (Q : Option ma_V → ma_S → ma_M → Prop) : ma_wp 98 24 [(2, 80), (0, x1), (1, x2), (3, x3), (0, x4), (0, x5), (0, x6), a7] [(0, y0)] mr_SH M Q ↔ ma_wp 98 25 [(2, 80), (0, x1), (1, x2), (3, x3), (0, x4), (0, x5), (0, x6), a7] [(2, 80), (0, y0)] mr_SH M Q := by
  rw [x98_24]
  exact ⟨fun h => h.2, fun h => ⟨by decide, h⟩⟩
theorem s98_25 (x1 : Int) (x2 : Int) (x3 : Int) (x4 : Int) (x5 : Int) (x6 : Int) (a7 : ma_V) (y1 : Int) (M : ma_M) (Q : Option ma_V → ma_S → ma_M → Prop) : ma_wp 98 25 [(2, 80), (0, x1), (1, x2), (3, x3), (0, x4), (0, x5), (0, x6), a7] [(2, 80), (0, y1)] mr_SH M Q ↔ ma_wp 98 28 [(2, 80), (0, x1), (1, x2), (3, x3), (0, x4), (0, x5), (0, x6), a7] [(0, M 80 9), (0, y1)] mr_SH M Q := by
  rw [x98_25, ml_80]
  exact ⟨fun h => h.2, fun h => ⟨by decide, h⟩⟩
theorem s98_31 (x1 : Int) (x2 : Int) (x3 : Int) (x4 : Int) (x5 : Int) (x6 : Int) (a7 : ma_V) (M : ma_M) (Q : Option ma_V → ma_S → ma_M → Prop) : ma_wp 98 31 [(2, 80), (0, x1), (1, x2), (3, x3), (0, x4), (0, x5), (0, x6), a7] [] mr_SH M Q ↔ ma_wp 98 32 [(2, 80), (0, x1), (1, x2), (3, x3), (0, x4), (0, x5), (0, x6), a7] [(2, 80)] mr_SH M Q := by
  rw [x98_31]
  exact ⟨fun h => h.2, fun h => ⟨by decide, h⟩⟩
theorem s98_32 (x1 : Int) (x2 : Int) (x3 : Int) (x4 : Int) (x5 : Int) (x6 : Int) (a7 : ma_V) (M : ma_M) (Q : Option ma_V → ma_S → ma_M → Prop) (hF : mr_FIX M) : ma_wp 98 32 [(2, 80), (0, x1), (1, x2), (3, x3), (0, x4), (0, x5), (0, x6), a7] [(2, 80)] mr_SH M Q ↔ ma_wp 98 35 [(2, 80), (0, x1), (1, x2), (3, x3), (0, x4), (0, x5), (0, x6), a7] [(2, 89)] mr_SH M Q := by
  rw [x98_32, mf_80_11 hF, ml_80]
  exact ⟨fun h => h.2, fun h => ⟨by decide, h⟩⟩
theorem s98_37 (x1 : Int) (x2 : Int) (x3 : Int) (x4 : Int) (x5 : Int) (x6 : Int) (a7 : ma_V) (y0 : Int) (M : ma_M) (Q : Option ma_V → ma_S → ma_M → Prop) : ma_wp 98 37 [(2, 80), (0, x1), (1, x2), (3, x3), (0, x4), (0, x5), (0, x6), a7] [(0, y0), (2, 89)] mr_SH M Q ↔ (0 ≤ y0 ∧ y0 < 5) ∧ ma_wp 98 38 [(2, 80), (0, x1), (1, x2), (3, x3), (0, x4), (0, x5), (0, x6), a7] [(1, M 89 y0)] mr_SH M Q := by
  rw [x98_37, ml_89]
theorem s98_47 (x1 : Int) (x2 : Int) (x3 : Int) (x4 : Int) (x5 : Int) (x6 : Int) (a7 : ma_V) (M : ma_M) (Q : Option ma_V → ma_S → ma_M → Prop) : ma_wp 98 47 [(2, 80), (0, x1), (1, x2), (3, x3), (0, x4), (0, x5), (0, x6), a7] [] mr_SH M Q ↔ ma_wp 98 48 [(2, 80), (0, x1), (1, x2), (3, x3), (0, x4), (0, x5), (0, x6), a7] [(2, 80)] mr_SH M Q := by
  rw [x98_47]
  exact ⟨fun h => h.2, fun h => ⟨by decide, h⟩⟩
theorem s98_51 (x1 : Int) (x2 : Int) (x3 : Int) (x4 : Int) (x5 : Int) (x6 : Int) (a7 : ma_V) (y0 : Int) (y1 : Int) (M : ma_M) (Q : Option ma_V → ma_S → ma_M → Prop) : ma_wp 98 51 [(2, 80), (0, x1), (1, x2), (3, x3), (0, x4), (0, x5), (0, x6), a7] [(0, y0), (0, y1), (2, 80)] mr_SH M Q ↔ mr_do 97 [(2, 80), (0, y1), (0, y0)] mr_SH M (fun r sh M => ma_wp 98 54 [(2, 80), (0, x1), (1, x2), (3, x3), (0, x4), (0, x5), (0, x6), a7] (r.toList ++ []) sh M Q) := by
  rw [x98_51, ml_80]
  exact ⟨fun h => h.2, fun h => ⟨by decide, h⟩⟩
theorem s98_103 (x1 : Int) (x2 : Int) (x3 : Int) (x4 : Int) (x5 : Int) (x6 : Int) (x7 : Int) (y0 : Int) (M : ma_M) (Q : Option ma_V → ma_S → ma_M → Prop) : ma_wp 98 103 [(2, 80), (0, x1), (1, x2), (3, x3), (0, x4), (0, x5), (0, x6), (0, x7)] [(1, y0)] mr_SH M Q ↔ ma_wp 98 104 [(2, 80), (0, x1), (1, x2), (3, x3), (0, x4), (0, x5), (0, x6), (0, x7)] [(2, 80), (1, y0)] mr_SH M Q := by
  rw [x98_103]
  exact ⟨fun h => h.2, fun h => ⟨by decide, h⟩⟩
theorem s98_104 (x1 : Int) (x2 : Int) (x3 : Int) (x4 : Int) (x5 : Int) (x6 : Int) (x7 : Int) (y1 : Int) (M : ma_M) (Q : Option ma_V → ma_S → ma_M → Prop) (hF : mr_FIX M) : ma_wp 98 104 [(2, 80), (0, x1), (1, x2), (3, x3), (0, x4), (0, x5), (0, x6), (0, x7)] [(2, 80), (1, y1)] mr_SH M Q ↔ ma_wp 98 107 [(2, 80), (0, x1), (1, x2), (3, x3), (0, x4), (0, x5), (0, x6), (0, x7)] [(2, 89), (1, y1)] mr_SH M Q := by
  rw [x98_104, mf_80_11 hF, ml_80]
  exact ⟨fun h => h.2, fun h => ⟨by decide, h⟩⟩
theorem s98_109 (x1 : Int) (x2 : Int) (x3 : Int) (x4 : Int) (x5 : Int) (x6 : Int) (x7 : Int) (y0 : Int) (y2 : Int) (M : ma_M) (Q : Option ma_V → ma_S → ma_M → Prop) : ma_wp 98 109 [(2, 80), (0, x1), (1, x2), (3, x3), (0, x4), (0, x5), (0, x6), (0, x7)] [(0, y0), (2, 89), (1, y2)] mr_SH M Q ↔ (0 ≤ y0 ∧ y0 < 5) ∧ ma_wp 98 110 [(2, 80), (0, x1), (1, x2), (3, x3), (0, x4), (0, x5), (0, x6), (0, x7)] [(1, M 89 y0), (1, y2)] mr_SH M Q := by
  rw [x98_109, ml_89]
theorem s99_0 (x1 : Int) (x2 : Int) (x3 : Int) (x4 : Int) (x5 : Int) (x6 : Int) (x7 : Int) (x8 : Int) (x9 : Int) (M : ma_M) (Q : Option ma_V → ma_S → ma_M → Prop) : ma_wp 99 0 [(2, 80), (0, x1), (0, x2), (0, x3), (3, x4), (3, x5), (3, x6), (3, x7), (3, x8), (3, x9)] [] mr_SH M Q ↔ ma_wp 99 1 [(2, 80), (0, x1), (0, x2), (0, x3), (3, x4), (3, x5), (3, x6), (3, x7), (3, x8), (3, x9)] [(2, 80)] mr_SH M Q := by
  rw [x99_0]
  exact ⟨fun h => h.2, fun h => ⟨by decide, h⟩⟩
theorem s99_2 (x1 : Int) (x2 : Int) (x3 : Int) (x4 : Int) (x5 : Int) (x6 : Int) (x7 : Int) (x8 : Int) (x9 : Int) (y0 : Int) (M : ma_M) (Q : Option ma_V → ma_S → ma_M → Prop) : ma_wp 99 2 [(2, 80), (0, x1), (0, x2), (0, x3), (3, x4), (3, x5), (3, x6), (3, x7), (3, x8), (3, x9)] [(0, y0), (2, 80)] mr_SH M Q ↔ mr_do 76 [(2, 80), (0, y0)] mr_SH M (fun r sh M => ma_wp 99 5 [(2, 80), (0, x1), (0, x2), (0, x3), (3, x4), (3, x5), (3, x6), (3, x7), (3, x8), (3, x9)] (r.toList ++ []) sh M Q) := by
  rw [x99_2, ml_80]
  exact ⟨fun h => h.2, fun h => ⟨by decide, h⟩⟩
theorem s99_8 (x1 : Int) (x2 : Int) (x3 : Int) (x4 : Int) (x5 : Int) (x6 : Int) (x7 : Int) (x8 : Int) (x9 : Int) (M : ma_M) (Q : Option ma_V → ma_S → ma_M → Prop) : ma_wp 99 8 [(2, 80), (0, x1), (0, x2), (0, x3), (3, x4), (3, x5), (3, x6), (3, x7), (3, x8), (3, x9)] [] mr_SH M Q ↔ ma_wp 99 9 [(2, 80), (0, x1), (0, x2), (0, x3), (3, x4), (3, x5), (3, x6), (3, x7), (3, x8), (3, x9)] [(2, 80)] mr_SH M Q := by
  rw [x99_8]
  exact ⟨fun h => h.2, fun h => ⟨by decide, h⟩⟩
theorem s99_10 (x1 : Int) (x2 : Int) (x3 : Int) (x4 : Int) (x5 : Int) (x6 : Int) (x7 : Int) (x8 : Int) (x9 : Int) (y0 : Int) (M : ma_M) (Q : Option ma_V → ma_S → ma_M → Prop) : ma_wp 99 10 [(2, 80), (0, x1), (0, x2), (0, x3), (3, x4), (3, x5), (3, x6), (3, x7), (3, x8), (3, x9)] [(0, y0), (2, 80)] mr_SH M Q ↔ mr_do 75 [(2, 80), (0, y0)] mr_SH M (fun r sh M => ma_wp 99 13 [(2, 80), (0, x1), (0, x2), (0, x3), (3, x4), (3, x5), (3, x6), (3, x7), (3, x8), (3, x9)] (r.toList ++ []) sh M Q) := by
  rw [x99_10, ml_80]
  exact ⟨fun h => h.2, fun h => ⟨by decide, h⟩⟩
theorem s99_16 (x1 : Int) (x2 : Int) (x3 : Int) (x4 : Int) (x5 : Int) (x6 : Int) (x7 : Int) (x8 : Int) (x9 : Int) (M : ma_M) (Q : Option ma_V → ma_S → ma_M → Prop) : ma_wp 99 16 [(2, 80), (0, x1), (0, x2), (0, x3), (3, x4), (3, x5), (3, x6), (3, x7), (3, x8), (3, x9)] [] mr_SH M Q ↔ ma_wp 99 17 [(2, 80), (0, x1), (0, x2), (0, x3), (3, x4), (3, x5), (3, x6), (3, x7), (3, x8), (3, x9)] [(2, 80)] mr_SH M Q := by
  rw [x99_16]
  exact ⟨fun h => h.2, fun h => ⟨by decide, h⟩⟩
theorem s99_18 (x1 : Int) (x2 : Int) (x3 : Int) (x4 : Int) (x5 : Int) (x6 : Int) (x7 : Int) (x8 : Int) (x9 : Int) (y0 : Int) (M : ma_M) (Q : Option ma_V → ma_S → ma_M → Prop) : ma_wp 99 18 [(2, 80), (0, x1), (0, x2), (0, x3), (3, x4), (3, x5), (3, x6), (3, x7), (3, x8), (3, x9)] [(0, y0), (2, 80)] mr_SH M Q ↔ mr_do 75 [(2, 80), (0, y0)] mr_SH M (fun r sh M => ma_wp 99 21 [(2, 80), (0, x1), (0, x2), (0, x3), (3, x4), (3, x5), (3, x6), (3, x7), (3, x8), (3, x9)] (r.toList ++ []) sh M Q) := by
  rw [x99_18, ml_80]
  exact ⟨fun h => h.2, fun h => ⟨by decide, h⟩⟩
theorem s99_27 (x1 : Int) (x2 : Int) (x3 : Int) (x4 : Int) (x5 : Int) (x6 : Int) (x7 : Int) (x8 : Int) (x9 : Int) (M : ma_M) (Q : Option ma_V → ma_S → ma_M → Prop) : ma_wp 99 27 [(2, 80), (0, x1), (0, x2), (0, x3), (3, x4), (3, x5), (3, x6), (3, x7), (3, x8), (3, x9)] [] mr_SH M Q ↔ ma_wp 99 28 [(2, 80), (0, x1), (0, x2), (0, x3), (3, x4), (3, x5), (3, x6), (3, x7), (3, x8), (3, x9)] [(2, 80)] mr_SH M Q := by
  rw [x99_27]
  exact ⟨fun h => h.2, fun h => ⟨by decide, h⟩⟩
theorem s99_31 (x1 : Int) (x2 : Int) (x3 : Int) (x4 : Int) (x5 : Int) (x6 : Int) (x7 : Int) (x8 : Int) (x9 : Int) (y0 : Int) (y1 : Int) (y2 : Int) (M : ma_M) (Q : Option ma_V → ma_S → ma_M → Prop) : ma_wp 99 31 [(2, 80), (0, x1), (0, x2), (0, x3), (3, x4), (3, x5), (3, x6), (3, x7), (3, x8), (3, x9)] [(0, y0), (0, y1), (0, y2), (2, 80)] mr_SH M Q ↔ mr_do 85 [(2, 80), (0, y2), (0, y1), (0, y0)] mr_SH M (fun r sh M => ma_wp 99 34 [(2, 80), (0, x1), (0, x2), (0, x3), (3, x4), (3, x5), (3, x6), (3, x7), (3, x8), (3, x9)] (r.toList ++ []) sh M Q) := by
  rw [x99_31, ml_80]
  exact ⟨fun h => h.2, fun h => ⟨by decide, h⟩⟩
theorem s99_34 (x1 : Int) (x2 : Int) (x3 : Int) (x4 : Int) (x5 : Int) (x6 : Int) (x7 : Int) (x8 : Int) (x9 : Int) (M : ma_M) (Q : Option ma_V → ma_S → ma_M → Prop) : ma_wp 99 34 [(2, 80), (0, x1), (0, x2), (0, x3), (3, x4), (3, x5), (3, x6), (3, x7), (3, x8), (3, x9)] [] mr_SH M Q ↔ ma_wp 99 35 [(2, 80), (0, x1), (0, x2), (0, x3), (3, x4), (3, x5), (3, x6), (3, x7), (3, x8), (3, x9)] [(2, 80)] mr_SH M Q := by
  rw [x99_34]
  exact ⟨fun h => h.2, fun h => ⟨by decide, h⟩⟩
theorem s99_37 (x1 : Int) (x2 : Int) (x3 : Int) (x4 : Int) (x5 : Int) (x6 : Int) (x7 : Int) (x8 : Int) (x9 : Int) (y0 : Int) (y1 : Int) (M : ma_M) (Q : Option ma_V → ma_S → ma_M → Prop) : ma_wp 99 37 [(2, 80), (0, x1), (0, x2), (0, x3), (3, x4), (3, x5), (3, x6), (3, x7), (3, x8), (3, x9)] [(0, y0), (0, y1), (2, 80)] mr_SH M Q ↔ mr_do 93 [(2, 80), (0, y1), (0, y0)] mr_SH M (fun r sh M => ma_wp 99 40 [(2, 80), (0, x1), (0, x2), (0, x3), (3, x4), (3, x5), (3, x6), (3, x7), (3, x8), (3, x9)] (r.toList ++ []) sh M Q) := by
  rw [x99_37, ml_80]
  exact ⟨fun h => h.2, fun h => ⟨by decide, h⟩⟩
theorem s99_71 (x1 : Int) (x2 : Int) (x3 : Int) (x4 : Int) (x5 : Int) (x6 : Int) (x7 : Int) (x8 : Int) (x9 : Int) (M : ma_M) (Q : Option ma_V → ma_S → ma_M → Prop) : ma_wp 99 71 [(2, 80), (0, x1), (0, x2), (0, x3), (1, x4), (3, x5), (3, x6), (3, x7), (3, x8), (3, x9)] [] mr_SH M Q ↔ ma_wp 99 72 [(2, 80), (0, x1), (0, x2), (0, x3), (1, x4), (3, x5), (3, x6), (3, x7), (3, x8), (3, x9)] [(2, 80)] mr_SH M Q := by
  rw [x99_71]
  exact ⟨fun h => h.2, fun h => ⟨by decide, h⟩⟩
theorem s99_75 (x1 : Int) (x2 : Int) (x3 : Int) (x4 : Int) (x5 : Int) (x6 : Int) (x7 : Int) (x8 : Int) (x9 : Int) (y0 : Int) (y1 : Int) (y2 : Int) (M : ma_M) (Q : Option ma_V → ma_S → ma_M → Prop) : ma_wp 99 75 [(2, 80), (0, x1), (0, x2), (0, x3), (1, x4), (3, x5), (3, x6), (3, x7), (3, x8), (3, x9)] [(0, y0), (0, y1), (0, y2), (2, 80)] mr_SH M Q ↔ mr_do 85 [(2, 80), (0, y2), (0, y1), (0, y0)] mr_SH M (fun r sh M => ma_wp 99 78 [(2, 80), (0, x1), (0, x2), (0, x3), (1, x4), (3, x5), (3, x6), (3, x7), (3, x8), (3, x9)] (r.toList ++ []) sh M Q) := by
  rw [x99_75, ml_80]
  exact ⟨fun h => h.2, fun h => ⟨by decide, h⟩⟩
theorem s99_78 (x1 : Int) (x2 : Int) (x3 : Int) (x4 : Int) (x5 : Int) (x6 : Int) (x7 : Int) (x8 : Int) (x9 : Int) (M : ma_M) (Q : Option ma_V → ma_S → ma_M → Prop) : ma_wp 99 78 [(2, 80), (0, x1), (0, x2), (0, x3), (1, x4), (3, x5), (3, x6), (3, x7), (3, x8), (3, x9)] [] mr_SH M Q ↔ ma_wp 99 79 [(2, 80), (0, x1), (0, x2), (0, x3), (1, x4), (3, x5), (3, x6), (3, x7), (3, x8), (3, x9)] [(2, 80)] mr_SH M Q := by
  rw [x99_78]
  exact ⟨fun h => h.2, fun h => ⟨by decide, h⟩⟩
theorem s99_81 (x1 : Int) (x2 : Int) (x3 : Int) (x4 : Int) (x5 : Int) (x6 : Int) (x7 : Int) (x8 : Int) (x9 : Int) (y0 : Int) (y1 : Int) (M : ma_M) (Q : Option ma_V → ma_S → ma_M → Prop) : ma_wp 99 81 [(2, 80), (0, x1), (0, x2), (0, x3), (1, x4), (3, x5), (3, x6), (3, x7), (3, x8), (3, x9)] [(0, y0), (0, y1), (2, 80)] mr_SH M Q ↔ mr_do 93 [(2, 80), (0, y1), (0, y0)] mr_SH M (fun r sh M => ma_wp 99 84 [(2, 80), (0, x1), (0, x2), (0, x3), (1, x4), (3, x5), (3, x6), (3, x7), (3, x8), (3, x9)] (r.toList ++ []) sh M Q) := by
  rw [x99_81, ml_80]
  exact ⟨fun h => h.2, fun h => ⟨by decide, h⟩⟩
theorem s99_87 (x1 : Int) (x2 : Int) (x3 : Int) (x4 : Int) (x5 : Int) (x6 : Int) (x7 : Int) (x8 : Int) (x9 : Int) (M : ma_M) (Q : Option ma_V → ma_S → ma_M → Prop) : ma_wp 99 87 [(2, 80), (0, x1), (0, x2), (0, x3), (1, x4), (3, x5), (1, x6), (3, x7), (3, x8), (3, x9)] [] mr_SH M Q ↔ ma_wp 99 88 [(2, 80), (0, x1), (0, x2), (0, x3), (1, x4), (3, x5), (1, x6), (3, x7), (3, x8), (3, x9)] [(2, 80)] mr_SH M Q := by
  rw [x99_87]
  exact ⟨fun h => h.2, fun h => ⟨by decide, h⟩⟩
theorem s99_91 (x1 : Int) (x2 : Int) (x3 : Int) (x4 : Int) (x5 : Int) (x6 : Int) (x7 : Int) (x8 : Int) (x9 : Int) (y0 : Int) (y1 : Int) (y2 : Int) (M : ma_M) (Q : Option ma_V → ma_S → ma_M → Prop) : ma_wp 99 91 [(2, 80), (0, x1), (0, x2), (0, x3), (1, x4), (3, x5), (1, x6), (3, x7), (3, x8), (3, x9)] [(0, y0), (0, y1), (0, y2), (2, 80)] mr_SH M Q ↔ mr_do 85 [(2, 80), (0, y2), (0, y1), (0, y0)] mr_SH M (fun r sh M => ma_wp 99 94 [(2, 80), (0, x1), (0, x2), (0, x3), (1, x4), (3, x5), (1, x6), (3, x7), (3, x8), (3, x9)] (r.toList ++ []) sh M Q) := by
  rw [x99_91, ml_80]
  exact ⟨fun h => h.2, fun h => ⟨by decide, h⟩⟩
theorem s99_94 (x1 : Int) (x2 : Int) (x3 : Int) (x4 : Int) (x5 : Int) (x6 : Int) (x7 : Int) (x8 : Int) (x9 : Int) (M : ma_M) (Q : Option ma_V → ma_S → ma_M → Prop) : ma_wp 99 94 [(2, 80), (0, x1), (0, x2), (0, x3), (1, x4), (3, x5), (1, x6), (3, x7), (3, x8), (3, x9)] [] mr_SH M Q ↔ ma_wp 99 95 [(2, 80), (0, x1), (0, x2), (0, x3), (1, x4), (3, x5), (1, x6), (3, x7), (3, x8), (3, x9)] [(2, 80)] mr_SH M Q := by
  rw [x99_94]
  exact ⟨fun h => h.2, fun h => ⟨by decide, h⟩⟩
theorem s99_97 (x1 : Int) (x2 : Int) (x3 : Int) (x4 : Int) (x5 : Int) (x6 : Int) (x7 : Int) (x8 : Int) (x9 : Int) (y0 : Int) (y1 : Int) (M : ma_M) (Q : Option ma_V → ma_S → ma_M → Prop) : ma_wp 99 97 [(2, 80), (0, x1), (0, x2), (0, x3), (1, x4), (3, x5), (1, x6), (3, x7), (3, x8), (3, x9)] [(0, y0), (0, y1), (2, 80)] mr_SH M Q ↔ mr_do 93 [(2, 80), (0, y1), (0, y0)] mr_SH M (fun r sh M => ma_wp 99 100 [(2, 80), (0, x1), (0, x2), (0, x3), (1, x4), (3, x5), (1, x6), (3, x7), (3, x8), (3, x9)] (r.toList ++ []) sh M Q) := by
  rw [x99_97, ml_80]
  exact ⟨fun h => h.2, fun h => ⟨by decide, h⟩⟩
