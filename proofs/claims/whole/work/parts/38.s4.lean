theorem s100_0 (x1 : Int) (x2 : Int) (x3 : Int) (M : ma_M) (Q : Option ma_V → ma_S → ma_M → Prop) : ma_wp 100 0 [(2, 80), (0, x1), (0, x2), (3, x3)] [] mr_SH M Q ↔ ma_wp 100 1 [(2, 80), (0, x1), (0, x2), (3, x3)] [(2, 80)] mr_SH M Q := by
  rw [x100_0]
  exact ⟨fun h => h.2, fun h => ⟨by decide, h⟩⟩
theorem s100_2 (x1 : Int) (x2 : Int) (x3 : Int) (y0 : Int) (M : ma_M) (Q : Option ma_V → ma_S → ma_M → Prop) : ma_wp 100 2 [(2, 80), (0, x1), (0, x2), (3, x3)] [(0, y0), (2, 80)] mr_SH M Q ↔ mr_do 76 [(2, 80), (0, y0)] mr_SH M (fun r sh M => ma_wp 100 5 [(2, 80), (0, x1), (0, x2), (3, x3)] (r.toList ++ []) sh M Q) := by
  rw [x100_2, ml_80]
  exact ⟨fun h => h.2, fun h => ⟨by decide, h⟩⟩
theorem s100_8 (x1 : Int) (x2 : Int) (x3 : Int) (M : ma_M) (Q : Option ma_V → ma_S → ma_M → Prop) : ma_wp 100 8 [(2, 80), (0, x1), (0, x2), (3, x3)] [] mr_SH M Q ↔ ma_wp 100 9 [(2, 80), (0, x1), (0, x2), (3, x3)] [(2, 80)] mr_SH M Q := by
  rw [x100_8]
  exact ⟨fun h => h.2, fun h => ⟨by decide, h⟩⟩
theorem s100_10 (x1 : Int) (x2 : Int) (x3 : Int) (y0 : Int) (M : ma_M) (Q : Option ma_V → ma_S → ma_M → Prop) : ma_wp 100 10 [(2, 80), (0, x1), (0, x2), (3, x3)] [(0, y0), (2, 80)] mr_SH M Q ↔ mr_do 75 [(2, 80), (0, y0)] mr_SH M (fun r sh M => ma_wp 100 13 [(2, 80), (0, x1), (0, x2), (3, x3)] (r.toList ++ []) sh M Q) := by
  rw [x100_10, ml_80]
  exact ⟨fun h => h.2, fun h => ⟨by decide, h⟩⟩
theorem s100_21 (x1 : Int) (x2 : Int) (x3 : Int) (y0 : Int) (M : ma_M) (Q : Option ma_V → ma_S → ma_M → Prop) : ma_wp 100 21 [(2, 80), (0, x1), (0, x2), (0, x3)] [(0, y0)] mr_SH M Q ↔ ma_wp 100 22 [(2, 80), (0, x1), (0, x2), (0, x3)] [(2, 80), (0, y0)] mr_SH M Q := by
  rw [x100_21]
  exact ⟨fun h => h.2, fun h => ⟨by decide, h⟩⟩
theorem s100_22 (x1 : Int) (x2 : Int) (x3 : Int) (y1 : Int) (M : ma_M) (Q : Option ma_V → ma_S → ma_M → Prop) : ma_wp 100 22 [(2, 80), (0, x1), (0, x2), (0, x3)] [(2, 80), (0, y1)] mr_SH M Q ↔ ma_wp 100 25 [(2, 80), (0, x1), (0, x2), (0, x3)] [(0, M 80 0), (0, y1)] mr_SH M Q := by
  rw [x100_22, ml_80]
  exact ⟨fun h => h.2, fun h => ⟨by decide, h⟩⟩
theorem s100_28 (x1 : Int) (x2 : Int) (x3 : Int) (M : ma_M) (Q : Option ma_V → ma_S → ma_M → Prop) : ma_wp 100 28 [(2, 80), (0, x1), (0, x2), (0, x3)] [] mr_SH M Q ↔ ma_wp 100 29 [(2, 80), (0, x1), (0, x2), (0, x3)] [(2, 80)] mr_SH M Q := by
  rw [x100_28]
  exact ⟨fun h => h.2, fun h => ⟨by decide, h⟩⟩
theorem s100_29 (x1 : Int) (x2 : Int) (x3 : Int) (M : ma_M) (Q : Option ma_V → ma_S → ma_M → Prop) (hF : mr_FIX M) : ma_wp 100 29 [(2, 80), (0, x1), (0, x2), (0, x3)] [(2, 80)] mr_SH M Q ↔ ma_wp 100 32 [(2, 80), (0, x1), (0, x2), (0, x3)] [(2, 95)] mr_SH M Q := by
  rw [x100_29, mf_80_17 hF, ml_80]
  exact ⟨fun h => h.2, fun h => ⟨by decide, h⟩⟩
theorem s100_34 (x1 : Int) (x2 : Int) (x3 : Int) (y0 : Int) (y1 : Int) (M : ma_M) (Q : Option ma_V → ma_S → ma_M → Prop) : ma_wp 100 34 [(2, 80), (0, x1), (0, x2), (0, x3)] [(0, y0), (0, y1), (2, 95)] mr_SH M Q ↔ ma_wp 100 35 [(2, 80), (0, x1), (0, x2), (0, x3)] [(2, 80), (0, y0), (0, y1), (2, 95)] mr_SH M Q := by
  rw [x100_34]
  exact ⟨fun h => h.2, fun h => ⟨by decide, h⟩⟩
theorem s100_35 (x1 : Int) (x2 : Int) (x3 : Int) (y1 : Int) (y2 : Int) (M : ma_M) (Q : Option ma_V → ma_S → ma_M → Prop) (hF : mr_FIX M) : ma_wp 100 35 [(2, 80), (0, x1), (0, x2), (0, x3)] [(2, 80), (0, y1), (0, y2), (2, 95)] mr_SH M Q ↔ ma_wp 100 38 [(2, 80), (0, x1), (0, x2), (0, x3)] [(2, 88), (0, y1), (0, y2), (2, 95)] mr_SH M Q := by
  rw [x100_35, mf_80_10 hF, ml_80]
  exact ⟨fun h => h.2, fun h => ⟨by decide, h⟩⟩
theorem s100_39 (x1 : Int) (x2 : Int) (x3 : Int) (y0 : Int) (y2 : Int) (y3 : Int) (M : ma_M) (Q : Option ma_V → ma_S → ma_M → Prop) : ma_wp 100 39 [(2, 80), (0, x1), (0, x2), (0, x3)] [(0, y0), (2, 88), (0, y2), (0, y3), (2, 95)] mr_SH M Q ↔ (0 ≤ y0 ∧ y0 < 5) ∧ ma_wp 100 40 [(2, 80), (0, x1), (0, x2), (0, x3)] [(0, M 88 y0), (0, y2), (0, y3), (2, 95)] mr_SH M Q := by
  rw [x100_39, ml_88]
theorem s100_48 (x1 : Int) (x2 : Int) (x3 : Int) (y0 : Int) (y1 : Int) (M : ma_M) (Q : Option ma_V → ma_S → ma_M → Prop) : ma_wp 100 48 [(2, 80), (0, x1), (0, x2), (0, x3)] [(0, y0), (0, y1), (2, 95)] mr_SH M Q ↔ ((0 ≤ y1 ∧ y1 < 24) ∧ (y0 = 0 ∨ y0 = 1)) ∧ ma_wp 100 49 [(2, 80), (0, x1), (0, x2), (0, x3)] [] mr_SH (ma_up M 95 y1 y0) Q := by
  rw [x100_48, ml_95]
theorem s100_55 (x1 : Int) (x2 : Int) (x3 : Int) (M : ma_M) (Q : Option ma_V → ma_S → ma_M → Prop) : ma_wp 100 55 [(2, 80), (0, x1), (0, x2), (0, x3)] [] mr_SH M Q ↔ ma_wp 100 56 [(2, 80), (0, x1), (0, x2), (0, x3)] [(2, 80)] mr_SH M Q := by
  rw [x100_55]
  exact ⟨fun h => h.2, fun h => ⟨by decide, h⟩⟩
theorem s100_56 (x1 : Int) (x2 : Int) (x3 : Int) (M : ma_M) (Q : Option ma_V → ma_S → ma_M → Prop) (hF : mr_FIX M) : ma_wp 100 56 [(2, 80), (0, x1), (0, x2), (0, x3)] [(2, 80)] mr_SH M Q ↔ ma_wp 100 59 [(2, 80), (0, x1), (0, x2), (0, x3)] [(2, 88)] mr_SH M Q := by
  rw [x100_56, mf_80_10 hF, ml_80]
  exact ⟨fun h => h.2, fun h => ⟨by decide, h⟩⟩
theorem s100_60 (x1 : Int) (x2 : Int) (x3 : Int) (y0 : Int) (M : ma_M) (Q : Option ma_V → ma_S → ma_M → Prop) : ma_wp 100 60 [(2, 80), (0, x1), (0, x2), (0, x3)] [(0, y0), (2, 88)] mr_SH M Q ↔ (0 ≤ y0 ∧ y0 < 5) ∧ ma_wp 100 61 [(2, 80), (0, x1), (0, x2), (0, x3)] [(0, M 88 y0)] mr_SH M Q := by
  rw [x100_60, ml_88]
theorem s100_66 (x1 : Int) (x2 : Int) (x3 : Int) (M : ma_M) (Q : Option ma_V → ma_S → ma_M → Prop) : ma_wp 100 66 [(2, 80), (0, x1), (0, x2), (0, x3)] [] mr_SH M Q ↔ ma_wp 100 67 [(2, 80), (0, x1), (0, x2), (0, x3)] [(2, 80)] mr_SH M Q := by
  rw [x100_66]
  exact ⟨fun h => h.2, fun h => ⟨by decide, h⟩⟩
theorem s100_67 (x1 : Int) (x2 : Int) (x3 : Int) (M : ma_M) (Q : Option ma_V → ma_S → ma_M → Prop) (hF : mr_FIX M) : ma_wp 100 67 [(2, 80), (0, x1), (0, x2), (0, x3)] [(2, 80)] mr_SH M Q ↔ ma_wp 100 70 [(2, 80), (0, x1), (0, x2), (0, x3)] [(2, 95)] mr_SH M Q := by
  rw [x100_67, mf_80_17 hF, ml_80]
  exact ⟨fun h => h.2, fun h => ⟨by decide, h⟩⟩
theorem s100_71 (x1 : Int) (x2 : Int) (x3 : Int) (y0 : Int) (M : ma_M) (Q : Option ma_V → ma_S → ma_M → Prop) : ma_wp 100 71 [(2, 80), (0, x1), (0, x2), (0, x3)] [(0, y0), (2, 95)] mr_SH M Q ↔ (0 ≤ y0 ∧ y0 < 24) ∧ ma_wp 100 72 [(2, 80), (0, x1), (0, x2), (0, x3)] [(0, M 95 y0)] mr_SH M Q := by
  rw [x100_71, ml_95]
theorem s100_75 (x1 : Int) (x2 : Int) (x3 : Int) (M : ma_M) (Q : Option ma_V → ma_S → ma_M → Prop) : ma_wp 100 75 [(2, 80), (0, x1), (0, x2), (0, x3)] [] mr_SH M Q ↔ ma_wp 100 76 [(2, 80), (0, x1), (0, x2), (0, x3)] [(2, 80)] mr_SH M Q := by
  rw [x100_75]
  exact ⟨fun h => h.2, fun h => ⟨by decide, h⟩⟩
theorem s100_76 (x1 : Int) (x2 : Int) (x3 : Int) (M : ma_M) (Q : Option ma_V → ma_S → ma_M → Prop) (hF : mr_FIX M) : ma_wp 100 76 [(2, 80), (0, x1), (0, x2), (0, x3)] [(2, 80)] mr_SH M Q ↔ ma_wp 100 79 [(2, 80), (0, x1), (0, x2), (0, x3)] [(2, 81)] mr_SH M Q := by
  rw [x100_76, mf_80_1 hF, ml_80]
  exact ⟨fun h => h.2, fun h => ⟨by decide, h⟩⟩
theorem s100_80 (x1 : Int) (x2 : Int) (x3 : Int) (y0 : Int) (M : ma_M) (Q : Option ma_V → ma_S → ma_M → Prop) : ma_wp 100 80 [(2, 80), (0, x1), (0, x2), (0, x3)] [(0, y0), (2, 81)] mr_SH M Q ↔ (0 ≤ y0 ∧ y0 < 24) ∧ ma_wp 100 81 [(2, 80), (0, x1), (0, x2), (0, x3)] [(0, M 81 y0)] mr_SH M Q := by
  rw [x100_80, ml_81]
theorem s100_86 (x1 : Int) (x2 : Int) (x3 : Int) (M : ma_M) (Q : Option ma_V → ma_S → ma_M → Prop) : ma_wp 100 86 [(2, 80), (0, x1), (0, x2), (0, x3)] [] mr_SH M Q ↔ ma_wp 100 87 [(2, 80), (0, x1), (0, x2), (0, x3)] [(2, 80)] mr_SH M Q := by
  rw [x100_86]
  exact ⟨fun h => h.2, fun h => ⟨by decide, h⟩⟩
theorem s100_87 (x1 : Int) (x2 : Int) (x3 : Int) (M : ma_M) (Q : Option ma_V → ma_S → ma_M → Prop) (hF : mr_FIX M) : ma_wp 100 87 [(2, 80), (0, x1), (0, x2), (0, x3)] [(2, 80)] mr_SH M Q ↔ ma_wp 100 90 [(2, 80), (0, x1), (0, x2), (0, x3)] [(2, 81)] mr_SH M Q := by
  rw [x100_87, mf_80_1 hF, ml_80]
  exact ⟨fun h => h.2, fun h => ⟨by decide, h⟩⟩
theorem s100_91 (x1 : Int) (x2 : Int) (x3 : Int) (y0 : Int) (M : ma_M) (Q : Option ma_V → ma_S → ma_M → Prop) : ma_wp 100 91 [(2, 80), (0, x1), (0, x2), (0, x3)] [(0, y0), (2, 81)] mr_SH M Q ↔ (0 ≤ y0 ∧ y0 < 24) ∧ ma_wp 100 92 [(2, 80), (0, x1), (0, x2), (0, x3)] [(0, M 81 y0)] mr_SH M Q := by
  rw [x100_91, ml_81]
theorem s100_97 (x1 : Int) (x2 : Int) (x3 : Int) (M : ma_M) (Q : Option ma_V → ma_S → ma_M → Prop) : ma_wp 100 97 [(2, 80), (0, x1), (0, x2), (0, x3)] [] mr_SH M Q ↔ ma_wp 100 98 [(2, 80), (0, x1), (0, x2), (0, x3)] [(2, 80)] mr_SH M Q := by
  rw [x100_97]
  exact ⟨fun h => h.2, fun h => ⟨by decide, h⟩⟩
theorem s100_98 (x1 : Int) (x2 : Int) (x3 : Int) (M : ma_M) (Q : Option ma_V → ma_S → ma_M → Prop) (hF : mr_FIX M) : ma_wp 100 98 [(2, 80), (0, x1), (0, x2), (0, x3)] [(2, 80)] mr_SH M Q ↔ ma_wp 100 101 [(2, 80), (0, x1), (0, x2), (0, x3)] [(2, 83)] mr_SH M Q := by
  rw [x100_98, mf_80_3 hF, ml_80]
  exact ⟨fun h => h.2, fun h => ⟨by decide, h⟩⟩
theorem s100_102 (x1 : Int) (x2 : Int) (x3 : Int) (y0 : Int) (M : ma_M) (Q : Option ma_V → ma_S → ma_M → Prop) : ma_wp 100 102 [(2, 80), (0, x1), (0, x2), (0, x3)] [(0, y0), (2, 83)] mr_SH M Q ↔ (0 ≤ y0 ∧ y0 < 24) ∧ ma_wp 100 103 [(2, 80), (0, x1), (0, x2), (0, x3)] [(0, M 83 y0)] mr_SH M Q := by
  rw [x100_102, ml_83]
theorem s100_106 (x1 : Int) (x2 : Int) (x3 : Int) (M : ma_M) (Q : Option ma_V → ma_S → ma_M → Prop) : ma_wp 100 106 [(2, 80), (0, x1), (0, x2), (0, x3)] [] mr_SH M Q ↔ ma_wp 100 107 [(2, 80), (0, x1), (0, x2), (0, x3)] [(2, 80)] mr_SH M Q := by
  rw [x100_106]
  exact ⟨fun h => h.2, fun h => ⟨by decide, h⟩⟩
theorem s100_107 (x1 : Int) (x2 : Int) (x3 : Int) (M : ma_M) (Q : Option ma_V → ma_S → ma_M → Prop) (hF : mr_FIX M) : ma_wp 100 107 [(2, 80), (0, x1), (0, x2), (0, x3)] [(2, 80)] mr_SH M Q ↔ ma_wp 100 110 [(2, 80), (0, x1), (0, x2), (0, x3)] [(2, 95)] mr_SH M Q := by
  rw [x100_107, mf_80_17 hF, ml_80]
  exact ⟨fun h => h.2, fun h => ⟨by decide, h⟩⟩
theorem s100_110 (x1 : Int) (x2 : Int) (x3 : Int) (M : ma_M) (Q : Option ma_V → ma_S → ma_M → Prop) : ma_wp 100 110 [(2, 80), (0, x1), (0, x2), (0, x3)] [(2, 95)] mr_SH M Q ↔ ma_wp 100 111 [(2, 80), (0, x1), (0, x2), (0, x3)] [(2, 80), (2, 95)] mr_SH M Q := by
  rw [x100_110]
  exact ⟨fun h => h.2, fun h => ⟨by decide, h⟩⟩
theorem s100_111 (x1 : Int) (x2 : Int) (x3 : Int) (M : ma_M) (Q : Option ma_V → ma_S → ma_M → Prop) (hF : mr_FIX M) : ma_wp 100 111 [(2, 80), (0, x1), (0, x2), (0, x3)] [(2, 80), (2, 95)] mr_SH M Q ↔ ma_wp 100 114 [(2, 80), (0, x1), (0, x2), (0, x3)] [(2, 82), (2, 95)] mr_SH M Q := by
  rw [x100_111, mf_80_2 hF, ml_80]
  exact ⟨fun h => h.2, fun h => ⟨by decide, h⟩⟩
theorem s100_115 (x1 : Int) (x2 : Int) (x3 : Int) (y0 : Int) (M : ma_M) (Q : Option ma_V → ma_S → ma_M → Prop) : ma_wp 100 115 [(2, 80), (0, x1), (0, x2), (0, x3)] [(0, y0), (2, 82), (2, 95)] mr_SH M Q ↔ (0 ≤ y0 ∧ y0 < 24) ∧ ma_wp 100 116 [(2, 80), (0, x1), (0, x2), (0, x3)] [(0, M 82 y0), (2, 95)] mr_SH M Q := by
  rw [x100_115, ml_82]
theorem s100_117 (x1 : Int) (x2 : Int) (x3 : Int) (y0 : Int) (y1 : Int) (M : ma_M) (Q : Option ma_V → ma_S → ma_M → Prop) : ma_wp 100 117 [(2, 80), (0, x1), (0, x2), (0, x3)] [(0, y0), (0, y1), (2, 95)] mr_SH M Q ↔ ((0 ≤ y1 ∧ y1 < 24) ∧ (y0 = 0 ∨ y0 = 1)) ∧ ma_wp 100 118 [(2, 80), (0, x1), (0, x2), (0, x3)] [] mr_SH (ma_up M 95 y1 y0) Q := by
  rw [x100_117, ml_95]
theorem s100_118 (x1 : Int) (x2 : Int) (x3 : Int) (M : ma_M) (Q : Option ma_V → ma_S → ma_M → Prop) : ma_wp 100 118 [(2, 80), (0, x1), (0, x2), (0, x3)] [] mr_SH M Q ↔ ma_wp 100 119 [(2, 80), (0, x1), (0, x2), (0, x3)] [(2, 80)] mr_SH M Q := by
  rw [x100_118]
  exact ⟨fun h => h.2, fun h => ⟨by decide, h⟩⟩
theorem s100_119 (x1 : Int) (x2 : Int) (x3 : Int) (M : ma_M) (Q : Option ma_V → ma_S → ma_M → Prop) (hF : mr_FIX M) : ma_wp 100 119 [(2, 80), (0, x1), (0, x2), (0, x3)] [(2, 80)] mr_SH M Q ↔ ma_wp 100 122 [(2, 80), (0, x1), (0, x2), (0, x3)] [(2, 81)] mr_SH M Q := by
  rw [x100_119, mf_80_1 hF, ml_80]
  exact ⟨fun h => h.2, fun h => ⟨by decide, h⟩⟩
theorem s100_123 (x1 : Int) (x2 : Int) (x3 : Int) (y0 : Int) (M : ma_M) (Q : Option ma_V → ma_S → ma_M → Prop) : ma_wp 100 123 [(2, 80), (0, x1), (0, x2), (0, x3)] [(0, y0), (2, 81)] mr_SH M Q ↔ (0 ≤ y0 ∧ y0 < 24) ∧ ma_wp 100 124 [(2, 80), (0, x1), (0, x2), (0, x3)] [(0, M 81 y0)] mr_SH M Q := by
  rw [x100_123, ml_81]
theorem s100_129 (x1 : Int) (x2 : Int) (x3 : Int) (M : ma_M) (Q : Option ma_V → ma_S → ma_M → Prop) : ma_wp 100 129 [(2, 80), (0, x1), (0, x2), (0, x3)] [] mr_SH M Q ↔ ma_wp 100 130 [(2, 80), (0, x1), (0, x2), (0, x3)] [(2, 80)] mr_SH M Q := by
  rw [x100_129]
  exact ⟨fun h => h.2, fun h => ⟨by decide, h⟩⟩
theorem s100_130 (x1 : Int) (x2 : Int) (x3 : Int) (M : ma_M) (Q : Option ma_V → ma_S → ma_M → Prop) (hF : mr_FIX M) : ma_wp 100 130 [(2, 80), (0, x1), (0, x2), (0, x3)] [(2, 80)] mr_SH M Q ↔ ma_wp 100 133 [(2, 80), (0, x1), (0, x2), (0, x3)] [(2, 95)] mr_SH M Q := by
  rw [x100_130, mf_80_17 hF, ml_80]
  exact ⟨fun h => h.2, fun h => ⟨by decide, h⟩⟩
theorem s100_133 (x1 : Int) (x2 : Int) (x3 : Int) (M : ma_M) (Q : Option ma_V → ma_S → ma_M → Prop) : ma_wp 100 133 [(2, 80), (0, x1), (0, x2), (0, x3)] [(2, 95)] mr_SH M Q ↔ ma_wp 100 134 [(2, 80), (0, x1), (0, x2), (0, x3)] [(2, 80), (2, 95)] mr_SH M Q := by
  rw [x100_133]
  exact ⟨fun h => h.2, fun h => ⟨by decide, h⟩⟩
theorem s100_134 (x1 : Int) (x2 : Int) (x3 : Int) (M : ma_M) (Q : Option ma_V → ma_S → ma_M → Prop) (hF : mr_FIX M) : ma_wp 100 134 [(2, 80), (0, x1), (0, x2), (0, x3)] [(2, 80), (2, 95)] mr_SH M Q ↔ ma_wp 100 137 [(2, 80), (0, x1), (0, x2), (0, x3)] [(2, 83), (2, 95)] mr_SH M Q := by
  rw [x100_134, mf_80_3 hF, ml_80]
  exact ⟨fun h => h.2, fun h => ⟨by decide, h⟩⟩
theorem s100_138 (x1 : Int) (x2 : Int) (x3 : Int) (y0 : Int) (M : ma_M) (Q : Option ma_V → ma_S → ma_M → Prop) : ma_wp 100 138 [(2, 80), (0, x1), (0, x2), (0, x3)] [(0, y0), (2, 83), (2, 95)] mr_SH M Q ↔ (0 ≤ y0 ∧ y0 < 24) ∧ ma_wp 100 139 [(2, 80), (0, x1), (0, x2), (0, x3)] [(0, M 83 y0), (2, 95)] mr_SH M Q := by
  rw [x100_138, ml_83]
theorem s100_140 (x1 : Int) (x2 : Int) (x3 : Int) (y0 : Int) (y1 : Int) (M : ma_M) (Q : Option ma_V → ma_S → ma_M → Prop) : ma_wp 100 140 [(2, 80), (0, x1), (0, x2), (0, x3)] [(0, y0), (0, y1), (2, 95)] mr_SH M Q ↔ ((0 ≤ y1 ∧ y1 < 24) ∧ (y0 = 0 ∨ y0 = 1)) ∧ ma_wp 100 141 [(2, 80), (0, x1), (0, x2), (0, x3)] [] mr_SH (ma_up M 95 y1 y0) Q := by
  rw [x100_140, ml_95]
theorem s100_147 (x1 : Int) (x2 : Int) (x3 : Int) (M : ma_M) (Q : Option ma_V → ma_S → ma_M → Prop) : ma_wp 100 147 [(2, 80), (0, x1), (0, x2), (0, x3)] [] mr_SH M Q ↔ ma_wp 100 148 [(2, 80), (0, x1), (0, x2), (0, x3)] [(2, 80)] mr_SH M Q := by
  rw [x100_147]
  exact ⟨fun h => h.2, fun h => ⟨by decide, h⟩⟩
theorem s100_148 (x1 : Int) (x2 : Int) (x3 : Int) (M : ma_M) (Q : Option ma_V → ma_S → ma_M → Prop) (hF : mr_FIX M) : ma_wp 100 148 [(2, 80), (0, x1), (0, x2), (0, x3)] [(2, 80)] mr_SH M Q ↔ ma_wp 100 151 [(2, 80), (0, x1), (0, x2), (0, x3)] [(2, 95)] mr_SH M Q := by
  rw [x100_148, mf_80_17 hF, ml_80]
  exact ⟨fun h => h.2, fun h => ⟨by decide, h⟩⟩
theorem s100_151 (x1 : Int) (x2 : Int) (x3 : Int) (M : ma_M) (Q : Option ma_V → ma_S → ma_M → Prop) : ma_wp 100 151 [(2, 80), (0, x1), (0, x2), (0, x3)] [(2, 95)] mr_SH M Q ↔ ma_wp 100 152 [(2, 80), (0, x1), (0, x2), (0, x3)] [(2, 80), (2, 95)] mr_SH M Q := by
  rw [x100_151]
  exact ⟨fun h => h.2, fun h => ⟨by decide, h⟩⟩
theorem s100_152 (x1 : Int) (x2 : Int) (x3 : Int) (M : ma_M) (Q : Option ma_V → ma_S → ma_M → Prop) (hF : mr_FIX M) : ma_wp 100 152 [(2, 80), (0, x1), (0, x2), (0, x3)] [(2, 80), (2, 95)] mr_SH M Q ↔ ma_wp 100 155 [(2, 80), (0, x1), (0, x2), (0, x3)] [(2, 85), (2, 95)] mr_SH M Q := by
  rw [x100_152, mf_80_6 hF, ml_80]
  exact ⟨fun h => h.2, fun h => ⟨by decide, h⟩⟩
theorem s100_156 (x1 : Int) (x2 : Int) (x3 : Int) (y0 : Int) (M : ma_M) (Q : Option ma_V → ma_S → ma_M → Prop) : ma_wp 100 156 [(2, 80), (0, x1), (0, x2), (0, x3)] [(0, y0), (2, 85), (2, 95)] mr_SH M Q ↔ (0 ≤ y0 ∧ y0 < 5) ∧ ma_wp 100 157 [(2, 80), (0, x1), (0, x2), (0, x3)] [(0, M 85 y0), (2, 95)] mr_SH M Q := by
  rw [x100_156, ml_85]
theorem s100_157 (x1 : Int) (x2 : Int) (x3 : Int) (y0 : Int) (M : ma_M) (Q : Option ma_V → ma_S → ma_M → Prop) : ma_wp 100 157 [(2, 80), (0, x1), (0, x2), (0, x3)] [(0, y0), (2, 95)] mr_SH M Q ↔ (0 ≤ y0 ∧ y0 < 24) ∧ ma_wp 100 158 [(2, 80), (0, x1), (0, x2), (0, x3)] [(0, M 95 y0)] mr_SH M Q := by
  rw [x100_157, ml_95]
theorem s101_7 (x1 : Int) (x2 : Int) (x3 : Int) (x4 : Int) (a5 : ma_V) (a6 : ma_V) (y0 : Int) (M : ma_M) (Q : Option ma_V → ma_S → ma_M → Prop) : ma_wp 101 7 [(2, 80), (0, x1), (0, x2), (0, x3), (0, x4), a5, a6] [(0, y0)] mr_SH M Q ↔ ma_wp 101 8 [(2, 80), (0, x1), (0, x2), (0, x3), (0, x4), a5, a6] [(2, 80), (0, y0)] mr_SH M Q := by
  rw [x101_7]
  exact ⟨fun h => h.2, fun h => ⟨by decide, h⟩⟩
theorem s101_8 (x1 : Int) (x2 : Int) (x3 : Int) (x4 : Int) (a5 : ma_V) (a6 : ma_V) (y1 : Int) (M : ma_M) (Q : Option ma_V → ma_S → ma_M → Prop) : ma_wp 101 8 [(2, 80), (0, x1), (0, x2), (0, x3), (0, x4), a5, a6] [(2, 80), (0, y1)] mr_SH M Q ↔ ma_wp 101 11 [(2, 80), (0, x1), (0, x2), (0, x3), (0, x4), a5, a6] [(0, M 80 9), (0, y1)] mr_SH M Q := by
  rw [x101_8, ml_80]
  exact ⟨fun h => h.2, fun h => ⟨by decide, h⟩⟩
theorem s101_14 (x1 : Int) (x2 : Int) (x3 : Int) (x4 : Int) (a5 : ma_V) (a6 : ma_V) (M : ma_M) (Q : Option ma_V → ma_S → ma_M → Prop) : ma_wp 101 14 [(2, 80), (0, x1), (0, x2), (0, x3), (0, x4), a5, a6] [] mr_SH M Q ↔ ma_wp 101 15 [(2, 80), (0, x1), (0, x2), (0, x3), (0, x4), a5, a6] [(2, 80)] mr_SH M Q := by
  rw [x101_14]
  exact ⟨fun h => h.2, fun h => ⟨by decide, h⟩⟩
theorem s101_18 (x1 : Int) (x2 : Int) (x3 : Int) (x4 : Int) (a5 : ma_V) (a6 : ma_V) (y0 : Int) (y1 : Int) (M : ma_M) (Q : Option ma_V → ma_S → ma_M → Prop) : ma_wp 101 18 [(2, 80), (0, x1), (0, x2), (0, x3), (0, x4), a5, a6] [(0, y0), (0, y1), (2, 80)] mr_SH M Q ↔ mr_do 100 [(2, 80), (0, y1), (0, y0)] mr_SH M (fun r sh M => ma_wp 101 21 [(2, 80), (0, x1), (0, x2), (0, x3), (0, x4), a5, a6] (r.toList ++ []) sh M Q) := by
  rw [x101_18, ml_80]
  exact ⟨fun h => h.2, fun h => ⟨by decide, h⟩⟩
theorem s101_23 (x1 : Int) (x2 : Int) (x3 : Int) (x4 : Int) (x5 : Int) (a6 : ma_V) (M : ma_M) (Q : Option ma_V → ma_S → ma_M → Prop) : ma_wp 101 23 [(2, 80), (0, x1), (0, x2), (0, x3), (0, x4), (0, x5), a6] [] mr_SH M Q ↔ ma_wp 101 24 [(2, 80), (0, x1), (0, x2), (0, x3), (0, x4), (0, x5), a6] [(2, 80)] mr_SH M Q := by
  rw [x101_23]
  exact ⟨fun h => h.2, fun h => ⟨by decide, h⟩⟩
theorem s101_27 (x1 : Int) (x2 : Int) (x3 : Int) (x4 : Int) (x5 : Int) (a6 : ma_V) (y0 : Int) (y1 : Int) (M : ma_M) (Q : Option ma_V → ma_S → ma_M → Prop) : ma_wp 101 27 [(2, 80), (0, x1), (0, x2), (0, x3), (0, x4), (0, x5), a6] [(0, y0), (0, y1), (2, 80)] mr_SH M Q ↔ mr_do 100 [(2, 80), (0, y1), (0, y0)] mr_SH M (fun r sh M => ma_wp 101 30 [(2, 80), (0, x1), (0, x2), (0, x3), (0, x4), (0, x5), a6] (r.toList ++ []) sh M Q) := by
  rw [x101_27, ml_80]
  exact ⟨fun h => h.2, fun h => ⟨by decide, h⟩⟩
theorem s102_3 (x1 : Int) (a2 : ma_V) (a3 : ma_V) (a4 : ma_V) (y0 : Int) (M : ma_M) (Q : Option ma_V → ma_S → ma_M → Prop) : ma_wp 102 3 [(2, 80), (0, x1), a2, a3, a4] [(0, y0)] mr_SH M Q ↔ ma_wp 102 4 [(2, 80), (0, x1), a2, a3, a4] [(2, 80), (0, y0)] mr_SH M Q := by
  rw [x102_3]
  exact ⟨fun h => h.2, fun h => ⟨by decide, h⟩⟩
theorem s102_4 (x1 : Int) (a2 : ma_V) (a3 : ma_V) (a4 : ma_V) (y1 : Int) (M : ma_M) (Q : Option ma_V → ma_S → ma_M → Prop) : ma_wp 102 4 [(2, 80), (0, x1), a2, a3, a4] [(2, 80), (0, y1)] mr_SH M Q ↔ ma_wp 102 7 [(2, 80), (0, x1), a2, a3, a4] [(0, M 80 5), (0, y1)] mr_SH M Q := by
  rw [x102_4, ml_80]
  exact ⟨fun h => h.2, fun h => ⟨by decide, h⟩⟩
theorem s102_41 (x1 : Int) (x2 : Int) (x3 : Int) (x4 : Int) (M : ma_M) (Q : Option ma_V → ma_S → ma_M → Prop) : ma_wp 102 41 [(2, 80), (0, x1), (0, x2), (0, x3), (0, x4)] [] mr_SH M Q ↔ ma_wp 102 42 [(2, 80), (0, x1), (0, x2), (0, x3), (0, x4)] [(2, 80)] mr_SH M Q := by
  rw [x102_41]
  exact ⟨fun h => h.2, fun h => ⟨by decide, h⟩⟩
theorem s102_42 (x1 : Int) (x2 : Int) (x3 : Int) (x4 : Int) (M : ma_M) (Q : Option ma_V → ma_S → ma_M → Prop) (hF : mr_FIX M) : ma_wp 102 42 [(2, 80), (0, x1), (0, x2), (0, x3), (0, x4)] [(2, 80)] mr_SH M Q ↔ ma_wp 102 45 [(2, 80), (0, x1), (0, x2), (0, x3), (0, x4)] [(2, 96)] mr_SH M Q := by
  rw [x102_42, mf_80_18 hF, ml_80]
  exact ⟨fun h => h.2, fun h => ⟨by decide, h⟩⟩
theorem s102_47 (x1 : Int) (x2 : Int) (x3 : Int) (x4 : Int) (y0 : Int) (M : ma_M) (Q : Option ma_V → ma_S → ma_M → Prop) : ma_wp 102 47 [(2, 80), (0, x1), (0, x2), (0, x3), (0, x4)] [(0, y0), (2, 96)] mr_SH M Q ↔ (0 ≤ y0 ∧ y0 < 5) ∧ ma_wp 102 48 [(2, 80), (0, x1), (0, x2), (0, x3), (0, x4)] [(0, M 96 y0)] mr_SH M Q := by
  rw [x102_47, ml_96]
theorem s102_52 (x1 : Int) (x2 : Int) (x3 : Int) (x4 : Int) (M : ma_M) (Q : Option ma_V → ma_S → ma_M → Prop) : ma_wp 102 52 [(2, 80), (0, x1), (0, x2), (0, x3), (0, x4)] [] mr_SH M Q ↔ ma_wp 102 53 [(2, 80), (0, x1), (0, x2), (0, x3), (0, x4)] [(2, 80)] mr_SH M Q := by
  rw [x102_52]
  exact ⟨fun h => h.2, fun h => ⟨by decide, h⟩⟩
theorem s102_56 (x1 : Int) (x2 : Int) (x3 : Int) (x4 : Int) (y0 : Int) (y1 : Int) (M : ma_M) (Q : Option ma_V → ma_S → ma_M → Prop) : ma_wp 102 56 [(2, 80), (0, x1), (0, x2), (0, x3), (0, x4)] [(0, y0), (0, y1), (2, 80)] mr_SH M Q ↔ mr_do 101 [(2, 80), (0, y1), (0, y0)] mr_SH M (fun r sh M => ma_wp 102 59 [(2, 80), (0, x1), (0, x2), (0, x3), (0, x4)] (r.toList ++ []) sh M Q) := by
  rw [x102_56, ml_80]
  exact ⟨fun h => h.2, fun h => ⟨by decide, h⟩⟩
theorem s102_77 (x1 : Int) (x2 : Int) (x3 : Int) (a4 : ma_V) (M : ma_M) (Q : Option ma_V → ma_S → ma_M → Prop) : ma_wp 102 77 [(2, 80), (0, x1), (0, x2), (0, x3), a4] [] mr_SH M Q ↔ ma_wp 102 78 [(2, 80), (0, x1), (0, x2), (0, x3), a4] [(2, 80)] mr_SH M Q := by
  rw [x102_77]
  exact ⟨fun h => h.2, fun h => ⟨by decide, h⟩⟩
theorem s102_78 (x1 : Int) (x2 : Int) (x3 : Int) (a4 : ma_V) (M : ma_M) (Q : Option ma_V → ma_S → ma_M → Prop) (hF : mr_FIX M) : ma_wp 102 78 [(2, 80), (0, x1), (0, x2), (0, x3), a4] [(2, 80)] mr_SH M Q ↔ ma_wp 102 81 [(2, 80), (0, x1), (0, x2), (0, x3), a4] [(2, 96)] mr_SH M Q := by
  rw [x102_78, mf_80_18 hF, ml_80]
  exact ⟨fun h => h.2, fun h => ⟨by decide, h⟩⟩
theorem s102_83 (x1 : Int) (x2 : Int) (x3 : Int) (a4 : ma_V) (y0 : Int) (y1 : Int) (M : ma_M) (Q : Option ma_V → ma_S → ma_M → Prop) : ma_wp 102 83 [(2, 80), (0, x1), (0, x2), (0, x3), a4] [(0, y0), (0, y1), (2, 96)] mr_SH M Q ↔ (0 ≤ y1 ∧ y1 < 5) ∧ ma_wp 102 84 [(2, 80), (0, x1), (0, x2), (0, x3), a4] [] mr_SH (ma_up M 96 y1 y0) Q := by
  rw [x102_83, ml_96]
theorem s103_0 (x1 : Int) (M : ma_M) (Q : Option ma_V → ma_S → ma_M → Prop) : ma_wp 103 0 [(2, 80), (0, x1)] [] mr_SH M Q ↔ ma_wp 103 1 [(2, 80), (0, x1)] [(2, 80)] mr_SH M Q := by
  rw [x103_0]
  exact ⟨fun h => h.2, fun h => ⟨by decide, h⟩⟩
theorem s103_2 (x1 : Int) (y0 : Int) (M : ma_M) (Q : Option ma_V → ma_S → ma_M → Prop) : ma_wp 103 2 [(2, 80), (0, x1)] [(0, y0), (2, 80)] mr_SH M Q ↔ mr_do 75 [(2, 80), (0, y0)] mr_SH M (fun r sh M => ma_wp 103 5 [(2, 80), (0, x1)] (r.toList ++ []) sh M Q) := by
  rw [x103_2, ml_80]
  exact ⟨fun h => h.2, fun h => ⟨by decide, h⟩⟩
theorem s103_11 (x1 : Int) (M : ma_M) (Q : Option ma_V → ma_S → ma_M → Prop) : ma_wp 103 11 [(2, 80), (0, x1)] [] mr_SH M Q ↔ ma_wp 103 12 [(2, 80), (0, x1)] [(2, 80)] mr_SH M Q := by
  rw [x103_11]
  exact ⟨fun h => h.2, fun h => ⟨by decide, h⟩⟩
theorem s103_12 (x1 : Int) (M : ma_M) (Q : Option ma_V → ma_S → ma_M → Prop) : ma_wp 103 12 [(2, 80), (0, x1)] [(2, 80)] mr_SH M Q ↔ mr_do 102 [(2, 80)] mr_SH M (fun r sh M => ma_wp 103 15 [(2, 80), (0, x1)] (r.toList ++ []) sh M Q) := by
  rw [x103_12, ml_80]
  exact ⟨fun h => h.2, fun h => ⟨by decide, h⟩⟩
theorem s103_15 (x1 : Int) (M : ma_M) (Q : Option ma_V → ma_S → ma_M → Prop) : ma_wp 103 15 [(2, 80), (0, x1)] [] mr_SH M Q ↔ ma_wp 103 16 [(2, 80), (0, x1)] [(2, 80)] mr_SH M Q := by
  rw [x103_15]
  exact ⟨fun h => h.2, fun h => ⟨by decide, h⟩⟩
theorem s103_16 (x1 : Int) (M : ma_M) (Q : Option ma_V → ma_S → ma_M → Prop) (hF : mr_FIX M) : ma_wp 103 16 [(2, 80), (0, x1)] [(2, 80)] mr_SH M Q ↔ ma_wp 103 19 [(2, 80), (0, x1)] [(2, 96)] mr_SH M Q := by
  rw [x103_16, mf_80_18 hF, ml_80]
  exact ⟨fun h => h.2, fun h => ⟨by decide, h⟩⟩
theorem s103_20 (x1 : Int) (y0 : Int) (M : ma_M) (Q : Option ma_V → ma_S → ma_M → Prop) : ma_wp 103 20 [(2, 80), (0, x1)] [(0, y0), (2, 96)] mr_SH M Q ↔ (0 ≤ y0 ∧ y0 < 5) ∧ ma_wp 103 21 [(2, 80), (0, x1)] [(0, M 96 y0)] mr_SH M Q := by
  rw [x103_20, ml_96]
theorem s104_0 (x1 : Int) (x2 : Int) (x3 : Int) (x4 : Int) (M : ma_M) (Q : Option ma_V → ma_S → ma_M → Prop) : ma_wp 104 0 [(2, 80), (3, x1), (3, x2), (3, x3), (3, x4)] [] mr_SH M Q ↔ ma_wp 104 1 [(2, 80), (3, x1), (3, x2), (3, x3), (3, x4)] [(2, 80)] mr_SH M Q := by
  rw [x104_0]
  exact ⟨fun h => h.2, fun h => ⟨by decide, h⟩⟩
theorem s104_1 (x1 : Int) (x2 : Int) (x3 : Int) (x4 : Int) (M : ma_M) (Q : Option ma_V → ma_S → ma_M → Prop) : ma_wp 104 1 [(2, 80), (3, x1), (3, x2), (3, x3), (3, x4)] [(2, 80)] mr_SH M Q ↔ mr_do 102 [(2, 80)] mr_SH M (fun r sh M => ma_wp 104 4 [(2, 80), (3, x1), (3, x2), (3, x3), (3, x4)] (r.toList ++ []) sh M Q) := by
  rw [x104_1, ml_80]
  exact ⟨fun h => h.2, fun h => ⟨by decide, h⟩⟩
theorem s104_20 (x1 : Int) (x2 : Int) (x3 : Int) (x4 : Int) (y0 : Int) (M : ma_M) (Q : Option ma_V → ma_S → ma_M → Prop) : ma_wp 104 20 [(2, 80), (0, x1), (0, x2), (0, x3), (0, x4)] [(0, y0)] mr_SH M Q ↔ ma_wp 104 21 [(2, 80), (0, x1), (0, x2), (0, x3), (0, x4)] [(2, 80), (0, y0)] mr_SH M Q := by
  rw [x104_20]
  exact ⟨fun h => h.2, fun h => ⟨by decide, h⟩⟩
theorem s104_21 (x1 : Int) (x2 : Int) (x3 : Int) (x4 : Int) (y1 : Int) (M : ma_M) (Q : Option ma_V → ma_S → ma_M → Prop) : ma_wp 104 21 [(2, 80), (0, x1), (0, x2), (0, x3), (0, x4)] [(2, 80), (0, y1)] mr_SH M Q ↔ ma_wp 104 24 [(2, 80), (0, x1), (0, x2), (0, x3), (0, x4)] [(0, M 80 5), (0, y1)] mr_SH M Q := by
  rw [x104_21, ml_80]
  exact ⟨fun h => h.2, fun h => ⟨by decide, h⟩⟩
theorem s104_31 (x1 : Int) (x2 : Int) (x3 : Int) (x4 : Int) (M : ma_M) (Q : Option ma_V → ma_S → ma_M → Prop) : ma_wp 104 31 [(2, 80), (0, x1), (0, x2), (0, x3), (0, x4)] [] mr_SH M Q ↔ ma_wp 104 32 [(2, 80), (0, x1), (0, x2), (0, x3), (0, x4)] [(2, 80)] mr_SH M Q := by
  rw [x104_31]
  exact ⟨fun h => h.2, fun h => ⟨by decide, h⟩⟩
theorem s104_32 (x1 : Int) (x2 : Int) (x3 : Int) (x4 : Int) (M : ma_M) (Q : Option ma_V → ma_S → ma_M → Prop) (hF : mr_FIX M) : ma_wp 104 32 [(2, 80), (0, x1), (0, x2), (0, x3), (0, x4)] [(2, 80)] mr_SH M Q ↔ ma_wp 104 35 [(2, 80), (0, x1), (0, x2), (0, x3), (0, x4)] [(2, 96)] mr_SH M Q := by
  rw [x104_32, mf_80_18 hF, ml_80]
  exact ⟨fun h => h.2, fun h => ⟨by decide, h⟩⟩
theorem s104_37 (x1 : Int) (x2 : Int) (x3 : Int) (x4 : Int) (y0 : Int) (M : ma_M) (Q : Option ma_V → ma_S → ma_M → Prop) : ma_wp 104 37 [(2, 80), (0, x1), (0, x2), (0, x3), (0, x4)] [(0, y0), (2, 96)] mr_SH M Q ↔ (0 ≤ y0 ∧ y0 < 5) ∧ ma_wp 104 38 [(2, 80), (0, x1), (0, x2), (0, x3), (0, x4)] [(0, M 96 y0)] mr_SH M Q := by
  rw [x104_37, ml_96]
theorem s105_0 (x1 : Int) (M : ma_M) (Q : Option ma_V → ma_S → ma_M → Prop) : ma_wp 105 0 [(2, 80), (0, x1)] [] mr_SH M Q ↔ ma_wp 105 1 [(2, 80), (0, x1)] [(2, 80)] mr_SH M Q := by
  rw [x105_0]
  exact ⟨fun h => h.2, fun h => ⟨by decide, h⟩⟩
theorem s105_1 (x1 : Int) (M : ma_M) (Q : Option ma_V → ma_S → ma_M → Prop) (hF : mr_FIX M) : ma_wp 105 1 [(2, 80), (0, x1)] [(2, 80)] mr_SH M Q ↔ ma_wp 105 4 [(2, 80), (0, x1)] [(2, 97)] mr_SH M Q := by
  rw [x105_1, mf_80_19 hF, ml_80]
  exact ⟨fun h => h.2, fun h => ⟨by decide, h⟩⟩
theorem s105_4 (x1 : Int) (M : ma_M) (Q : Option ma_V → ma_S → ma_M → Prop) : ma_wp 105 4 [(2, 80), (0, x1)] [(2, 97)] mr_SH M Q ↔ ma_wp 105 5 [(2, 80), (0, x1)] [(2, 80), (2, 97)] mr_SH M Q := by
  rw [x105_4]
  exact ⟨fun h => h.2, fun h => ⟨by decide, h⟩⟩
theorem s105_5 (x1 : Int) (M : ma_M) (Q : Option ma_V → ma_S → ma_M → Prop) (hF : mr_FIX M) : ma_wp 105 5 [(2, 80), (0, x1)] [(2, 80), (2, 97)] mr_SH M Q ↔ ma_wp 105 8 [(2, 80), (0, x1)] [(2, 82), (2, 97)] mr_SH M Q := by
  rw [x105_5, mf_80_2 hF, ml_80]
  exact ⟨fun h => h.2, fun h => ⟨by decide, h⟩⟩
theorem s105_9 (x1 : Int) (y0 : Int) (M : ma_M) (Q : Option ma_V → ma_S → ma_M → Prop) : ma_wp 105 9 [(2, 80), (0, x1)] [(0, y0), (2, 82), (2, 97)] mr_SH M Q ↔ (0 ≤ y0 ∧ y0 < 24) ∧ ma_wp 105 10 [(2, 80), (0, x1)] [(0, M 82 y0), (2, 97)] mr_SH M Q := by
  rw [x105_9, ml_82]
theorem s105_10 (x1 : Int) (y0 : Int) (M : ma_M) (Q : Option ma_V → ma_S → ma_M → Prop) : ma_wp 105 10 [(2, 80), (0, x1)] [(0, y0), (2, 97)] mr_SH M Q ↔ (0 ≤ y0 ∧ y0 < 24) ∧ ma_wp 105 11 [(2, 80), (0, x1)] [(0, M 97 y0)] mr_SH M Q := by
  rw [x105_10, ml_97]
theorem s105_14 (x1 : Int) (M : ma_M) (Q : Option ma_V → ma_S → ma_M → Prop) : ma_wp 105 14 [(2, 80), (0, x1)] [] mr_SH M Q ↔ ma_wp 105 15 [(2, 80), (0, x1)] [(2, 80)] mr_SH M Q := by
  rw [x105_14]
  exact ⟨fun h => h.2, fun h => ⟨by decide, h⟩⟩
theorem s105_15 (x1 : Int) (M : ma_M) (Q : Option ma_V → ma_S → ma_M → Prop) (hF : mr_FIX M) : ma_wp 105 15 [(2, 80), (0, x1)] [(2, 80)] mr_SH M Q ↔ ma_wp 105 18 [(2, 80), (0, x1)] [(2, 81)] mr_SH M Q := by
  rw [x105_15, mf_80_1 hF, ml_80]
  exact ⟨fun h => h.2, fun h => ⟨by decide, h⟩⟩
theorem s105_19 (x1 : Int) (y0 : Int) (M : ma_M) (Q : Option ma_V → ma_S → ma_M → Prop) : ma_wp 105 19 [(2, 80), (0, x1)] [(0, y0), (2, 81)] mr_SH M Q ↔ (0 ≤ y0 ∧ y0 < 24) ∧ ma_wp 105 20 [(2, 80), (0, x1)] [(0, M 81 y0)] mr_SH M Q := by
  rw [x105_19, ml_81]
theorem s105_25 (x1 : Int) (M : ma_M) (Q : Option ma_V → ma_S → ma_M → Prop) : ma_wp 105 25 [(2, 80), (0, x1)] [] mr_SH M Q ↔ ma_wp 105 26 [(2, 80), (0, x1)] [(2, 80)] mr_SH M Q := by
  rw [x105_25]
  exact ⟨fun h => h.2, fun h => ⟨by decide, h⟩⟩
theorem s105_26 (x1 : Int) (M : ma_M) (Q : Option ma_V → ma_S → ma_M → Prop) (hF : mr_FIX M) : ma_wp 105 26 [(2, 80), (0, x1)] [(2, 80)] mr_SH M Q ↔ ma_wp 105 29 [(2, 80), (0, x1)] [(2, 97)] mr_SH M Q := by
  rw [x105_26, mf_80_19 hF, ml_80]
  exact ⟨fun h => h.2, fun h => ⟨by decide, h⟩⟩
theorem s105_29 (x1 : Int) (M : ma_M) (Q : Option ma_V → ma_S → ma_M → Prop) : ma_wp 105 29 [(2, 80), (0, x1)] [(2, 97)] mr_SH M Q ↔ ma_wp 105 30 [(2, 80), (0, x1)] [(2, 80), (2, 97)] mr_SH M Q := by
  rw [x105_29]
  exact ⟨fun h => h.2, fun h => ⟨by decide, h⟩⟩
theorem s105_30 (x1 : Int) (M : ma_M) (Q : Option ma_V → ma_S → ma_M → Prop) (hF : mr_FIX M) : ma_wp 105 30 [(2, 80), (0, x1)] [(2, 80), (2, 97)] mr_SH M Q ↔ ma_wp 105 33 [(2, 80), (0, x1)] [(2, 83), (2, 97)] mr_SH M Q := by
  rw [x105_30, mf_80_3 hF, ml_80]
  exact ⟨fun h => h.2, fun h => ⟨by decide, h⟩⟩
theorem s105_34 (x1 : Int) (y0 : Int) (M : ma_M) (Q : Option ma_V → ma_S → ma_M → Prop) : ma_wp 105 34 [(2, 80), (0, x1)] [(0, y0), (2, 83), (2, 97)] mr_SH M Q ↔ (0 ≤ y0 ∧ y0 < 24) ∧ ma_wp 105 35 [(2, 80), (0, x1)] [(0, M 83 y0), (2, 97)] mr_SH M Q := by
  rw [x105_34, ml_83]
theorem s105_35 (x1 : Int) (y0 : Int) (M : ma_M) (Q : Option ma_V → ma_S → ma_M → Prop) : ma_wp 105 35 [(2, 80), (0, x1)] [(0, y0), (2, 97)] mr_SH M Q ↔ (0 ≤ y0 ∧ y0 < 24) ∧ ma_wp 105 36 [(2, 80), (0, x1)] [(0, M 97 y0)] mr_SH M Q := by
  rw [x105_35, ml_97]
theorem s106_0 (x1 : Int) (x2 : Int) (x3 : Int) (x4 : Int) (x5 : Int) (x6 : Int) (x7 : Int) (M : ma_M) (Q : Option ma_V → ma_S → ma_M → Prop) : ma_wp 106 0 [(2, 80), (0, x1), (0, x2), (3, x3), (3, x4), (3, x5), (3, x6), (3, x7)] [] mr_SH M Q ↔ ma_wp 106 1 [(2, 80), (0, x1), (0, x2), (3, x3), (3, x4), (3, x5), (3, x6), (3, x7)] [(2, 80)] mr_SH M Q := by
  rw [x106_0]
  exact ⟨fun h => h.2, fun h => ⟨by decide, h⟩⟩
theorem s106_1 (x1 : Int) (x2 : Int) (x3 : Int) (x4 : Int) (x5 : Int) (x6 : Int) (x7 : Int) (M : ma_M) (Q : Option ma_V → ma_S → ma_M → Prop) (hF : mr_FIX M) : ma_wp 106 1 [(2, 80), (0, x1), (0, x2), (3, x3), (3, x4), (3, x5), (3, x6), (3, x7)] [(2, 80)] mr_SH M Q ↔ ma_wp 106 4 [(2, 80), (0, x1), (0, x2), (3, x3), (3, x4), (3, x5), (3, x6), (3, x7)] [(2, 97)] mr_SH M Q := by
  rw [x106_1, mf_80_19 hF, ml_80]
  exact ⟨fun h => h.2, fun h => ⟨by decide, h⟩⟩
theorem s106_5 (x1 : Int) (x2 : Int) (x3 : Int) (x4 : Int) (x5 : Int) (x6 : Int) (x7 : Int) (y0 : Int) (M : ma_M) (Q : Option ma_V → ma_S → ma_M → Prop) : ma_wp 106 5 [(2, 80), (0, x1), (0, x2), (3, x3), (3, x4), (3, x5), (3, x6), (3, x7)] [(0, y0), (2, 97)] mr_SH M Q ↔ (0 ≤ y0 ∧ y0 < 24) ∧ ma_wp 106 6 [(2, 80), (0, x1), (0, x2), (3, x3), (3, x4), (3, x5), (3, x6), (3, x7)] [(0, M 97 y0)] mr_SH M Q := by
  rw [x106_5, ml_97]
theorem s106_6 (x1 : Int) (x2 : Int) (x3 : Int) (x4 : Int) (x5 : Int) (x6 : Int) (x7 : Int) (y0 : Int) (M : ma_M) (Q : Option ma_V → ma_S → ma_M → Prop) : ma_wp 106 6 [(2, 80), (0, x1), (0, x2), (3, x3), (3, x4), (3, x5), (3, x6), (3, x7)] [(0, y0)] mr_SH M Q ↔ ma_wp 106 7 [(2, 80), (0, x1), (0, x2), (3, x3), (3, x4), (3, x5), (3, x6), (3, x7)] [(2, 80), (0, y0)] mr_SH M Q := by
  rw [x106_6]
  exact ⟨fun h => h.2, fun h => ⟨by decide, h⟩⟩
theorem s106_7 (x1 : Int) (x2 : Int) (x3 : Int) (x4 : Int) (x5 : Int) (x6 : Int) (x7 : Int) (y1 : Int) (M : ma_M) (Q : Option ma_V → ma_S → ma_M → Prop) (hF : mr_FIX M) : ma_wp 106 7 [(2, 80), (0, x1), (0, x2), (3, x3), (3, x4), (3, x5), (3, x6), (3, x7)] [(2, 80), (0, y1)] mr_SH M Q ↔ ma_wp 106 10 [(2, 80), (0, x1), (0, x2), (3, x3), (3, x4), (3, x5), (3, x6), (3, x7)] [(2, 97), (0, y1)] mr_SH M Q := by
  rw [x106_7, mf_80_19 hF, ml_80]
  exact ⟨fun h => h.2, fun h => ⟨by decide, h⟩⟩
theorem s106_11 (x1 : Int) (x2 : Int) (x3 : Int) (x4 : Int) (x5 : Int) (x6 : Int) (x7 : Int) (y0 : Int) (y2 : Int) (M : ma_M) (Q : Option ma_V → ma_S → ma_M → Prop) : ma_wp 106 11 [(2, 80), (0, x1), (0, x2), (3, x3), (3, x4), (3, x5), (3, x6), (3, x7)] [(0, y0), (2, 97), (0, y2)] mr_SH M Q ↔ (0 ≤ y0 ∧ y0 < 24) ∧ ma_wp 106 12 [(2, 80), (0, x1), (0, x2), (3, x3), (3, x4), (3, x5), (3, x6), (3, x7)] [(0, M 97 y0), (0, y2)] mr_SH M Q := by
  rw [x106_11, ml_97]
theorem s106_17 (x1 : Int) (x2 : Int) (x3 : Int) (x4 : Int) (x5 : Int) (x6 : Int) (x7 : Int) (M : ma_M) (Q : Option ma_V → ma_S → ma_M → Prop) : ma_wp 106 17 [(2, 80), (0, x1), (0, x2), (3, x3), (3, x4), (3, x5), (3, x6), (3, x7)] [] mr_SH M Q ↔ ma_wp 106 18 [(2, 80), (0, x1), (0, x2), (3, x3), (3, x4), (3, x5), (3, x6), (3, x7)] [(2, 80)] mr_SH M Q := by
  rw [x106_17]
  exact ⟨fun h => h.2, fun h => ⟨by decide, h⟩⟩
theorem s106_18 (x1 : Int) (x2 : Int) (x3 : Int) (x4 : Int) (x5 : Int) (x6 : Int) (x7 : Int) (M : ma_M) (Q : Option ma_V → ma_S → ma_M → Prop) (hF : mr_FIX M) : ma_wp 106 18 [(2, 80), (0, x1), (0, x2), (3, x3), (3, x4), (3, x5), (3, x6), (3, x7)] [(2, 80)] mr_SH M Q ↔ ma_wp 106 21 [(2, 80), (0, x1), (0, x2), (3, x3), (3, x4), (3, x5), (3, x6), (3, x7)] [(2, 97)] mr_SH M Q := by
  rw [x106_18, mf_80_19 hF, ml_80]
  exact ⟨fun h => h.2, fun h => ⟨by decide, h⟩⟩
theorem s106_22 (x1 : Int) (x2 : Int) (x3 : Int) (x4 : Int) (x5 : Int) (x6 : Int) (x7 : Int) (y0 : Int) (M : ma_M) (Q : Option ma_V → ma_S → ma_M → Prop) : ma_wp 106 22 [(2, 80), (0, x1), (0, x2), (3, x3), (3, x4), (3, x5), (3, x6), (3, x7)] [(0, y0), (2, 97)] mr_SH M Q ↔ (0 ≤ y0 ∧ y0 < 24) ∧ ma_wp 106 23 [(2, 80), (0, x1), (0, x2), (3, x3), (3, x4), (3, x5), (3, x6), (3, x7)] [(0, M 97 y0)] mr_SH M Q := by
  rw [x106_22, ml_97]
theorem s106_26 (x1 : Int) (x2 : Int) (x3 : Int) (x4 : Int) (x5 : Int) (x6 : Int) (x7 : Int) (M : ma_M) (Q : Option ma_V → ma_S → ma_M → Prop) : ma_wp 106 26 [(2, 80), (0, x1), (0, x2), (3, x3), (3, x4), (3, x5), (3, x6), (3, x7)] [] mr_SH M Q ↔ ma_wp 106 27 [(2, 80), (0, x1), (0, x2), (3, x3), (3, x4), (3, x5), (3, x6), (3, x7)] [(2, 80)] mr_SH M Q := by
  rw [x106_26]
  exact ⟨fun h => h.2, fun h => ⟨by decide, h⟩⟩
theorem s106_27 (x1 : Int) (x2 : Int) (x3 : Int) (x4 : Int) (x5 : Int) (x6 : Int) (x7 : Int) (M : ma_M) (Q : Option ma_V → ma_S → ma_M → Prop) (hF : mr_FIX M) : ma_wp 106 27 [(2, 80), (0, x1), (0, x2), (3, x3), (3, x4), (3, x5), (3, x6), (3, x7)] [(2, 80)] mr_SH M Q ↔ ma_wp 106 30 [(2, 80), (0, x1), (0, x2), (3, x3), (3, x4), (3, x5), (3, x6), (3, x7)] [(2, 91)] mr_SH M Q := by
  rw [x106_27, mf_80_13 hF, ml_80]
  exact ⟨fun h => h.2, fun h => ⟨by decide, h⟩⟩
theorem s106_34 (x1 : Int) (x2 : Int) (x3 : Int) (x4 : Int) (x5 : Int) (x6 : Int) (x7 : Int) (y0 : Int) (M : ma_M) (Q : Option ma_V → ma_S → ma_M → Prop) : ma_wp 106 34 [(2, 80), (0, x1), (0, x2), (3, x3), (3, x4), (3, x5), (3, x6), (3, x7)] [(0, y0), (2, 91)] mr_SH M Q ↔ (0 ≤ y0 ∧ y0 < 216) ∧ ma_wp 106 35 [(2, 80), (0, x1), (0, x2), (3, x3), (3, x4), (3, x5), (3, x6), (3, x7)] [(1, M 91 y0)] mr_SH M Q := by
  rw [x106_34, ml_91]
theorem s106_35 (x1 : Int) (x2 : Int) (x3 : Int) (x4 : Int) (x5 : Int) (x6 : Int) (x7 : Int) (y0 : Int) (M : ma_M) (Q : Option ma_V → ma_S → ma_M → Prop) : ma_wp 106 35 [(2, 80), (0, x1), (0, x2), (3, x3), (3, x4), (3, x5), (3, x6), (3, x7)] [(1, y0)] mr_SH M Q ↔ ma_wp 106 36 [(2, 80), (0, x1), (0, x2), (3, x3), (3, x4), (3, x5), (3, x6), (3, x7)] [(2, 80), (1, y0)] mr_SH M Q := by
  rw [x106_35]
  exact ⟨fun h => h.2, fun h => ⟨by decide, h⟩⟩
theorem s106_36 (x1 : Int) (x2 : Int) (x3 : Int) (x4 : Int) (x5 : Int) (x6 : Int) (x7 : Int) (y1 : Int) (M : ma_M) (Q : Option ma_V → ma_S → ma_M → Prop) (hF : mr_FIX M) : ma_wp 106 36 [(2, 80), (0, x1), (0, x2), (3, x3), (3, x4), (3, x5), (3, x6), (3, x7)] [(2, 80), (1, y1)] mr_SH M Q ↔ ma_wp 106 39 [(2, 80), (0, x1), (0, x2), (3, x3), (3, x4), (3, x5), (3, x6), (3, x7)] [(2, 91), (1, y1)] mr_SH M Q := by
  rw [x106_36, mf_80_13 hF, ml_80]
  exact ⟨fun h => h.2, fun h => ⟨by decide, h⟩⟩
theorem s106_43 (x1 : Int) (x2 : Int) (x3 : Int) (x4 : Int) (x5 : Int) (x6 : Int) (x7 : Int) (y0 : Int) (y2 : Int) (M : ma_M) (Q : Option ma_V → ma_S → ma_M → Prop) : ma_wp 106 43 [(2, 80), (0, x1), (0, x2), (3, x3), (3, x4), (3, x5), (3, x6), (3, x7)] [(0, y0), (2, 91), (1, y2)] mr_SH M Q ↔ (0 ≤ y0 ∧ y0 < 216) ∧ ma_wp 106 44 [(2, 80), (0, x1), (0, x2), (3, x3), (3, x4), (3, x5), (3, x6), (3, x7)] [(1, M 91 y0), (1, y2)] mr_SH M Q := by
  rw [x106_43, ml_91]
theorem s106_61 (x1 : Int) (x2 : Int) (x3 : Int) (x4 : Int) (x5 : Int) (x6 : Int) (x7 : Int) (M : ma_M) (Q : Option ma_V → ma_S → ma_M → Prop) : ma_wp 106 61 [(2, 80), (0, x1), (0, x2), (3, x3), (3, x4), (3, x5), (3, x6), (3, x7)] [] mr_SH M Q ↔ ma_wp 106 62 [(2, 80), (0, x1), (0, x2), (3, x3), (3, x4), (3, x5), (3, x6), (3, x7)] [(2, 80)] mr_SH M Q := by
  rw [x106_61]
  exact ⟨fun h => h.2, fun h => ⟨by decide, h⟩⟩
theorem s106_62 (x1 : Int) (x2 : Int) (x3 : Int) (x4 : Int) (x5 : Int) (x6 : Int) (x7 : Int) (M : ma_M) (Q : Option ma_V → ma_S → ma_M → Prop) (hF : mr_FIX M) : ma_wp 106 62 [(2, 80), (0, x1), (0, x2), (3, x3), (3, x4), (3, x5), (3, x6), (3, x7)] [(2, 80)] mr_SH M Q ↔ ma_wp 106 65 [(2, 80), (0, x1), (0, x2), (3, x3), (3, x4), (3, x5), (3, x6), (3, x7)] [(2, 81)] mr_SH M Q := by
  rw [x106_62, mf_80_1 hF, ml_80]
  exact ⟨fun h => h.2, fun h => ⟨by decide, h⟩⟩
theorem s106_66 (x1 : Int) (x2 : Int) (x3 : Int) (x4 : Int) (x5 : Int) (x6 : Int) (x7 : Int) (y0 : Int) (M : ma_M) (Q : Option ma_V → ma_S → ma_M → Prop) : ma_wp 106 66 [(2, 80), (0, x1), (0, x2), (3, x3), (3, x4), (3, x5), (3, x6), (3, x7)] [(0, y0), (2, 81)] mr_SH M Q ↔ (0 ≤ y0 ∧ y0 < 24) ∧ ma_wp 106 67 [(2, 80), (0, x1), (0, x2), (3, x3), (3, x4), (3, x5), (3, x6), (3, x7)] [(0, M 81 y0)] mr_SH M Q := by
  rw [x106_66, ml_81]
theorem s106_67 (x1 : Int) (x2 : Int) (x3 : Int) (x4 : Int) (x5 : Int) (x6 : Int) (x7 : Int) (y0 : Int) (M : ma_M) (Q : Option ma_V → ma_S → ma_M → Prop) : ma_wp 106 67 [(2, 80), (0, x1), (0, x2), (3, x3), (3, x4), (3, x5), (3, x6), (3, x7)] [(0, y0)] mr_SH M Q ↔ ma_wp 106 68 [(2, 80), (0, x1), (0, x2), (3, x3), (3, x4), (3, x5), (3, x6), (3, x7)] [(2, 80), (0, y0)] mr_SH M Q := by
  rw [x106_67]
  exact ⟨fun h => h.2, fun h => ⟨by decide, h⟩⟩
theorem s106_68 (x1 : Int) (x2 : Int) (x3 : Int) (x4 : Int) (x5 : Int) (x6 : Int) (x7 : Int) (y1 : Int) (M : ma_M) (Q : Option ma_V → ma_S → ma_M → Prop) (hF : mr_FIX M) : ma_wp 106 68 [(2, 80), (0, x1), (0, x2), (3, x3), (3, x4), (3, x5), (3, x6), (3, x7)] [(2, 80), (0, y1)] mr_SH M Q ↔ ma_wp 106 71 [(2, 80), (0, x1), (0, x2), (3, x3), (3, x4), (3, x5), (3, x6), (3, x7)] [(2, 81), (0, y1)] mr_SH M Q := by
  rw [x106_68, mf_80_1 hF, ml_80]
  exact ⟨fun h => h.2, fun h => ⟨by decide, h⟩⟩
theorem s106_72 (x1 : Int) (x2 : Int) (x3 : Int) (x4 : Int) (x5 : Int) (x6 : Int) (x7 : Int) (y0 : Int) (y2 : Int) (M : ma_M) (Q : Option ma_V → ma_S → ma_M → Prop) : ma_wp 106 72 [(2, 80), (0, x1), (0, x2), (3, x3), (3, x4), (3, x5), (3, x6), (3, x7)] [(0, y0), (2, 81), (0, y2)] mr_SH M Q ↔ (0 ≤ y0 ∧ y0 < 24) ∧ ma_wp 106 73 [(2, 80), (0, x1), (0, x2), (3, x3), (3, x4), (3, x5), (3, x6), (3, x7)] [(0, M 81 y0), (0, y2)] mr_SH M Q := by
  rw [x106_72, ml_81]
theorem s106_76 (x1 : Int) (x2 : Int) (x3 : Int) (x4 : Int) (x5 : Int) (x6 : Int) (x7 : Int) (M : ma_M) (Q : Option ma_V → ma_S → ma_M → Prop) : ma_wp 106 76 [(2, 80), (0, x1), (0, x2), (3, x3), (3, x4), (3, x5), (3, x6), (3, x7)] [] mr_SH M Q ↔ ma_wp 106 77 [(2, 80), (0, x1), (0, x2), (3, x3), (3, x4), (3, x5), (3, x6), (3, x7)] [(2, 80)] mr_SH M Q := by
  rw [x106_76]
  exact ⟨fun h => h.2, fun h => ⟨by decide, h⟩⟩
theorem s106_77 (x1 : Int) (x2 : Int) (x3 : Int) (x4 : Int) (x5 : Int) (x6 : Int) (x7 : Int) (M : ma_M) (Q : Option ma_V → ma_S → ma_M → Prop) (hF : mr_FIX M) : ma_wp 106 77 [(2, 80), (0, x1), (0, x2), (3, x3), (3, x4), (3, x5), (3, x6), (3, x7)] [(2, 80)] mr_SH M Q ↔ ma_wp 106 80 [(2, 80), (0, x1), (0, x2), (3, x3), (3, x4), (3, x5), (3, x6), (3, x7)] [(2, 81)] mr_SH M Q := by
  rw [x106_77, mf_80_1 hF, ml_80]
  exact ⟨fun h => h.2, fun h => ⟨by decide, h⟩⟩
theorem s106_81 (x1 : Int) (x2 : Int) (x3 : Int) (x4 : Int) (x5 : Int) (x6 : Int) (x7 : Int) (y0 : Int) (M : ma_M) (Q : Option ma_V → ma_S → ma_M → Prop) : ma_wp 106 81 [(2, 80), (0, x1), (0, x2), (3, x3), (3, x4), (3, x5), (3, x6), (3, x7)] [(0, y0), (2, 81)] mr_SH M Q ↔ (0 ≤ y0 ∧ y0 < 24) ∧ ma_wp 106 82 [(2, 80), (0, x1), (0, x2), (3, x3), (3, x4), (3, x5), (3, x6), (3, x7)] [(0, M 81 y0)] mr_SH M Q := by
  rw [x106_81, ml_81]
theorem s106_89 (x1 : Int) (x2 : Int) (x3 : Int) (x4 : Int) (x5 : Int) (x6 : Int) (x7 : Int) (M : ma_M) (Q : Option ma_V → ma_S → ma_M → Prop) : ma_wp 106 89 [(2, 80), (0, x1), (0, x2), (3, x3), (3, x4), (3, x5), (3, x6), (3, x7)] [] mr_SH M Q ↔ ma_wp 106 90 [(2, 80), (0, x1), (0, x2), (3, x3), (3, x4), (3, x5), (3, x6), (3, x7)] [(2, 80)] mr_SH M Q := by
  rw [x106_89]
  exact ⟨fun h => h.2, fun h => ⟨by decide, h⟩⟩
theorem s106_90 (x1 : Int) (x2 : Int) (x3 : Int) (x4 : Int) (x5 : Int) (x6 : Int) (x7 : Int) (M : ma_M) (Q : Option ma_V → ma_S → ma_M → Prop) (hF : mr_FIX M) : ma_wp 106 90 [(2, 80), (0, x1), (0, x2), (3, x3), (3, x4), (3, x5), (3, x6), (3, x7)] [(2, 80)] mr_SH M Q ↔ ma_wp 106 93 [(2, 80), (0, x1), (0, x2), (3, x3), (3, x4), (3, x5), (3, x6), (3, x7)] [(2, 82)] mr_SH M Q := by
  rw [x106_90, mf_80_2 hF, ml_80]
  exact ⟨fun h => h.2, fun h => ⟨by decide, h⟩⟩
theorem s106_94 (x1 : Int) (x2 : Int) (x3 : Int) (x4 : Int) (x5 : Int) (x6 : Int) (x7 : Int) (y0 : Int) (M : ma_M) (Q : Option ma_V → ma_S → ma_M → Prop) : ma_wp 106 94 [(2, 80), (0, x1), (0, x2), (3, x3), (3, x4), (3, x5), (3, x6), (3, x7)] [(0, y0), (2, 82)] mr_SH M Q ↔ (0 ≤ y0 ∧ y0 < 24) ∧ ma_wp 106 95 [(2, 80), (0, x1), (0, x2), (3, x3), (3, x4), (3, x5), (3, x6), (3, x7)] [(0, M 82 y0)] mr_SH M Q := by
  rw [x106_94, ml_82]
theorem s106_96 (x1 : Int) (x2 : Int) (x3 : Int) (x4 : Int) (x5 : Int) (x6 : Int) (x7 : Int) (M : ma_M) (Q : Option ma_V → ma_S → ma_M → Prop) : ma_wp 106 96 [(2, 80), (0, x1), (0, x2), (0, x3), (3, x4), (3, x5), (3, x6), (3, x7)] [] mr_SH M Q ↔ ma_wp 106 97 [(2, 80), (0, x1), (0, x2), (0, x3), (3, x4), (3, x5), (3, x6), (3, x7)] [(2, 80)] mr_SH M Q := by
  rw [x106_96]
  exact ⟨fun h => h.2, fun h => ⟨by decide, h⟩⟩
theorem s106_97 (x1 : Int) (x2 : Int) (x3 : Int) (x4 : Int) (x5 : Int) (x6 : Int) (x7 : Int) (M : ma_M) (Q : Option ma_V → ma_S → ma_M → Prop) (hF : mr_FIX M) : ma_wp 106 97 [(2, 80), (0, x1), (0, x2), (0, x3), (3, x4), (3, x5), (3, x6), (3, x7)] [(2, 80)] mr_SH M Q ↔ ma_wp 106 100 [(2, 80), (0, x1), (0, x2), (0, x3), (3, x4), (3, x5), (3, x6), (3, x7)] [(2, 83)] mr_SH M Q := by
  rw [x106_97, mf_80_3 hF, ml_80]
  exact ⟨fun h => h.2, fun h => ⟨by decide, h⟩⟩
theorem s106_101 (x1 : Int) (x2 : Int) (x3 : Int) (x4 : Int) (x5 : Int) (x6 : Int) (x7 : Int) (y0 : Int) (M : ma_M) (Q : Option ma_V → ma_S → ma_M → Prop) : ma_wp 106 101 [(2, 80), (0, x1), (0, x2), (0, x3), (3, x4), (3, x5), (3, x6), (3, x7)] [(0, y0), (2, 83)] mr_SH M Q ↔ (0 ≤ y0 ∧ y0 < 24) ∧ ma_wp 106 102 [(2, 80), (0, x1), (0, x2), (0, x3), (3, x4), (3, x5), (3, x6), (3, x7)] [(0, M 83 y0)] mr_SH M Q := by
  rw [x106_101, ml_83]
theorem s106_104 (x1 : Int) (x2 : Int) (x3 : Int) (x4 : Int) (x5 : Int) (x6 : Int) (x7 : Int) (M : ma_M) (Q : Option ma_V → ma_S → ma_M → Prop) : ma_wp 106 104 [(2, 80), (0, x1), (0, x2), (0, x3), (0, x4), (3, x5), (3, x6), (3, x7)] [] mr_SH M Q ↔ ma_wp 106 105 [(2, 80), (0, x1), (0, x2), (0, x3), (0, x4), (3, x5), (3, x6), (3, x7)] [(2, 80)] mr_SH M Q := by
  rw [x106_104]
  exact ⟨fun h => h.2, fun h => ⟨by decide, h⟩⟩
theorem s106_105 (x1 : Int) (x2 : Int) (x3 : Int) (x4 : Int) (x5 : Int) (x6 : Int) (x7 : Int) (M : ma_M) (Q : Option ma_V → ma_S → ma_M → Prop) (hF : mr_FIX M) : ma_wp 106 105 [(2, 80), (0, x1), (0, x2), (0, x3), (0, x4), (3, x5), (3, x6), (3, x7)] [(2, 80)] mr_SH M Q ↔ ma_wp 106 108 [(2, 80), (0, x1), (0, x2), (0, x3), (0, x4), (3, x5), (3, x6), (3, x7)] [(2, 82)] mr_SH M Q := by
  rw [x106_105, mf_80_2 hF, ml_80]
  exact ⟨fun h => h.2, fun h => ⟨by decide, h⟩⟩
theorem s106_109 (x1 : Int) (x2 : Int) (x3 : Int) (x4 : Int) (x5 : Int) (x6 : Int) (x7 : Int) (y0 : Int) (M : ma_M) (Q : Option ma_V → ma_S → ma_M → Prop) : ma_wp 106 109 [(2, 80), (0, x1), (0, x2), (0, x3), (0, x4), (3, x5), (3, x6), (3, x7)] [(0, y0), (2, 82)] mr_SH M Q ↔ (0 ≤ y0 ∧ y0 < 24) ∧ ma_wp 106 110 [(2, 80), (0, x1), (0, x2), (0, x3), (0, x4), (3, x5), (3, x6), (3, x7)] [(0, M 82 y0)] mr_SH M Q := by
  rw [x106_109, ml_82]
theorem s106_112 (x1 : Int) (x2 : Int) (x3 : Int) (x4 : Int) (x5 : Int) (x6 : Int) (x7 : Int) (M : ma_M) (Q : Option ma_V → ma_S → ma_M → Prop) : ma_wp 106 112 [(2, 80), (0, x1), (0, x2), (0, x3), (0, x4), (0, x5), (3, x6), (3, x7)] [] mr_SH M Q ↔ ma_wp 106 113 [(2, 80), (0, x1), (0, x2), (0, x3), (0, x4), (0, x5), (3, x6), (3, x7)] [(2, 80)] mr_SH M Q := by
  rw [x106_112]
  exact ⟨fun h => h.2, fun h => ⟨by decide, h⟩⟩
theorem s106_113 (x1 : Int) (x2 : Int) (x3 : Int) (x4 : Int) (x5 : Int) (x6 : Int) (x7 : Int) (M : ma_M) (Q : Option ma_V → ma_S → ma_M → Prop) (hF : mr_FIX M) : ma_wp 106 113 [(2, 80), (0, x1), (0, x2), (0, x3), (0, x4), (0, x5), (3, x6), (3, x7)] [(2, 80)] mr_SH M Q ↔ ma_wp 106 116 [(2, 80), (0, x1), (0, x2), (0, x3), (0, x4), (0, x5), (3, x6), (3, x7)] [(2, 83)] mr_SH M Q := by
  rw [x106_113, mf_80_3 hF, ml_80]
  exact ⟨fun h => h.2, fun h => ⟨by decide, h⟩⟩
theorem s106_117 (x1 : Int) (x2 : Int) (x3 : Int) (x4 : Int) (x5 : Int) (x6 : Int) (x7 : Int) (y0 : Int) (M : ma_M) (Q : Option ma_V → ma_S → ma_M → Prop) : ma_wp 106 117 [(2, 80), (0, x1), (0, x2), (0, x3), (0, x4), (0, x5), (3, x6), (3, x7)] [(0, y0), (2, 83)] mr_SH M Q ↔ (0 ≤ y0 ∧ y0 < 24) ∧ ma_wp 106 118 [(2, 80), (0, x1), (0, x2), (0, x3), (0, x4), (0, x5), (3, x6), (3, x7)] [(0, M 83 y0)] mr_SH M Q := by
  rw [x106_117, ml_83]
theorem s106_120 (x1 : Int) (x2 : Int) (x3 : Int) (x4 : Int) (x5 : Int) (x6 : Int) (x7 : Int) (M : ma_M) (Q : Option ma_V → ma_S → ma_M → Prop) : ma_wp 106 120 [(2, 80), (0, x1), (0, x2), (0, x3), (0, x4), (0, x5), (0, x6), (3, x7)] [] mr_SH M Q ↔ ma_wp 106 121 [(2, 80), (0, x1), (0, x2), (0, x3), (0, x4), (0, x5), (0, x6), (3, x7)] [(2, 80)] mr_SH M Q := by
  rw [x106_120]
  exact ⟨fun h => h.2, fun h => ⟨by decide, h⟩⟩
theorem s106_121 (x1 : Int) (x2 : Int) (x3 : Int) (x4 : Int) (x5 : Int) (x6 : Int) (x7 : Int) (M : ma_M) (Q : Option ma_V → ma_S → ma_M → Prop) (hF : mr_FIX M) : ma_wp 106 121 [(2, 80), (0, x1), (0, x2), (0, x3), (0, x4), (0, x5), (0, x6), (3, x7)] [(2, 80)] mr_SH M Q ↔ ma_wp 106 124 [(2, 80), (0, x1), (0, x2), (0, x3), (0, x4), (0, x5), (0, x6), (3, x7)] [(2, 81)] mr_SH M Q := by
  rw [x106_121, mf_80_1 hF, ml_80]
  exact ⟨fun h => h.2, fun h => ⟨by decide, h⟩⟩
theorem s106_125 (x1 : Int) (x2 : Int) (x3 : Int) (x4 : Int) (x5 : Int) (x6 : Int) (x7 : Int) (y0 : Int) (M : ma_M) (Q : Option ma_V → ma_S → ma_M → Prop) : ma_wp 106 125 [(2, 80), (0, x1), (0, x2), (0, x3), (0, x4), (0, x5), (0, x6), (3, x7)] [(0, y0), (2, 81)] mr_SH M Q ↔ (0 ≤ y0 ∧ y0 < 24) ∧ ma_wp 106 126 [(2, 80), (0, x1), (0, x2), (0, x3), (0, x4), (0, x5), (0, x6), (3, x7)] [(0, M 81 y0)] mr_SH M Q := by
  rw [x106_125, ml_81]
theorem s106_138 (x1 : Int) (x2 : Int) (x3 : Int) (x4 : Int) (x5 : Int) (x6 : Int) (x7 : Int) (M : ma_M) (Q : Option ma_V → ma_S → ma_M → Prop) : ma_wp 106 138 [(2, 80), (0, x1), (0, x2), (0, x3), (0, x4), (0, x5), (0, x6), (3, x7)] [] mr_SH M Q ↔ ma_wp 106 139 [(2, 80), (0, x1), (0, x2), (0, x3), (0, x4), (0, x5), (0, x6), (3, x7)] [(2, 80)] mr_SH M Q := by
  rw [x106_138]
  exact ⟨fun h => h.2, fun h => ⟨by decide, h⟩⟩
theorem s106_139 (x1 : Int) (x2 : Int) (x3 : Int) (x4 : Int) (x5 : Int) (x6 : Int) (x7 : Int) (M : ma_M) (Q : Option ma_V → ma_S → ma_M → Prop) (hF : mr_FIX M) : ma_wp 106 139 [(2, 80), (0, x1), (0, x2), (0, x3), (0, x4), (0, x5), (0, x6), (3, x7)] [(2, 80)] mr_SH M Q ↔ ma_wp 106 142 [(2, 80), (0, x1), (0, x2), (0, x3), (0, x4), (0, x5), (0, x6), (3, x7)] [(2, 98)] mr_SH M Q := by
  rw [x106_139, mf_80_20 hF, ml_80]
  exact ⟨fun h => h.2, fun h => ⟨by decide, h⟩⟩
theorem s106_149 (x1 : Int) (x2 : Int) (x3 : Int) (x4 : Int) (x5 : Int) (x6 : Int) (x7 : Int) (y0 : Int) (M : ma_M) (Q : Option ma_V → ma_S → ma_M → Prop) : ma_wp 106 149 [(2, 80), (0, x1), (0, x2), (0, x3), (0, x4), (0, x5), (0, x6), (3, x7)] [(0, y0), (2, 98)] mr_SH M Q ↔ (0 ≤ y0 ∧ y0 < 576) ∧ ma_wp 106 150 [(2, 80), (0, x1), (0, x2), (0, x3), (0, x4), (0, x5), (0, x6), (3, x7)] [(0, M 98 y0)] mr_SH M Q := by
  rw [x106_149, ml_98]
theorem s106_159 (x1 : Int) (x2 : Int) (x3 : Int) (x4 : Int) (x5 : Int) (x6 : Int) (x7 : Int) (M : ma_M) (Q : Option ma_V → ma_S → ma_M → Prop) : ma_wp 106 159 [(2, 80), (0, x1), (0, x2), (0, x3), (0, x4), (0, x5), (0, x6), (3, x7)] [] mr_SH M Q ↔ ma_wp 106 160 [(2, 80), (0, x1), (0, x2), (0, x3), (0, x4), (0, x5), (0, x6), (3, x7)] [(2, 80)] mr_SH M Q := by
  rw [x106_159]
  exact ⟨fun h => h.2, fun h => ⟨by decide, h⟩⟩
theorem s106_160 (x1 : Int) (x2 : Int) (x3 : Int) (x4 : Int) (x5 : Int) (x6 : Int) (x7 : Int) (M : ma_M) (Q : Option ma_V → ma_S → ma_M → Prop) (hF : mr_FIX M) : ma_wp 106 160 [(2, 80), (0, x1), (0, x2), (0, x3), (0, x4), (0, x5), (0, x6), (3, x7)] [(2, 80)] mr_SH M Q ↔ ma_wp 106 163 [(2, 80), (0, x1), (0, x2), (0, x3), (0, x4), (0, x5), (0, x6), (3, x7)] [(2, 81)] mr_SH M Q := by
  rw [x106_160, mf_80_1 hF, ml_80]
  exact ⟨fun h => h.2, fun h => ⟨by decide, h⟩⟩
theorem s106_164 (x1 : Int) (x2 : Int) (x3 : Int) (x4 : Int) (x5 : Int) (x6 : Int) (x7 : Int) (y0 : Int) (M : ma_M) (Q : Option ma_V → ma_S → ma_M → Prop) : ma_wp 106 164 [(2, 80), (0, x1), (0, x2), (0, x3), (0, x4), (0, x5), (0, x6), (3, x7)] [(0, y0), (2, 81)] mr_SH M Q ↔ (0 ≤ y0 ∧ y0 < 24) ∧ ma_wp 106 165 [(2, 80), (0, x1), (0, x2), (0, x3), (0, x4), (0, x5), (0, x6), (3, x7)] [(0, M 81 y0)] mr_SH M Q := by
  rw [x106_164, ml_81]
theorem s106_168 (x1 : Int) (x2 : Int) (x3 : Int) (x4 : Int) (x5 : Int) (x6 : Int) (x7 : Int) (M : ma_M) (Q : Option ma_V → ma_S → ma_M → Prop) : ma_wp 106 168 [(2, 80), (0, x1), (0, x2), (0, x3), (0, x4), (0, x5), (0, x6), (3, x7)] [] mr_SH M Q ↔ ma_wp 106 169 [(2, 80), (0, x1), (0, x2), (0, x3), (0, x4), (0, x5), (0, x6), (3, x7)] [(2, 80)] mr_SH M Q := by
  rw [x106_168]
  exact ⟨fun h => h.2, fun h => ⟨by decide, h⟩⟩
theorem s106_169 (x1 : Int) (x2 : Int) (x3 : Int) (x4 : Int) (x5 : Int) (x6 : Int) (x7 : Int) (M : ma_M) (Q : Option ma_V → ma_S → ma_M → Prop) (hF : mr_FIX M) : ma_wp 106 169 [(2, 80), (0, x1), (0, x2), (0, x3), (0, x4), (0, x5), (0, x6), (3, x7)] [(2, 80)] mr_SH M Q ↔ ma_wp 106 172 [(2, 80), (0, x1), (0, x2), (0, x3), (0, x4), (0, x5), (0, x6), (3, x7)] [(2, 81)] mr_SH M Q := by
  rw [x106_169, mf_80_1 hF, ml_80]
  exact ⟨fun h => h.2, fun h => ⟨by decide, h⟩⟩
theorem s106_173 (x1 : Int) (x2 : Int) (x3 : Int) (x4 : Int) (x5 : Int) (x6 : Int) (x7 : Int) (y0 : Int) (M : ma_M) (Q : Option ma_V → ma_S → ma_M → Prop) : ma_wp 106 173 [(2, 80), (0, x1), (0, x2), (0, x3), (0, x4), (0, x5), (0, x6), (3, x7)] [(0, y0), (2, 81)] mr_SH M Q ↔ (0 ≤ y0 ∧ y0 < 24) ∧ ma_wp 106 174 [(2, 80), (0, x1), (0, x2), (0, x3), (0, x4), (0, x5), (0, x6), (3, x7)] [(0, M 81 y0)] mr_SH M Q := by
  rw [x106_173, ml_81]
theorem s106_178 (x1 : Int) (x2 : Int) (x3 : Int) (x4 : Int) (x5 : Int) (x6 : Int) (x7 : Int) (M : ma_M) (Q : Option ma_V → ma_S → ma_M → Prop) : ma_wp 106 178 [(2, 80), (0, x1), (0, x2), (0, x3), (0, x4), (0, x5), (0, x6), (3, x7)] [] mr_SH M Q ↔ ma_wp 106 179 [(2, 80), (0, x1), (0, x2), (0, x3), (0, x4), (0, x5), (0, x6), (3, x7)] [(2, 80)] mr_SH M Q := by
  rw [x106_178]
  exact ⟨fun h => h.2, fun h => ⟨by decide, h⟩⟩
theorem s106_179 (x1 : Int) (x2 : Int) (x3 : Int) (x4 : Int) (x5 : Int) (x6 : Int) (x7 : Int) (M : ma_M) (Q : Option ma_V → ma_S → ma_M → Prop) (hF : mr_FIX M) : ma_wp 106 179 [(2, 80), (0, x1), (0, x2), (0, x3), (0, x4), (0, x5), (0, x6), (3, x7)] [(2, 80)] mr_SH M Q ↔ ma_wp 106 182 [(2, 80), (0, x1), (0, x2), (0, x3), (0, x4), (0, x5), (0, x6), (3, x7)] [(2, 81)] mr_SH M Q := by
  rw [x106_179, mf_80_1 hF, ml_80]
  exact ⟨fun h => h.2, fun h => ⟨by decide, h⟩⟩
theorem s106_183 (x1 : Int) (x2 : Int) (x3 : Int) (x4 : Int) (x5 : Int) (x6 : Int) (x7 : Int) (y0 : Int) (M : ma_M) (Q : Option ma_V → ma_S → ma_M → Prop) : ma_wp 106 183 [(2, 80), (0, x1), (0, x2), (0, x3), (0, x4), (0, x5), (0, x6), (3, x7)] [(0, y0), (2, 81)] mr_SH M Q ↔ (0 ≤ y0 ∧ y0 < 24) ∧ ma_wp 106 184 [(2, 80), (0, x1), (0, x2), (0, x3), (0, x4), (0, x5), (0, x6), (3, x7)] [(0, M 81 y0)] mr_SH M Q := by
  rw [x106_183, ml_81]
theorem s106_188 (x1 : Int) (x2 : Int) (x3 : Int) (x4 : Int) (x5 : Int) (x6 : Int) (x7 : Int) (M : ma_M) (Q : Option ma_V → ma_S → ma_M → Prop) : ma_wp 106 188 [(2, 80), (0, x1), (0, x2), (0, x3), (0, x4), (0, x5), (0, x6), (3, x7)] [] mr_SH M Q ↔ ma_wp 106 189 [(2, 80), (0, x1), (0, x2), (0, x3), (0, x4), (0, x5), (0, x6), (3, x7)] [(2, 80)] mr_SH M Q := by
  rw [x106_188]
  exact ⟨fun h => h.2, fun h => ⟨by decide, h⟩⟩
theorem s106_189 (x1 : Int) (x2 : Int) (x3 : Int) (x4 : Int) (x5 : Int) (x6 : Int) (x7 : Int) (M : ma_M) (Q : Option ma_V → ma_S → ma_M → Prop) (hF : mr_FIX M) : ma_wp 106 189 [(2, 80), (0, x1), (0, x2), (0, x3), (0, x4), (0, x5), (0, x6), (3, x7)] [(2, 80)] mr_SH M Q ↔ ma_wp 106 192 [(2, 80), (0, x1), (0, x2), (0, x3), (0, x4), (0, x5), (0, x6), (3, x7)] [(2, 81)] mr_SH M Q := by
  rw [x106_189, mf_80_1 hF, ml_80]
  exact ⟨fun h => h.2, fun h => ⟨by decide, h⟩⟩
theorem s106_193 (x1 : Int) (x2 : Int) (x3 : Int) (x4 : Int) (x5 : Int) (x6 : Int) (x7 : Int) (y0 : Int) (M : ma_M) (Q : Option ma_V → ma_S → ma_M → Prop) : ma_wp 106 193 [(2, 80), (0, x1), (0, x2), (0, x3), (0, x4), (0, x5), (0, x6), (3, x7)] [(0, y0), (2, 81)] mr_SH M Q ↔ (0 ≤ y0 ∧ y0 < 24) ∧ ma_wp 106 194 [(2, 80), (0, x1), (0, x2), (0, x3), (0, x4), (0, x5), (0, x6), (3, x7)] [(0, M 81 y0)] mr_SH M Q := by
  rw [x106_193, ml_81]
theorem s106_205 (x1 : Int) (x2 : Int) (x3 : Int) (x4 : Int) (x5 : Int) (x6 : Int) (x7 : Int) (M : ma_M) (Q : Option ma_V → ma_S → ma_M → Prop) : ma_wp 106 205 [(2, 80), (0, x1), (0, x2), (0, x3), (0, x4), (0, x5), (0, x6), (0, x7)] [] mr_SH M Q ↔ ma_wp 106 206 [(2, 80), (0, x1), (0, x2), (0, x3), (0, x4), (0, x5), (0, x6), (0, x7)] [(2, 80)] mr_SH M Q := by
  rw [x106_205]
  exact ⟨fun h => h.2, fun h => ⟨by decide, h⟩⟩
theorem s106_206 (x1 : Int) (x2 : Int) (x3 : Int) (x4 : Int) (x5 : Int) (x6 : Int) (x7 : Int) (M : ma_M) (Q : Option ma_V → ma_S → ma_M → Prop) (hF : mr_FIX M) : ma_wp 106 206 [(2, 80), (0, x1), (0, x2), (0, x3), (0, x4), (0, x5), (0, x6), (0, x7)] [(2, 80)] mr_SH M Q ↔ ma_wp 106 209 [(2, 80), (0, x1), (0, x2), (0, x3), (0, x4), (0, x5), (0, x6), (0, x7)] [(2, 98)] mr_SH M Q := by
  rw [x106_206, mf_80_20 hF, ml_80]
  exact ⟨fun h => h.2, fun h => ⟨by decide, h⟩⟩
theorem s106_216 (x1 : Int) (x2 : Int) (x3 : Int) (x4 : Int) (x5 : Int) (x6 : Int) (x7 : Int) (y0 : Int) (M : ma_M) (Q : Option ma_V → ma_S → ma_M → Prop) : ma_wp 106 216 [(2, 80), (0, x1), (0, x2), (0, x3), (0, x4), (0, x5), (0, x6), (0, x7)] [(0, y0), (2, 98)] mr_SH M Q ↔ (0 ≤ y0 ∧ y0 < 576) ∧ ma_wp 106 217 [(2, 80), (0, x1), (0, x2), (0, x3), (0, x4), (0, x5), (0, x6), (0, x7)] [(0, M 98 y0)] mr_SH M Q := by
  rw [x106_216, ml_98]
theorem s106_220 (x1 : Int) (x2 : Int) (x3 : Int) (x4 : Int) (x5 : Int) (x6 : Int) (x7 : Int) (M : ma_M) (Q : Option ma_V → ma_S → ma_M → Prop) : ma_wp 106 220 [(2, 80), (0, x1), (0, x2), (0, x3), (0, x4), (0, x5), (0, x6), (0, x7)] [] mr_SH M Q ↔ ma_wp 106 221 [(2, 80), (0, x1), (0, x2), (0, x3), (0, x4), (0, x5), (0, x6), (0, x7)] [(2, 80)] mr_SH M Q := by
  rw [x106_220]
  exact ⟨fun h => h.2, fun h => ⟨by decide, h⟩⟩
theorem s106_221 (x1 : Int) (x2 : Int) (x3 : Int) (x4 : Int) (x5 : Int) (x6 : Int) (x7 : Int) (M : ma_M) (Q : Option ma_V → ma_S → ma_M → Prop) (hF : mr_FIX M) : ma_wp 106 221 [(2, 80), (0, x1), (0, x2), (0, x3), (0, x4), (0, x5), (0, x6), (0, x7)] [(2, 80)] mr_SH M Q ↔ ma_wp 106 224 [(2, 80), (0, x1), (0, x2), (0, x3), (0, x4), (0, x5), (0, x6), (0, x7)] [(2, 98)] mr_SH M Q := by
  rw [x106_221, mf_80_20 hF, ml_80]
  exact ⟨fun h => h.2, fun h => ⟨by decide, h⟩⟩
theorem s106_232 (x1 : Int) (x2 : Int) (x3 : Int) (x4 : Int) (x5 : Int) (x6 : Int) (x7 : Int) (y0 : Int) (M : ma_M) (Q : Option ma_V → ma_S → ma_M → Prop) : ma_wp 106 232 [(2, 80), (0, x1), (0, x2), (0, x3), (0, x4), (0, x5), (0, x6), (0, x7)] [(0, y0), (2, 98)] mr_SH M Q ↔ (0 ≤ y0 ∧ y0 < 576) ∧ ma_wp 106 233 [(2, 80), (0, x1), (0, x2), (0, x3), (0, x4), (0, x5), (0, x6), (0, x7)] [(0, M 98 y0)] mr_SH M Q := by
  rw [x106_232, ml_98]
theorem s106_241 (x1 : Int) (x2 : Int) (x3 : Int) (x4 : Int) (x5 : Int) (x6 : Int) (x7 : Int) (M : ma_M) (Q : Option ma_V → ma_S → ma_M → Prop) : ma_wp 106 241 [(2, 80), (0, x1), (0, x2), (0, x3), (0, x4), (0, x5), (0, x6), (0, x7)] [] mr_SH M Q ↔ ma_wp 106 242 [(2, 80), (0, x1), (0, x2), (0, x3), (0, x4), (0, x5), (0, x6), (0, x7)] [(2, 80)] mr_SH M Q := by
  rw [x106_241]
  exact ⟨fun h => h.2, fun h => ⟨by decide, h⟩⟩
theorem s106_242 (x1 : Int) (x2 : Int) (x3 : Int) (x4 : Int) (x5 : Int) (x6 : Int) (x7 : Int) (M : ma_M) (Q : Option ma_V → ma_S → ma_M → Prop) (hF : mr_FIX M) : ma_wp 106 242 [(2, 80), (0, x1), (0, x2), (0, x3), (0, x4), (0, x5), (0, x6), (0, x7)] [(2, 80)] mr_SH M Q ↔ ma_wp 106 245 [(2, 80), (0, x1), (0, x2), (0, x3), (0, x4), (0, x5), (0, x6), (0, x7)] [(2, 98)] mr_SH M Q := by
  rw [x106_242, mf_80_20 hF, ml_80]
  exact ⟨fun h => h.2, fun h => ⟨by decide, h⟩⟩
theorem s106_252 (x1 : Int) (x2 : Int) (x3 : Int) (x4 : Int) (x5 : Int) (x6 : Int) (x7 : Int) (y0 : Int) (M : ma_M) (Q : Option ma_V → ma_S → ma_M → Prop) : ma_wp 106 252 [(2, 80), (0, x1), (0, x2), (0, x3), (0, x4), (0, x5), (0, x6), (0, x7)] [(0, y0), (2, 98)] mr_SH M Q ↔ (0 ≤ y0 ∧ y0 < 576) ∧ ma_wp 106 253 [(2, 80), (0, x1), (0, x2), (0, x3), (0, x4), (0, x5), (0, x6), (0, x7)] [(0, M 98 y0)] mr_SH M Q := by
  rw [x106_252, ml_98]
theorem s106_256 (x1 : Int) (x2 : Int) (x3 : Int) (x4 : Int) (x5 : Int) (x6 : Int) (x7 : Int) (M : ma_M) (Q : Option ma_V → ma_S → ma_M → Prop) : ma_wp 106 256 [(2, 80), (0, x1), (0, x2), (0, x3), (0, x4), (0, x5), (0, x6), (0, x7)] [] mr_SH M Q ↔ ma_wp 106 257 [(2, 80), (0, x1), (0, x2), (0, x3), (0, x4), (0, x5), (0, x6), (0, x7)] [(2, 80)] mr_SH M Q := by
  rw [x106_256]
  exact ⟨fun h => h.2, fun h => ⟨by decide, h⟩⟩
theorem s106_257 (x1 : Int) (x2 : Int) (x3 : Int) (x4 : Int) (x5 : Int) (x6 : Int) (x7 : Int) (M : ma_M) (Q : Option ma_V → ma_S → ma_M → Prop) (hF : mr_FIX M) : ma_wp 106 257 [(2, 80), (0, x1), (0, x2), (0, x3), (0, x4), (0, x5), (0, x6), (0, x7)] [(2, 80)] mr_SH M Q ↔ ma_wp 106 260 [(2, 80), (0, x1), (0, x2), (0, x3), (0, x4), (0, x5), (0, x6), (0, x7)] [(2, 98)] mr_SH M Q := by
  rw [x106_257, mf_80_20 hF, ml_80]
  exact ⟨fun h => h.2, fun h => ⟨by decide, h⟩⟩
theorem s106_268 (x1 : Int) (x2 : Int) (x3 : Int) (x4 : Int) (x5 : Int) (x6 : Int) (x7 : Int) (y0 : Int) (M : ma_M) (Q : Option ma_V → ma_S → ma_M → Prop) : ma_wp 106 268 [(2, 80), (0, x1), (0, x2), (0, x3), (0, x4), (0, x5), (0, x6), (0, x7)] [(0, y0), (2, 98)] mr_SH M Q ↔ (0 ≤ y0 ∧ y0 < 576) ∧ ma_wp 106 269 [(2, 80), (0, x1), (0, x2), (0, x3), (0, x4), (0, x5), (0, x6), (0, x7)] [(0, M 98 y0)] mr_SH M Q := by
  rw [x106_268, ml_98]
theorem s107_0 (x1 : Int) (x2 : Int) (x3 : Int) (x4 : Int) (M : ma_M) (Q : Option ma_V → ma_S → ma_M → Prop) : ma_wp 107 0 [(2, 80), (3, x1), (3, x2), (3, x3), (3, x4)] [] mr_SH M Q ↔ ma_wp 107 1 [(2, 80), (3, x1), (3, x2), (3, x3), (3, x4)] [(2, 80)] mr_SH M Q := by
  rw [x107_0]
  exact ⟨fun h => h.2, fun h => ⟨by decide, h⟩⟩
theorem s107_4 (x1 : Int) (x2 : Int) (x3 : Int) (x4 : Int) (y0 : Int) (y1 : Int) (y2 : Int) (M : ma_M) (Q : Option ma_V → ma_S → ma_M → Prop) : ma_wp 107 4 [(2, 80), (3, x1), (3, x2), (3, x3), (3, x4)] [(0, y0), (0, y1), (0, y2), (2, 80)] mr_SH M Q ↔ mr_do 85 [(2, 80), (0, y2), (0, y1), (0, y0)] mr_SH M (fun r sh M => ma_wp 107 7 [(2, 80), (3, x1), (3, x2), (3, x3), (3, x4)] (r.toList ++ []) sh M Q) := by
  rw [x107_4, ml_80]
  exact ⟨fun h => h.2, fun h => ⟨by decide, h⟩⟩
theorem s107_7 (x1 : Int) (x2 : Int) (x3 : Int) (x4 : Int) (M : ma_M) (Q : Option ma_V → ma_S → ma_M → Prop) : ma_wp 107 7 [(2, 80), (3, x1), (3, x2), (3, x3), (3, x4)] [] mr_SH M Q ↔ ma_wp 107 8 [(2, 80), (3, x1), (3, x2), (3, x3), (3, x4)] [(2, 80)] mr_SH M Q := by
  rw [x107_7]
  exact ⟨fun h => h.2, fun h => ⟨by decide, h⟩⟩
theorem s107_8 (x1 : Int) (x2 : Int) (x3 : Int) (x4 : Int) (M : ma_M) (Q : Option ma_V → ma_S → ma_M → Prop) : ma_wp 107 8 [(2, 80), (3, x1), (3, x2), (3, x3), (3, x4)] [(2, 80)] mr_SH M Q ↔ mr_do 92 [(2, 80)] mr_SH M (fun r sh M => ma_wp 107 11 [(2, 80), (3, x1), (3, x2), (3, x3), (3, x4)] (r.toList ++ []) sh M Q) := by
  rw [x107_8, ml_80]
  exact ⟨fun h => h.2, fun h => ⟨by decide, h⟩⟩
theorem s107_14 (x1 : Int) (x2 : Int) (x3 : Int) (x4 : Int) (y0 : Int) (M : ma_M) (Q : Option ma_V → ma_S → ma_M → Prop) : ma_wp 107 14 [(2, 80), (0, x1), (3, x2), (3, x3), (3, x4)] [(0, y0)] mr_SH M Q ↔ ma_wp 107 15 [(2, 80), (0, x1), (3, x2), (3, x3), (3, x4)] [(2, 80), (0, y0)] mr_SH M Q := by
  rw [x107_14]
  exact ⟨fun h => h.2, fun h => ⟨by decide, h⟩⟩
theorem s107_15 (x1 : Int) (x2 : Int) (x3 : Int) (x4 : Int) (y1 : Int) (M : ma_M) (Q : Option ma_V → ma_S → ma_M → Prop) : ma_wp 107 15 [(2, 80), (0, x1), (3, x2), (3, x3), (3, x4)] [(2, 80), (0, y1)] mr_SH M Q ↔ ma_wp 107 18 [(2, 80), (0, x1), (3, x2), (3, x3), (3, x4)] [(0, M 80 0), (0, y1)] mr_SH M Q := by
  rw [x107_15, ml_80]
  exact ⟨fun h => h.2, fun h => ⟨by decide, h⟩⟩
theorem s107_21 (x1 : Int) (x2 : Int) (x3 : Int) (x4 : Int) (M : ma_M) (Q : Option ma_V → ma_S → ma_M → Prop) : ma_wp 107 21 [(2, 80), (0, x1), (3, x2), (3, x3), (3, x4)] [] mr_SH M Q ↔ ma_wp 107 22 [(2, 80), (0, x1), (3, x2), (3, x3), (3, x4)] [(2, 80)] mr_SH M Q := by
  rw [x107_21]
  exact ⟨fun h => h.2, fun h => ⟨by decide, h⟩⟩
theorem s107_22 (x1 : Int) (x2 : Int) (x3 : Int) (x4 : Int) (M : ma_M) (Q : Option ma_V → ma_S → ma_M → Prop) (hF : mr_FIX M) : ma_wp 107 22 [(2, 80), (0, x1), (3, x2), (3, x3), (3, x4)] [(2, 80)] mr_SH M Q ↔ ma_wp 107 25 [(2, 80), (0, x1), (3, x2), (3, x3), (3, x4)] [(2, 97)] mr_SH M Q := by
  rw [x107_22, mf_80_19 hF, ml_80]
  exact ⟨fun h => h.2, fun h => ⟨by decide, h⟩⟩
theorem s107_26 (x1 : Int) (x2 : Int) (x3 : Int) (x4 : Int) (y0 : Int) (M : ma_M) (Q : Option ma_V → ma_S → ma_M → Prop) : ma_wp 107 26 [(2, 80), (0, x1), (3, x2), (3, x3), (3, x4)] [(0, y0), (2, 97)] mr_SH M Q ↔ ma_wp 107 27 [(2, 80), (0, x1), (3, x2), (3, x3), (3, x4)] [(2, 80), (0, y0), (2, 97)] mr_SH M Q := by
  rw [x107_26]
  exact ⟨fun h => h.2, fun h => ⟨by decide, h⟩⟩
theorem s107_27 (x1 : Int) (x2 : Int) (x3 : Int) (x4 : Int) (y1 : Int) (M : ma_M) (Q : Option ma_V → ma_S → ma_M → Prop) (hF : mr_FIX M) : ma_wp 107 27 [(2, 80), (0, x1), (3, x2), (3, x3), (3, x4)] [(2, 80), (0, y1), (2, 97)] mr_SH M Q ↔ ma_wp 107 30 [(2, 80), (0, x1), (3, x2), (3, x3), (3, x4)] [(2, 81), (0, y1), (2, 97)] mr_SH M Q := by
  rw [x107_27, mf_80_1 hF, ml_80]
  exact ⟨fun h => h.2, fun h => ⟨by decide, h⟩⟩
theorem s107_31 (x1 : Int) (x2 : Int) (x3 : Int) (x4 : Int) (y0 : Int) (y2 : Int) (M : ma_M) (Q : Option ma_V → ma_S → ma_M → Prop) : ma_wp 107 31 [(2, 80), (0, x1), (3, x2), (3, x3), (3, x4)] [(0, y0), (2, 81), (0, y2), (2, 97)] mr_SH M Q ↔ (0 ≤ y0 ∧ y0 < 24) ∧ ma_wp 107 32 [(2, 80), (0, x1), (3, x2), (3, x3), (3, x4)] [(0, M 81 y0), (0, y2), (2, 97)] mr_SH M Q := by
  rw [x107_31, ml_81]
theorem s107_37 (x1 : Int) (x2 : Int) (x3 : Int) (x4 : Int) (y0 : Int) (M : ma_M) (Q : Option ma_V → ma_S → ma_M → Prop) : ma_wp 107 37 [(2, 80), (0, x1), (3, x2), (3, x3), (3, x4)] [(0, y0), (2, 97)] mr_SH M Q ↔ ma_wp 107 38 [(2, 80), (0, x1), (3, x2), (3, x3), (3, x4)] [(2, 80), (0, y0), (2, 97)] mr_SH M Q := by
  rw [x107_37]
  exact ⟨fun h => h.2, fun h => ⟨by decide, h⟩⟩
theorem s107_38 (x1 : Int) (x2 : Int) (x3 : Int) (x4 : Int) (y1 : Int) (M : ma_M) (Q : Option ma_V → ma_S → ma_M → Prop) (hF : mr_FIX M) : ma_wp 107 38 [(2, 80), (0, x1), (3, x2), (3, x3), (3, x4)] [(2, 80), (0, y1), (2, 97)] mr_SH M Q ↔ ma_wp 107 41 [(2, 80), (0, x1), (3, x2), (3, x3), (3, x4)] [(2, 81), (0, y1), (2, 97)] mr_SH M Q := by
  rw [x107_38, mf_80_1 hF, ml_80]
  exact ⟨fun h => h.2, fun h => ⟨by decide, h⟩⟩
theorem s107_42 (x1 : Int) (x2 : Int) (x3 : Int) (x4 : Int) (y0 : Int) (y2 : Int) (M : ma_M) (Q : Option ma_V → ma_S → ma_M → Prop) : ma_wp 107 42 [(2, 80), (0, x1), (3, x2), (3, x3), (3, x4)] [(0, y0), (2, 81), (0, y2), (2, 97)] mr_SH M Q ↔ (0 ≤ y0 ∧ y0 < 24) ∧ ma_wp 107 43 [(2, 80), (0, x1), (3, x2), (3, x3), (3, x4)] [(0, M 81 y0), (0, y2), (2, 97)] mr_SH M Q := by
  rw [x107_42, ml_81]
theorem s107_48 (x1 : Int) (x2 : Int) (x3 : Int) (x4 : Int) (y0 : Int) (M : ma_M) (Q : Option ma_V → ma_S → ma_M → Prop) : ma_wp 107 48 [(2, 80), (0, x1), (3, x2), (3, x3), (3, x4)] [(0, y0), (2, 97)] mr_SH M Q ↔ ma_wp 107 49 [(2, 80), (0, x1), (3, x2), (3, x3), (3, x4)] [(2, 80), (0, y0), (2, 97)] mr_SH M Q := by
  rw [x107_48]
  exact ⟨fun h => h.2, fun h => ⟨by decide, h⟩⟩
theorem s107_49 (x1 : Int) (x2 : Int) (x3 : Int) (x4 : Int) (y1 : Int) (M : ma_M) (Q : Option ma_V → ma_S → ma_M → Prop) (hF : mr_FIX M) : ma_wp 107 49 [(2, 80), (0, x1), (3, x2), (3, x3), (3, x4)] [(2, 80), (0, y1), (2, 97)] mr_SH M Q ↔ ma_wp 107 52 [(2, 80), (0, x1), (3, x2), (3, x3), (3, x4)] [(2, 93), (0, y1), (2, 97)] mr_SH M Q := by
  rw [x107_49, mf_80_15 hF, ml_80]
  exact ⟨fun h => h.2, fun h => ⟨by decide, h⟩⟩
theorem s107_53 (x1 : Int) (x2 : Int) (x3 : Int) (x4 : Int) (y0 : Int) (y2 : Int) (M : ma_M) (Q : Option ma_V → ma_S → ma_M → Prop) : ma_wp 107 53 [(2, 80), (0, x1), (3, x2), (3, x3), (3, x4)] [(0, y0), (2, 93), (0, y2), (2, 97)] mr_SH M Q ↔ (0 ≤ y0 ∧ y0 < 24) ∧ ma_wp 107 54 [(2, 80), (0, x1), (3, x2), (3, x3), (3, x4)] [(0, M 93 y0), (0, y2), (2, 97)] mr_SH M Q := by
  rw [x107_53, ml_93]
theorem s107_57 (x1 : Int) (x2 : Int) (x3 : Int) (x4 : Int) (y0 : Int) (M : ma_M) (Q : Option ma_V → ma_S → ma_M → Prop) : ma_wp 107 57 [(2, 80), (0, x1), (3, x2), (3, x3), (3, x4)] [(0, y0), (2, 97)] mr_SH M Q ↔ ma_wp 107 58 [(2, 80), (0, x1), (3, x2), (3, x3), (3, x4)] [(2, 80), (0, y0), (2, 97)] mr_SH M Q := by
  rw [x107_57]
  exact ⟨fun h => h.2, fun h => ⟨by decide, h⟩⟩
theorem s107_59 (x1 : Int) (x2 : Int) (x3 : Int) (x4 : Int) (y0 : Int) (y2 : Int) (M : ma_M) (Q : Option ma_V → ma_S → ma_M → Prop) : ma_wp 107 59 [(2, 80), (0, x1), (3, x2), (3, x3), (3, x4)] [(0, y0), (2, 80), (0, y2), (2, 97)] mr_SH M Q ↔ mr_do 105 [(2, 80), (0, y0)] mr_SH M (fun r sh M => ma_wp 107 62 [(2, 80), (0, x1), (3, x2), (3, x3), (3, x4)] (r.toList ++ [(0, y2), (2, 97)]) sh M Q) := by
  rw [x107_59, ml_80]
  exact ⟨fun h => h.2, fun h => ⟨by decide, h⟩⟩
theorem s107_70 (x1 : Int) (x2 : Int) (x3 : Int) (x4 : Int) (y0 : Int) (y1 : Int) (M : ma_M) (Q : Option ma_V → ma_S → ma_M → Prop) : ma_wp 107 70 [(2, 80), (0, x1), (3, x2), (3, x3), (3, x4)] [(0, y0), (0, y1), (2, 97)] mr_SH M Q ↔ ((0 ≤ y1 ∧ y1 < 24) ∧ (y0 = 0 ∨ y0 = 1)) ∧ ma_wp 107 71 [(2, 80), (0, x1), (3, x2), (3, x3), (3, x4)] [] mr_SH (ma_up M 97 y1 y0) Q := by
  rw [x107_70, ml_97]
theorem s107_71 (x1 : Int) (x2 : Int) (x3 : Int) (x4 : Int) (M : ma_M) (Q : Option ma_V → ma_S → ma_M → Prop) : ma_wp 107 71 [(2, 80), (0, x1), (3, x2), (3, x3), (3, x4)] [] mr_SH M Q ↔ ma_wp 107 72 [(2, 80), (0, x1), (3, x2), (3, x3), (3, x4)] [(2, 80)] mr_SH M Q := by
  rw [x107_71]
  exact ⟨fun h => h.2, fun h => ⟨by decide, h⟩⟩
theorem s107_72 (x1 : Int) (x2 : Int) (x3 : Int) (x4 : Int) (M : ma_M) (Q : Option ma_V → ma_S → ma_M → Prop) (hF : mr_FIX M) : ma_wp 107 72 [(2, 80), (0, x1), (3, x2), (3, x3), (3, x4)] [(2, 80)] mr_SH M Q ↔ ma_wp 107 75 [(2, 80), (0, x1), (3, x2), (3, x3), (3, x4)] [(2, 95)] mr_SH M Q := by
  rw [x107_72, mf_80_17 hF, ml_80]
  exact ⟨fun h => h.2, fun h => ⟨by decide, h⟩⟩
theorem s107_77 (x1 : Int) (x2 : Int) (x3 : Int) (x4 : Int) (y0 : Int) (y1 : Int) (M : ma_M) (Q : Option ma_V → ma_S → ma_M → Prop) : ma_wp 107 77 [(2, 80), (0, x1), (3, x2), (3, x3), (3, x4)] [(0, y0), (0, y1), (2, 95)] mr_SH M Q ↔ ((0 ≤ y1 ∧ y1 < 24) ∧ (y0 = 0 ∨ y0 = 1)) ∧ ma_wp 107 78 [(2, 80), (0, x1), (3, x2), (3, x3), (3, x4)] [] mr_SH (ma_up M 95 y1 y0) Q := by
  rw [x107_77, ml_95]
theorem s107_87 (x1 : Int) (a2 : ma_V) (a3 : ma_V) (x4 : Int) (y0 : Int) (M : ma_M) (Q : Option ma_V → ma_S → ma_M → Prop) : ma_wp 107 87 [(2, 80), (0, x1), a2, a3, (3, x4)] [(0, y0)] mr_SH M Q ↔ ma_wp 107 88 [(2, 80), (0, x1), a2, a3, (3, x4)] [(2, 80), (0, y0)] mr_SH M Q := by
  rw [x107_87]
  exact ⟨fun h => h.2, fun h => ⟨by decide, h⟩⟩
theorem s107_88 (x1 : Int) (a2 : ma_V) (a3 : ma_V) (x4 : Int) (y1 : Int) (M : ma_M) (Q : Option ma_V → ma_S → ma_M → Prop) : ma_wp 107 88 [(2, 80), (0, x1), a2, a3, (3, x4)] [(2, 80), (0, y1)] mr_SH M Q ↔ ma_wp 107 91 [(2, 80), (0, x1), a2, a3, (3, x4)] [(0, M 80 0), (0, y1)] mr_SH M Q := by
  rw [x107_88, ml_80]
  exact ⟨fun h => h.2, fun h => ⟨by decide, h⟩⟩
theorem s107_101 (x1 : Int) (x2 : Int) (a3 : ma_V) (x4 : Int) (M : ma_M) (Q : Option ma_V → ma_S → ma_M → Prop) : ma_wp 107 101 [(2, 80), (0, x1), (0, x2), a3, (3, x4)] [] mr_SH M Q ↔ ma_wp 107 102 [(2, 80), (0, x1), (0, x2), a3, (3, x4)] [(2, 80)] mr_SH M Q := by
  rw [x107_101]
  exact ⟨fun h => h.2, fun h => ⟨by decide, h⟩⟩
theorem s107_104 (x1 : Int) (x2 : Int) (a3 : ma_V) (x4 : Int) (y0 : Int) (y1 : Int) (M : ma_M) (Q : Option ma_V → ma_S → ma_M → Prop) : ma_wp 107 104 [(2, 80), (0, x1), (0, x2), a3, (3, x4)] [(0, y0), (0, y1), (2, 80)] mr_SH M Q ↔ mr_do 106 [(2, 80), (0, y1), (0, y0)] mr_SH M (fun r sh M => ma_wp 107 107 [(2, 80), (0, x1), (0, x2), a3, (3, x4)] (r.toList ++ []) sh M Q) := by
  rw [x107_104, ml_80]
  exact ⟨fun h => h.2, fun h => ⟨by decide, h⟩⟩
theorem s107_108 (x1 : Int) (x2 : Int) (x3 : Int) (x4 : Int) (M : ma_M) (Q : Option ma_V → ma_S → ma_M → Prop) : ma_wp 107 108 [(2, 80), (0, x1), (0, x2), (0, x3), (3, x4)] [] mr_SH M Q ↔ ma_wp 107 109 [(2, 80), (0, x1), (0, x2), (0, x3), (3, x4)] [(2, 80)] mr_SH M Q := by
  rw [x107_108]
  exact ⟨fun h => h.2, fun h => ⟨by decide, h⟩⟩
theorem s107_109 (x1 : Int) (x2 : Int) (x3 : Int) (x4 : Int) (M : ma_M) (Q : Option ma_V → ma_S → ma_M → Prop) (hF : mr_FIX M) : ma_wp 107 109 [(2, 80), (0, x1), (0, x2), (0, x3), (3, x4)] [(2, 80)] mr_SH M Q ↔ ma_wp 107 112 [(2, 80), (0, x1), (0, x2), (0, x3), (3, x4)] [(2, 98)] mr_SH M Q := by
  rw [x107_109, mf_80_20 hF, ml_80]
  exact ⟨fun h => h.2, fun h => ⟨by decide, h⟩⟩
theorem s107_119 (x1 : Int) (x2 : Int) (x3 : Int) (x4 : Int) (y0 : Int) (y1 : Int) (M : ma_M) (Q : Option ma_V → ma_S → ma_M → Prop) : ma_wp 107 119 [(2, 80), (0, x1), (0, x2), (0, x3), (3, x4)] [(0, y0), (0, y1), (2, 98)] mr_SH M Q ↔ ((0 ≤ y1 ∧ y1 < 576) ∧ (y0 = 0 ∨ y0 = 1)) ∧ ma_wp 107 120 [(2, 80), (0, x1), (0, x2), (0, x3), (3, x4)] [] mr_SH (ma_up M 98 y1 y0) Q := by
  rw [x107_119, ml_98]
theorem s107_120 (x1 : Int) (x2 : Int) (x3 : Int) (x4 : Int) (M : ma_M) (Q : Option ma_V → ma_S → ma_M → Prop) : ma_wp 107 120 [(2, 80), (0, x1), (0, x2), (0, x3), (3, x4)] [] mr_SH M Q ↔ ma_wp 107 121 [(2, 80), (0, x1), (0, x2), (0, x3), (3, x4)] [(2, 80)] mr_SH M Q := by
  rw [x107_120]
  exact ⟨fun h => h.2, fun h => ⟨by decide, h⟩⟩
theorem s107_121 (x1 : Int) (x2 : Int) (x3 : Int) (x4 : Int) (M : ma_M) (Q : Option ma_V → ma_S → ma_M → Prop) (hF : mr_FIX M) : ma_wp 107 121 [(2, 80), (0, x1), (0, x2), (0, x3), (3, x4)] [(2, 80)] mr_SH M Q ↔ ma_wp 107 124 [(2, 80), (0, x1), (0, x2), (0, x3), (3, x4)] [(2, 98)] mr_SH M Q := by
  rw [x107_121, mf_80_20 hF, ml_80]
  exact ⟨fun h => h.2, fun h => ⟨by decide, h⟩⟩
theorem s107_131 (x1 : Int) (x2 : Int) (x3 : Int) (x4 : Int) (y0 : Int) (y1 : Int) (M : ma_M) (Q : Option ma_V → ma_S → ma_M → Prop) : ma_wp 107 131 [(2, 80), (0, x1), (0, x2), (0, x3), (3, x4)] [(0, y0), (0, y1), (2, 98)] mr_SH M Q ↔ ((0 ≤ y1 ∧ y1 < 576) ∧ (y0 = 0 ∨ y0 = 1)) ∧ ma_wp 107 132 [(2, 80), (0, x1), (0, x2), (0, x3), (3, x4)] [] mr_SH (ma_up M 98 y1 y0) Q := by
  rw [x107_131, ml_98]
theorem s107_147 (x1 : Int) (a2 : ma_V) (a3 : ma_V) (x4 : Int) (y0 : Int) (M : ma_M) (Q : Option ma_V → ma_S → ma_M → Prop) : ma_wp 107 147 [(2, 80), (0, x1), a2, a3, (3, x4)] [(0, y0)] mr_SH M Q ↔ ma_wp 107 148 [(2, 80), (0, x1), a2, a3, (3, x4)] [(2, 80), (0, y0)] mr_SH M Q := by
  rw [x107_147]
  exact ⟨fun h => h.2, fun h => ⟨by decide, h⟩⟩
theorem s107_148 (x1 : Int) (a2 : ma_V) (a3 : ma_V) (x4 : Int) (y1 : Int) (M : ma_M) (Q : Option ma_V → ma_S → ma_M → Prop) : ma_wp 107 148 [(2, 80), (0, x1), a2, a3, (3, x4)] [(2, 80), (0, y1)] mr_SH M Q ↔ ma_wp 107 151 [(2, 80), (0, x1), a2, a3, (3, x4)] [(0, M 80 9), (0, y1)] mr_SH M Q := by
  rw [x107_148, ml_80]
  exact ⟨fun h => h.2, fun h => ⟨by decide, h⟩⟩
theorem s107_154 (x1 : Int) (a2 : ma_V) (a3 : ma_V) (x4 : Int) (M : ma_M) (Q : Option ma_V → ma_S → ma_M → Prop) : ma_wp 107 154 [(2, 80), (0, x1), a2, a3, (3, x4)] [] mr_SH M Q ↔ ma_wp 107 155 [(2, 80), (0, x1), a2, a3, (3, x4)] [(2, 80)] mr_SH M Q := by
  rw [x107_154]
  exact ⟨fun h => h.2, fun h => ⟨by decide, h⟩⟩
theorem s107_155 (x1 : Int) (a2 : ma_V) (a3 : ma_V) (x4 : Int) (M : ma_M) (Q : Option ma_V → ma_S → ma_M → Prop) (hF : mr_FIX M) : ma_wp 107 155 [(2, 80), (0, x1), a2, a3, (3, x4)] [(2, 80)] mr_SH M Q ↔ ma_wp 107 158 [(2, 80), (0, x1), a2, a3, (3, x4)] [(2, 95)] mr_SH M Q := by
  rw [x107_155, mf_80_17 hF, ml_80]
  exact ⟨fun h => h.2, fun h => ⟨by decide, h⟩⟩
theorem s107_158 (x1 : Int) (a2 : ma_V) (a3 : ma_V) (x4 : Int) (M : ma_M) (Q : Option ma_V → ma_S → ma_M → Prop) : ma_wp 107 158 [(2, 80), (0, x1), a2, a3, (3, x4)] [(2, 95)] mr_SH M Q ↔ ma_wp 107 159 [(2, 80), (0, x1), a2, a3, (3, x4)] [(2, 80), (2, 95)] mr_SH M Q := by
  rw [x107_158]
  exact ⟨fun h => h.2, fun h => ⟨by decide, h⟩⟩
theorem s107_159 (x1 : Int) (a2 : ma_V) (a3 : ma_V) (x4 : Int) (M : ma_M) (Q : Option ma_V → ma_S → ma_M → Prop) (hF : mr_FIX M) : ma_wp 107 159 [(2, 80), (0, x1), a2, a3, (3, x4)] [(2, 80), (2, 95)] mr_SH M Q ↔ ma_wp 107 162 [(2, 80), (0, x1), a2, a3, (3, x4)] [(2, 88), (2, 95)] mr_SH M Q := by
  rw [x107_159, mf_80_10 hF, ml_80]
  exact ⟨fun h => h.2, fun h => ⟨by decide, h⟩⟩
theorem s107_163 (x1 : Int) (a2 : ma_V) (a3 : ma_V) (x4 : Int) (y0 : Int) (M : ma_M) (Q : Option ma_V → ma_S → ma_M → Prop) : ma_wp 107 163 [(2, 80), (0, x1), a2, a3, (3, x4)] [(0, y0), (2, 88), (2, 95)] mr_SH M Q ↔ (0 ≤ y0 ∧ y0 < 5) ∧ ma_wp 107 164 [(2, 80), (0, x1), a2, a3, (3, x4)] [(0, M 88 y0), (2, 95)] mr_SH M Q := by
  rw [x107_163, ml_88]
theorem s107_165 (x1 : Int) (a2 : ma_V) (a3 : ma_V) (x4 : Int) (y0 : Int) (y1 : Int) (M : ma_M) (Q : Option ma_V → ma_S → ma_M → Prop) : ma_wp 107 165 [(2, 80), (0, x1), a2, a3, (3, x4)] [(0, y0), (0, y1), (2, 95)] mr_SH M Q ↔ ((0 ≤ y1 ∧ y1 < 24) ∧ (y0 = 0 ∨ y0 = 1)) ∧ ma_wp 107 166 [(2, 80), (0, x1), a2, a3, (3, x4)] [] mr_SH (ma_up M 95 y1 y0) Q := by
  rw [x107_165, ml_95]
theorem s107_172 (x1 : Int) (a2 : ma_V) (a3 : ma_V) (x4 : Int) (M : ma_M) (Q : Option ma_V → ma_S → ma_M → Prop) : ma_wp 107 172 [(2, 80), (0, x1), a2, a3, (3, x4)] [] mr_SH M Q ↔ ma_wp 107 173 [(2, 80), (0, x1), a2, a3, (3, x4)] [(2, 80)] mr_SH M Q := by
  rw [x107_172]
  exact ⟨fun h => h.2, fun h => ⟨by decide, h⟩⟩
theorem s107_173 (x1 : Int) (a2 : ma_V) (a3 : ma_V) (x4 : Int) (M : ma_M) (Q : Option ma_V → ma_S → ma_M → Prop) : ma_wp 107 173 [(2, 80), (0, x1), a2, a3, (3, x4)] [(2, 80)] mr_SH M Q ↔ ma_wp 107 176 [(2, 80), (0, x1), a2, a3, (3, x4)] [(0, M 80 0)] mr_SH M Q := by
  rw [x107_173, ml_80]
  exact ⟨fun h => h.2, fun h => ⟨by decide, h⟩⟩
theorem s107_183 (x1 : Int) (a2 : ma_V) (a3 : ma_V) (x4 : Int) (M : ma_M) (Q : Option ma_V → ma_S → ma_M → Prop) : ma_wp 107 183 [(2, 80), (0, x1), a2, a3, (3, x4)] [] mr_SH M Q ↔ ma_wp 107 184 [(2, 80), (0, x1), a2, a3, (3, x4)] [(2, 80)] mr_SH M Q := by
  rw [x107_183]
  exact ⟨fun h => h.2, fun h => ⟨by decide, h⟩⟩
theorem s107_184 (x1 : Int) (a2 : ma_V) (a3 : ma_V) (x4 : Int) (M : ma_M) (Q : Option ma_V → ma_S → ma_M → Prop) (hF : mr_FIX M) : ma_wp 107 184 [(2, 80), (0, x1), a2, a3, (3, x4)] [(2, 80)] mr_SH M Q ↔ ma_wp 107 187 [(2, 80), (0, x1), a2, a3, (3, x4)] [(2, 95)] mr_SH M Q := by
  rw [x107_184, mf_80_17 hF, ml_80]
  exact ⟨fun h => h.2, fun h => ⟨by decide, h⟩⟩
theorem s107_188 (x1 : Int) (a2 : ma_V) (a3 : ma_V) (x4 : Int) (y0 : Int) (M : ma_M) (Q : Option ma_V → ma_S → ma_M → Prop) : ma_wp 107 188 [(2, 80), (0, x1), a2, a3, (3, x4)] [(0, y0), (2, 95)] mr_SH M Q ↔ (0 ≤ y0 ∧ y0 < 24) ∧ ma_wp 107 189 [(2, 80), (0, x1), a2, a3, (3, x4)] [(0, M 95 y0)] mr_SH M Q := by
  rw [x107_188, ml_95]
theorem s107_192 (x1 : Int) (a2 : ma_V) (a3 : ma_V) (x4 : Int) (M : ma_M) (Q : Option ma_V → ma_S → ma_M → Prop) : ma_wp 107 192 [(2, 80), (0, x1), a2, a3, (3, x4)] [] mr_SH M Q ↔ ma_wp 107 193 [(2, 80), (0, x1), a2, a3, (3, x4)] [(2, 80)] mr_SH M Q := by
  rw [x107_192]
  exact ⟨fun h => h.2, fun h => ⟨by decide, h⟩⟩
theorem s107_193 (x1 : Int) (a2 : ma_V) (a3 : ma_V) (x4 : Int) (M : ma_M) (Q : Option ma_V → ma_S → ma_M → Prop) (hF : mr_FIX M) : ma_wp 107 193 [(2, 80), (0, x1), a2, a3, (3, x4)] [(2, 80)] mr_SH M Q ↔ ma_wp 107 196 [(2, 80), (0, x1), a2, a3, (3, x4)] [(2, 97)] mr_SH M Q := by
  rw [x107_193, mf_80_19 hF, ml_80]
  exact ⟨fun h => h.2, fun h => ⟨by decide, h⟩⟩
theorem s107_197 (x1 : Int) (a2 : ma_V) (a3 : ma_V) (x4 : Int) (y0 : Int) (M : ma_M) (Q : Option ma_V → ma_S → ma_M → Prop) : ma_wp 107 197 [(2, 80), (0, x1), a2, a3, (3, x4)] [(0, y0), (2, 97)] mr_SH M Q ↔ (0 ≤ y0 ∧ y0 < 24) ∧ ma_wp 107 198 [(2, 80), (0, x1), a2, a3, (3, x4)] [(0, M 97 y0)] mr_SH M Q := by
  rw [x107_197, ml_97]
theorem s107_201 (x1 : Int) (a2 : ma_V) (a3 : ma_V) (x4 : Int) (M : ma_M) (Q : Option ma_V → ma_S → ma_M → Prop) : ma_wp 107 201 [(2, 80), (0, x1), a2, a3, (3, x4)] [] mr_SH M Q ↔ ma_wp 107 202 [(2, 80), (0, x1), a2, a3, (3, x4)] [(2, 80)] mr_SH M Q := by
  rw [x107_201]
  exact ⟨fun h => h.2, fun h => ⟨by decide, h⟩⟩
theorem s107_202 (x1 : Int) (a2 : ma_V) (a3 : ma_V) (x4 : Int) (M : ma_M) (Q : Option ma_V → ma_S → ma_M → Prop) (hF : mr_FIX M) : ma_wp 107 202 [(2, 80), (0, x1), a2, a3, (3, x4)] [(2, 80)] mr_SH M Q ↔ ma_wp 107 205 [(2, 80), (0, x1), a2, a3, (3, x4)] [(2, 81)] mr_SH M Q := by
  rw [x107_202, mf_80_1 hF, ml_80]
  exact ⟨fun h => h.2, fun h => ⟨by decide, h⟩⟩
theorem s107_206 (x1 : Int) (a2 : ma_V) (a3 : ma_V) (x4 : Int) (y0 : Int) (M : ma_M) (Q : Option ma_V → ma_S → ma_M → Prop) : ma_wp 107 206 [(2, 80), (0, x1), a2, a3, (3, x4)] [(0, y0), (2, 81)] mr_SH M Q ↔ (0 ≤ y0 ∧ y0 < 24) ∧ ma_wp 107 207 [(2, 80), (0, x1), a2, a3, (3, x4)] [(0, M 81 y0)] mr_SH M Q := by
  rw [x107_206, ml_81]
theorem s107_212 (x1 : Int) (a2 : ma_V) (a3 : ma_V) (x4 : Int) (M : ma_M) (Q : Option ma_V → ma_S → ma_M → Prop) : ma_wp 107 212 [(2, 80), (0, x1), a2, a3, (3, x4)] [] mr_SH M Q ↔ ma_wp 107 213 [(2, 80), (0, x1), a2, a3, (3, x4)] [(2, 80)] mr_SH M Q := by
  rw [x107_212]
  exact ⟨fun h => h.2, fun h => ⟨by decide, h⟩⟩
theorem s107_213 (x1 : Int) (a2 : ma_V) (a3 : ma_V) (x4 : Int) (M : ma_M) (Q : Option ma_V → ma_S → ma_M → Prop) (hF : mr_FIX M) : ma_wp 107 213 [(2, 80), (0, x1), a2, a3, (3, x4)] [(2, 80)] mr_SH M Q ↔ ma_wp 107 216 [(2, 80), (0, x1), a2, a3, (3, x4)] [(2, 95)] mr_SH M Q := by
  rw [x107_213, mf_80_17 hF, ml_80]
  exact ⟨fun h => h.2, fun h => ⟨by decide, h⟩⟩
theorem s107_216 (x1 : Int) (a2 : ma_V) (a3 : ma_V) (x4 : Int) (M : ma_M) (Q : Option ma_V → ma_S → ma_M → Prop) : ma_wp 107 216 [(2, 80), (0, x1), a2, a3, (3, x4)] [(2, 95)] mr_SH M Q ↔ ma_wp 107 217 [(2, 80), (0, x1), a2, a3, (3, x4)] [(2, 80), (2, 95)] mr_SH M Q := by
  rw [x107_216]
  exact ⟨fun h => h.2, fun h => ⟨by decide, h⟩⟩
theorem s107_217 (x1 : Int) (a2 : ma_V) (a3 : ma_V) (x4 : Int) (M : ma_M) (Q : Option ma_V → ma_S → ma_M → Prop) (hF : mr_FIX M) : ma_wp 107 217 [(2, 80), (0, x1), a2, a3, (3, x4)] [(2, 80), (2, 95)] mr_SH M Q ↔ ma_wp 107 220 [(2, 80), (0, x1), a2, a3, (3, x4)] [(2, 82), (2, 95)] mr_SH M Q := by
  rw [x107_217, mf_80_2 hF, ml_80]
  exact ⟨fun h => h.2, fun h => ⟨by decide, h⟩⟩
theorem s107_221 (x1 : Int) (a2 : ma_V) (a3 : ma_V) (x4 : Int) (y0 : Int) (M : ma_M) (Q : Option ma_V → ma_S → ma_M → Prop) : ma_wp 107 221 [(2, 80), (0, x1), a2, a3, (3, x4)] [(0, y0), (2, 82), (2, 95)] mr_SH M Q ↔ (0 ≤ y0 ∧ y0 < 24) ∧ ma_wp 107 222 [(2, 80), (0, x1), a2, a3, (3, x4)] [(0, M 82 y0), (2, 95)] mr_SH M Q := by
  rw [x107_221, ml_82]
theorem s107_223 (x1 : Int) (a2 : ma_V) (a3 : ma_V) (x4 : Int) (y0 : Int) (y1 : Int) (M : ma_M) (Q : Option ma_V → ma_S → ma_M → Prop) : ma_wp 107 223 [(2, 80), (0, x1), a2, a3, (3, x4)] [(0, y0), (0, y1), (2, 95)] mr_SH M Q ↔ ((0 ≤ y1 ∧ y1 < 24) ∧ (y0 = 0 ∨ y0 = 1)) ∧ ma_wp 107 224 [(2, 80), (0, x1), a2, a3, (3, x4)] [] mr_SH (ma_up M 95 y1 y0) Q := by
  rw [x107_223, ml_95]
theorem s107_224 (x1 : Int) (a2 : ma_V) (a3 : ma_V) (x4 : Int) (M : ma_M) (Q : Option ma_V → ma_S → ma_M → Prop) : ma_wp 107 224 [(2, 80), (0, x1), a2, a3, (3, x4)] [] mr_SH M Q ↔ ma_wp 107 225 [(2, 80), (0, x1), a2, a3, (3, x4)] [(2, 80)] mr_SH M Q := by
  rw [x107_224]
  exact ⟨fun h => h.2, fun h => ⟨by decide, h⟩⟩
theorem s107_225 (x1 : Int) (a2 : ma_V) (a3 : ma_V) (x4 : Int) (M : ma_M) (Q : Option ma_V → ma_S → ma_M → Prop) (hF : mr_FIX M) : ma_wp 107 225 [(2, 80), (0, x1), a2, a3, (3, x4)] [(2, 80)] mr_SH M Q ↔ ma_wp 107 228 [(2, 80), (0, x1), a2, a3, (3, x4)] [(2, 81)] mr_SH M Q := by
  rw [x107_225, mf_80_1 hF, ml_80]
  exact ⟨fun h => h.2, fun h => ⟨by decide, h⟩⟩
theorem s107_229 (x1 : Int) (a2 : ma_V) (a3 : ma_V) (x4 : Int) (y0 : Int) (M : ma_M) (Q : Option ma_V → ma_S → ma_M → Prop) : ma_wp 107 229 [(2, 80), (0, x1), a2, a3, (3, x4)] [(0, y0), (2, 81)] mr_SH M Q ↔ (0 ≤ y0 ∧ y0 < 24) ∧ ma_wp 107 230 [(2, 80), (0, x1), a2, a3, (3, x4)] [(0, M 81 y0)] mr_SH M Q := by
  rw [x107_229, ml_81]
theorem s107_235 (x1 : Int) (a2 : ma_V) (a3 : ma_V) (x4 : Int) (M : ma_M) (Q : Option ma_V → ma_S → ma_M → Prop) : ma_wp 107 235 [(2, 80), (0, x1), a2, a3, (3, x4)] [] mr_SH M Q ↔ ma_wp 107 236 [(2, 80), (0, x1), a2, a3, (3, x4)] [(2, 80)] mr_SH M Q := by
  rw [x107_235]
  exact ⟨fun h => h.2, fun h => ⟨by decide, h⟩⟩
theorem s107_236 (x1 : Int) (a2 : ma_V) (a3 : ma_V) (x4 : Int) (M : ma_M) (Q : Option ma_V → ma_S → ma_M → Prop) (hF : mr_FIX M) : ma_wp 107 236 [(2, 80), (0, x1), a2, a3, (3, x4)] [(2, 80)] mr_SH M Q ↔ ma_wp 107 239 [(2, 80), (0, x1), a2, a3, (3, x4)] [(2, 95)] mr_SH M Q := by
  rw [x107_236, mf_80_17 hF, ml_80]
  exact ⟨fun h => h.2, fun h => ⟨by decide, h⟩⟩
theorem s107_239 (x1 : Int) (a2 : ma_V) (a3 : ma_V) (x4 : Int) (M : ma_M) (Q : Option ma_V → ma_S → ma_M → Prop) : ma_wp 107 239 [(2, 80), (0, x1), a2, a3, (3, x4)] [(2, 95)] mr_SH M Q ↔ ma_wp 107 240 [(2, 80), (0, x1), a2, a3, (3, x4)] [(2, 80), (2, 95)] mr_SH M Q := by
  rw [x107_239]
  exact ⟨fun h => h.2, fun h => ⟨by decide, h⟩⟩
theorem s107_240 (x1 : Int) (a2 : ma_V) (a3 : ma_V) (x4 : Int) (M : ma_M) (Q : Option ma_V → ma_S → ma_M → Prop) (hF : mr_FIX M) : ma_wp 107 240 [(2, 80), (0, x1), a2, a3, (3, x4)] [(2, 80), (2, 95)] mr_SH M Q ↔ ma_wp 107 243 [(2, 80), (0, x1), a2, a3, (3, x4)] [(2, 83), (2, 95)] mr_SH M Q := by
  rw [x107_240, mf_80_3 hF, ml_80]
  exact ⟨fun h => h.2, fun h => ⟨by decide, h⟩⟩
theorem s107_244 (x1 : Int) (a2 : ma_V) (a3 : ma_V) (x4 : Int) (y0 : Int) (M : ma_M) (Q : Option ma_V → ma_S → ma_M → Prop) : ma_wp 107 244 [(2, 80), (0, x1), a2, a3, (3, x4)] [(0, y0), (2, 83), (2, 95)] mr_SH M Q ↔ (0 ≤ y0 ∧ y0 < 24) ∧ ma_wp 107 245 [(2, 80), (0, x1), a2, a3, (3, x4)] [(0, M 83 y0), (2, 95)] mr_SH M Q := by
  rw [x107_244, ml_83]
theorem s107_246 (x1 : Int) (a2 : ma_V) (a3 : ma_V) (x4 : Int) (y0 : Int) (y1 : Int) (M : ma_M) (Q : Option ma_V → ma_S → ma_M → Prop) : ma_wp 107 246 [(2, 80), (0, x1), a2, a3, (3, x4)] [(0, y0), (0, y1), (2, 95)] mr_SH M Q ↔ ((0 ≤ y1 ∧ y1 < 24) ∧ (y0 = 0 ∨ y0 = 1)) ∧ ma_wp 107 247 [(2, 80), (0, x1), a2, a3, (3, x4)] [] mr_SH (ma_up M 95 y1 y0) Q := by
  rw [x107_246, ml_95]
theorem s107_258 (x1 : Int) (x2 : Int) (a3 : ma_V) (a4 : ma_V) (y0 : Int) (M : ma_M) (Q : Option ma_V → ma_S → ma_M → Prop) : ma_wp 107 258 [(2, 80), (0, x1), (0, x2), a3, a4] [(0, y0)] mr_SH M Q ↔ ma_wp 107 259 [(2, 80), (0, x1), (0, x2), a3, a4] [(2, 80), (0, y0)] mr_SH M Q := by
  rw [x107_258]
  exact ⟨fun h => h.2, fun h => ⟨by decide, h⟩⟩
theorem s107_259 (x1 : Int) (x2 : Int) (a3 : ma_V) (a4 : ma_V) (y1 : Int) (M : ma_M) (Q : Option ma_V → ma_S → ma_M → Prop) : ma_wp 107 259 [(2, 80), (0, x1), (0, x2), a3, a4] [(2, 80), (0, y1)] mr_SH M Q ↔ ma_wp 107 262 [(2, 80), (0, x1), (0, x2), a3, a4] [(0, M 80 0), (0, y1)] mr_SH M Q := by
  rw [x107_259, ml_80]
  exact ⟨fun h => h.2, fun h => ⟨by decide, h⟩⟩
theorem s107_265 (x1 : Int) (x2 : Int) (a3 : ma_V) (a4 : ma_V) (M : ma_M) (Q : Option ma_V → ma_S → ma_M → Prop) : ma_wp 107 265 [(2, 80), (0, x1), (0, x2), a3, a4] [] mr_SH M Q ↔ ma_wp 107 266 [(2, 80), (0, x1), (0, x2), a3, a4] [(2, 80)] mr_SH M Q := by
  rw [x107_265]
  exact ⟨fun h => h.2, fun h => ⟨by decide, h⟩⟩
theorem s107_266 (x1 : Int) (x2 : Int) (a3 : ma_V) (a4 : ma_V) (M : ma_M) (Q : Option ma_V → ma_S → ma_M → Prop) (hF : mr_FIX M) : ma_wp 107 266 [(2, 80), (0, x1), (0, x2), a3, a4] [(2, 80)] mr_SH M Q ↔ ma_wp 107 269 [(2, 80), (0, x1), (0, x2), a3, a4] [(2, 95)] mr_SH M Q := by
  rw [x107_266, mf_80_17 hF, ml_80]
  exact ⟨fun h => h.2, fun h => ⟨by decide, h⟩⟩
theorem s107_270 (x1 : Int) (x2 : Int) (a3 : ma_V) (a4 : ma_V) (y0 : Int) (M : ma_M) (Q : Option ma_V → ma_S → ma_M → Prop) : ma_wp 107 270 [(2, 80), (0, x1), (0, x2), a3, a4] [(0, y0), (2, 95)] mr_SH M Q ↔ (0 ≤ y0 ∧ y0 < 24) ∧ ma_wp 107 271 [(2, 80), (0, x1), (0, x2), a3, a4] [(0, M 95 y0)] mr_SH M Q := by
  rw [x107_270, ml_95]
theorem s107_285 (x1 : Int) (x2 : Int) (x3 : Int) (x4 : Int) (M : ma_M) (Q : Option ma_V → ma_S → ma_M → Prop) : ma_wp 107 285 [(2, 80), (0, x1), (0, x2), (0, x3), (0, x4)] [] mr_SH M Q ↔ ma_wp 107 286 [(2, 80), (0, x1), (0, x2), (0, x3), (0, x4)] [(2, 80)] mr_SH M Q := by
  rw [x107_285]
  exact ⟨fun h => h.2, fun h => ⟨by decide, h⟩⟩
theorem s107_286 (x1 : Int) (x2 : Int) (x3 : Int) (x4 : Int) (M : ma_M) (Q : Option ma_V → ma_S → ma_M → Prop) (hF : mr_FIX M) : ma_wp 107 286 [(2, 80), (0, x1), (0, x2), (0, x3), (0, x4)] [(2, 80)] mr_SH M Q ↔ ma_wp 107 289 [(2, 80), (0, x1), (0, x2), (0, x3), (0, x4)] [(2, 95)] mr_SH M Q := by
  rw [x107_286, mf_80_17 hF, ml_80]
  exact ⟨fun h => h.2, fun h => ⟨by decide, h⟩⟩
theorem s107_291 (x1 : Int) (x2 : Int) (x3 : Int) (x4 : Int) (y0 : Int) (M : ma_M) (Q : Option ma_V → ma_S → ma_M → Prop) : ma_wp 107 291 [(2, 80), (0, x1), (0, x2), (0, x3), (0, x4)] [(0, y0), (2, 95)] mr_SH M Q ↔ (0 ≤ y0 ∧ y0 < 24) ∧ ma_wp 107 292 [(2, 80), (0, x1), (0, x2), (0, x3), (0, x4)] [(0, M 95 y0)] mr_SH M Q := by
  rw [x107_291, ml_95]
theorem s107_295 (x1 : Int) (x2 : Int) (x3 : Int) (x4 : Int) (M : ma_M) (Q : Option ma_V → ma_S → ma_M → Prop) : ma_wp 107 295 [(2, 80), (0, x1), (0, x2), (0, x3), (0, x4)] [] mr_SH M Q ↔ ma_wp 107 296 [(2, 80), (0, x1), (0, x2), (0, x3), (0, x4)] [(2, 80)] mr_SH M Q := by
  rw [x107_295]
  exact ⟨fun h => h.2, fun h => ⟨by decide, h⟩⟩
theorem s107_296 (x1 : Int) (x2 : Int) (x3 : Int) (x4 : Int) (M : ma_M) (Q : Option ma_V → ma_S → ma_M → Prop) (hF : mr_FIX M) : ma_wp 107 296 [(2, 80), (0, x1), (0, x2), (0, x3), (0, x4)] [(2, 80)] mr_SH M Q ↔ ma_wp 107 299 [(2, 80), (0, x1), (0, x2), (0, x3), (0, x4)] [(2, 98)] mr_SH M Q := by
  rw [x107_296, mf_80_20 hF, ml_80]
  exact ⟨fun h => h.2, fun h => ⟨by decide, h⟩⟩
theorem s107_306 (x1 : Int) (x2 : Int) (x3 : Int) (x4 : Int) (y0 : Int) (M : ma_M) (Q : Option ma_V → ma_S → ma_M → Prop) : ma_wp 107 306 [(2, 80), (0, x1), (0, x2), (0, x3), (0, x4)] [(0, y0), (2, 98)] mr_SH M Q ↔ (0 ≤ y0 ∧ y0 < 576) ∧ ma_wp 107 307 [(2, 80), (0, x1), (0, x2), (0, x3), (0, x4)] [(0, M 98 y0)] mr_SH M Q := by
  rw [x107_306, ml_98]
theorem s108_0 (x1 : Int) (x2 : Int) (x3 : Int) (x4 : Int) (M : ma_M) (Q : Option ma_V → ma_S → ma_M → Prop) : ma_wp 108 0 [(2, 80), (3, x1), (3, x2), (3, x3), (3, x4)] [] mr_SH M Q ↔ ma_wp 108 1 [(2, 80), (3, x1), (3, x2), (3, x3), (3, x4)] [(2, 80)] mr_SH M Q := by
  rw [x108_0]
  exact ⟨fun h => h.2, fun h => ⟨by decide, h⟩⟩
theorem s108_1 (x1 : Int) (x2 : Int) (x3 : Int) (x4 : Int) (M : ma_M) (Q : Option ma_V → ma_S → ma_M → Prop) : ma_wp 108 1 [(2, 80), (3, x1), (3, x2), (3, x3), (3, x4)] [(2, 80)] mr_SH M Q ↔ mr_do 92 [(2, 80)] mr_SH M (fun r sh M => ma_wp 108 4 [(2, 80), (3, x1), (3, x2), (3, x3), (3, x4)] (r.toList ++ []) sh M Q) := by
  rw [x108_1, ml_80]
  exact ⟨fun h => h.2, fun h => ⟨by decide, h⟩⟩
theorem s108_11 (x1 : Int) (x2 : Int) (x3 : Int) (a4 : ma_V) (y0 : Int) (M : ma_M) (Q : Option ma_V → ma_S → ma_M → Prop) : ma_wp 108 11 [(2, 80), (0, x1), (0, x2), (0, x3), a4] [(0, y0)] mr_SH M Q ↔ ma_wp 108 12 [(2, 80), (0, x1), (0, x2), (0, x3), a4] [(2, 80), (0, y0)] mr_SH M Q := by
  rw [x108_11]
  exact ⟨fun h => h.2, fun h => ⟨by decide, h⟩⟩
theorem s108_12 (x1 : Int) (x2 : Int) (x3 : Int) (a4 : ma_V) (y1 : Int) (M : ma_M) (Q : Option ma_V → ma_S → ma_M → Prop) : ma_wp 108 12 [(2, 80), (0, x1), (0, x2), (0, x3), a4] [(2, 80), (0, y1)] mr_SH M Q ↔ ma_wp 108 15 [(2, 80), (0, x1), (0, x2), (0, x3), a4] [(0, M 80 9), (0, y1)] mr_SH M Q := by
  rw [x108_12, ml_80]
  exact ⟨fun h => h.2, fun h => ⟨by decide, h⟩⟩
theorem s108_22 (x1 : Int) (x2 : Int) (x3 : Int) (a4 : ma_V) (M : ma_M) (Q : Option ma_V → ma_S → ma_M → Prop) : ma_wp 108 22 [(2, 80), (0, x1), (0, x2), (0, x3), a4] [] mr_SH M Q ↔ ma_wp 108 23 [(2, 80), (0, x1), (0, x2), (0, x3), a4] [(2, 80)] mr_SH M Q := by
  rw [x108_22]
  exact ⟨fun h => h.2, fun h => ⟨by decide, h⟩⟩
theorem s108_23 (x1 : Int) (x2 : Int) (x3 : Int) (a4 : ma_V) (M : ma_M) (Q : Option ma_V → ma_S → ma_M → Prop) (hF : mr_FIX M) : ma_wp 108 23 [(2, 80), (0, x1), (0, x2), (0, x3), a4] [(2, 80)] mr_SH M Q ↔ ma_wp 108 26 [(2, 80), (0, x1), (0, x2), (0, x3), a4] [(2, 93)] mr_SH M Q := by
  rw [x108_23, mf_80_15 hF, ml_80]
  exact ⟨fun h => h.2, fun h => ⟨by decide, h⟩⟩
theorem s108_26 (x1 : Int) (x2 : Int) (x3 : Int) (a4 : ma_V) (M : ma_M) (Q : Option ma_V → ma_S → ma_M → Prop) : ma_wp 108 26 [(2, 80), (0, x1), (0, x2), (0, x3), a4] [(2, 93)] mr_SH M Q ↔ ma_wp 108 27 [(2, 80), (0, x1), (0, x2), (0, x3), a4] [(2, 80), (2, 93)] mr_SH M Q := by
  rw [x108_26]
  exact ⟨fun h => h.2, fun h => ⟨by decide, h⟩⟩
theorem s108_27 (x1 : Int) (x2 : Int) (x3 : Int) (a4 : ma_V) (M : ma_M) (Q : Option ma_V → ma_S → ma_M → Prop) (hF : mr_FIX M) : ma_wp 108 27 [(2, 80), (0, x1), (0, x2), (0, x3), a4] [(2, 80), (2, 93)] mr_SH M Q ↔ ma_wp 108 30 [(2, 80), (0, x1), (0, x2), (0, x3), a4] [(2, 88), (2, 93)] mr_SH M Q := by
  rw [x108_27, mf_80_10 hF, ml_80]
  exact ⟨fun h => h.2, fun h => ⟨by decide, h⟩⟩
theorem s108_31 (x1 : Int) (x2 : Int) (x3 : Int) (a4 : ma_V) (y0 : Int) (M : ma_M) (Q : Option ma_V → ma_S → ma_M → Prop) : ma_wp 108 31 [(2, 80), (0, x1), (0, x2), (0, x3), a4] [(0, y0), (2, 88), (2, 93)] mr_SH M Q ↔ (0 ≤ y0 ∧ y0 < 5) ∧ ma_wp 108 32 [(2, 80), (0, x1), (0, x2), (0, x3), a4] [(0, M 88 y0), (2, 93)] mr_SH M Q := by
  rw [x108_31, ml_88]
theorem s108_32 (x1 : Int) (x2 : Int) (x3 : Int) (a4 : ma_V) (y0 : Int) (M : ma_M) (Q : Option ma_V → ma_S → ma_M → Prop) : ma_wp 108 32 [(2, 80), (0, x1), (0, x2), (0, x3), a4] [(0, y0), (2, 93)] mr_SH M Q ↔ (0 ≤ y0 ∧ y0 < 24) ∧ ma_wp 108 33 [(2, 80), (0, x1), (0, x2), (0, x3), a4] [(0, M 93 y0)] mr_SH M Q := by
  rw [x108_32, ml_93]
theorem s108_46 (x1 : Int) (x2 : Int) (x3 : Int) (a4 : ma_V) (M : ma_M) (Q : Option ma_V → ma_S → ma_M → Prop) : ma_wp 108 46 [(2, 80), (0, x1), (0, x2), (0, x3), a4] [] mr_SH M Q ↔ ma_wp 108 47 [(2, 80), (0, x1), (0, x2), (0, x3), a4] [(2, 80)] mr_SH M Q := by
  rw [x108_46]
  exact ⟨fun h => h.2, fun h => ⟨by decide, h⟩⟩
theorem s108_47 (x1 : Int) (x2 : Int) (x3 : Int) (a4 : ma_V) (M : ma_M) (Q : Option ma_V → ma_S → ma_M → Prop) (hF : mr_FIX M) : ma_wp 108 47 [(2, 80), (0, x1), (0, x2), (0, x3), a4] [(2, 80)] mr_SH M Q ↔ ma_wp 108 50 [(2, 80), (0, x1), (0, x2), (0, x3), a4] [(2, 94)] mr_SH M Q := by
  rw [x108_47, mf_80_16 hF, ml_80]
  exact ⟨fun h => h.2, fun h => ⟨by decide, h⟩⟩
theorem s108_50 (x1 : Int) (x2 : Int) (x3 : Int) (a4 : ma_V) (M : ma_M) (Q : Option ma_V → ma_S → ma_M → Prop) : ma_wp 108 50 [(2, 80), (0, x1), (0, x2), (0, x3), a4] [(2, 94)] mr_SH M Q ↔ ma_wp 108 51 [(2, 80), (0, x1), (0, x2), (0, x3), a4] [(2, 80), (2, 94)] mr_SH M Q := by
  rw [x108_50]
  exact ⟨fun h => h.2, fun h => ⟨by decide, h⟩⟩
theorem s108_51 (x1 : Int) (x2 : Int) (x3 : Int) (a4 : ma_V) (M : ma_M) (Q : Option ma_V → ma_S → ma_M → Prop) (hF : mr_FIX M) : ma_wp 108 51 [(2, 80), (0, x1), (0, x2), (0, x3), a4] [(2, 80), (2, 94)] mr_SH M Q ↔ ma_wp 108 54 [(2, 80), (0, x1), (0, x2), (0, x3), a4] [(2, 88), (2, 94)] mr_SH M Q := by
  rw [x108_51, mf_80_10 hF, ml_80]
  exact ⟨fun h => h.2, fun h => ⟨by decide, h⟩⟩
theorem s108_55 (x1 : Int) (x2 : Int) (x3 : Int) (a4 : ma_V) (y0 : Int) (M : ma_M) (Q : Option ma_V → ma_S → ma_M → Prop) : ma_wp 108 55 [(2, 80), (0, x1), (0, x2), (0, x3), a4] [(0, y0), (2, 88), (2, 94)] mr_SH M Q ↔ (0 ≤ y0 ∧ y0 < 5) ∧ ma_wp 108 56 [(2, 80), (0, x1), (0, x2), (0, x3), a4] [(0, M 88 y0), (2, 94)] mr_SH M Q := by
  rw [x108_55, ml_88]
theorem s108_56 (x1 : Int) (x2 : Int) (x3 : Int) (a4 : ma_V) (y0 : Int) (M : ma_M) (Q : Option ma_V → ma_S → ma_M → Prop) : ma_wp 108 56 [(2, 80), (0, x1), (0, x2), (0, x3), a4] [(0, y0), (2, 94)] mr_SH M Q ↔ (0 ≤ y0 ∧ y0 < 24) ∧ ma_wp 108 57 [(2, 80), (0, x1), (0, x2), (0, x3), a4] [(0, M 94 y0)] mr_SH M Q := by
  rw [x108_56, ml_94]
theorem s108_76 (x1 : Int) (x2 : Int) (x3 : Int) (x4 : Int) (M : ma_M) (Q : Option ma_V → ma_S → ma_M → Prop) : ma_wp 108 76 [(2, 80), (0, x1), (0, x2), (0, x3), (0, x4)] [] mr_SH M Q ↔ ma_wp 108 77 [(2, 80), (0, x1), (0, x2), (0, x3), (0, x4)] [(2, 80)] mr_SH M Q := by
  rw [x108_76]
  exact ⟨fun h => h.2, fun h => ⟨by decide, h⟩⟩
theorem s108_77 (x1 : Int) (x2 : Int) (x3 : Int) (x4 : Int) (M : ma_M) (Q : Option ma_V → ma_S → ma_M → Prop) (hF : mr_FIX M) : ma_wp 108 77 [(2, 80), (0, x1), (0, x2), (0, x3), (0, x4)] [(2, 80)] mr_SH M Q ↔ ma_wp 108 80 [(2, 80), (0, x1), (0, x2), (0, x3), (0, x4)] [(2, 90)] mr_SH M Q := by
  rw [x108_77, mf_80_12 hF, ml_80]
  exact ⟨fun h => h.2, fun h => ⟨by decide, h⟩⟩
theorem s108_87 (x1 : Int) (x2 : Int) (x3 : Int) (x4 : Int) (y0 : Int) (M : ma_M) (Q : Option ma_V → ma_S → ma_M → Prop) : ma_wp 108 87 [(2, 80), (0, x1), (0, x2), (0, x3), (0, x4)] [(0, y0), (2, 90)] mr_SH M Q ↔ ma_wp 108 88 [(2, 80), (0, x1), (0, x2), (0, x3), (0, x4)] [(2, 80), (0, y0), (2, 90)] mr_SH M Q := by
  rw [x108_87]
  exact ⟨fun h => h.2, fun h => ⟨by decide, h⟩⟩
theorem s108_88 (x1 : Int) (x2 : Int) (x3 : Int) (x4 : Int) (y1 : Int) (M : ma_M) (Q : Option ma_V → ma_S → ma_M → Prop) (hF : mr_FIX M) : ma_wp 108 88 [(2, 80), (0, x1), (0, x2), (0, x3), (0, x4)] [(2, 80), (0, y1), (2, 90)] mr_SH M Q ↔ ma_wp 108 91 [(2, 80), (0, x1), (0, x2), (0, x3), (0, x4)] [(2, 91), (0, y1), (2, 90)] mr_SH M Q := by
  rw [x108_88, mf_80_13 hF, ml_80]
  exact ⟨fun h => h.2, fun h => ⟨by decide, h⟩⟩
theorem s108_93 (x1 : Int) (x2 : Int) (x3 : Int) (x4 : Int) (y0 : Int) (y2 : Int) (M : ma_M) (Q : Option ma_V → ma_S → ma_M → Prop) : ma_wp 108 93 [(2, 80), (0, x1), (0, x2), (0, x3), (0, x4)] [(0, y0), (2, 91), (0, y2), (2, 90)] mr_SH M Q ↔ ma_wp 108 94 [(2, 80), (0, x1), (0, x2), (0, x3), (0, x4)] [(2, 80), (0, y0), (2, 91), (0, y2), (2, 90)] mr_SH M Q := by
  rw [x108_93]
  exact ⟨fun h => h.2, fun h => ⟨by decide, h⟩⟩
theorem s108_94 (x1 : Int) (x2 : Int) (x3 : Int) (x4 : Int) (y1 : Int) (y3 : Int) (M : ma_M) (Q : Option ma_V → ma_S → ma_M → Prop) (hF : mr_FIX M) : ma_wp 108 94 [(2, 80), (0, x1), (0, x2), (0, x3), (0, x4)] [(2, 80), (0, y1), (2, 91), (0, y3), (2, 90)] mr_SH M Q ↔ ma_wp 108 97 [(2, 80), (0, x1), (0, x2), (0, x3), (0, x4)] [(2, 88), (0, y1), (2, 91), (0, y3), (2, 90)] mr_SH M Q := by
  rw [x108_94, mf_80_10 hF, ml_80]
  exact ⟨fun h => h.2, fun h => ⟨by decide, h⟩⟩
theorem s108_98 (x1 : Int) (x2 : Int) (x3 : Int) (x4 : Int) (y0 : Int) (y2 : Int) (y4 : Int) (M : ma_M) (Q : Option ma_V → ma_S → ma_M → Prop) : ma_wp 108 98 [(2, 80), (0, x1), (0, x2), (0, x3), (0, x4)] [(0, y0), (2, 88), (0, y2), (2, 91), (0, y4), (2, 90)] mr_SH M Q ↔ (0 ≤ y0 ∧ y0 < 5) ∧ ma_wp 108 99 [(2, 80), (0, x1), (0, x2), (0, x3), (0, x4)] [(0, M 88 y0), (0, y2), (2, 91), (0, y4), (2, 90)] mr_SH M Q := by
  rw [x108_98, ml_88]
theorem s108_103 (x1 : Int) (x2 : Int) (x3 : Int) (x4 : Int) (y0 : Int) (y2 : Int) (M : ma_M) (Q : Option ma_V → ma_S → ma_M → Prop) : ma_wp 108 103 [(2, 80), (0, x1), (0, x2), (0, x3), (0, x4)] [(0, y0), (2, 91), (0, y2), (2, 90)] mr_SH M Q ↔ (0 ≤ y0 ∧ y0 < 216) ∧ ma_wp 108 104 [(2, 80), (0, x1), (0, x2), (0, x3), (0, x4)] [(1, M 91 y0), (0, y2), (2, 90)] mr_SH M Q := by
  rw [x108_103, ml_91]
theorem s108_104 (x1 : Int) (x2 : Int) (x3 : Int) (x4 : Int) (y0 : Int) (y1 : Int) (M : ma_M) (Q : Option ma_V → ma_S → ma_M → Prop) : ma_wp 108 104 [(2, 80), (0, x1), (0, x2), (0, x3), (0, x4)] [(1, y0), (0, y1), (2, 90)] mr_SH M Q ↔ (0 ≤ y1 ∧ y1 < 45) ∧ ma_wp 108 105 [(2, 80), (0, x1), (0, x2), (0, x3), (0, x4)] [] mr_SH (ma_up M 90 y1 y0) Q := by
  rw [x108_104, ml_90]
theorem s109_42 (x1 : Int) (x2 : Int) (x3 : Int) (x4 : Int) (x5 : Int) (x6 : Int) (a7 : ma_V) (y0 : Int) (M : ma_M) (Q : Option ma_V → ma_S → ma_M → Prop) : ma_wp 109 42 [(2, 80), (0, x1), (0, x2), (0, x3), (0, x4), (0, x5), (0, x6), a7] [(0, y0)] mr_SH M Q ↔ ma_wp 109 43 [(2, 80), (0, x1), (0, x2), (0, x3), (0, x4), (0, x5), (0, x6), a7] [(2, 80), (0, y0)] mr_SH M Q := by
  rw [x109_42]
  exact ⟨fun h => h.2, fun h => ⟨by decide, h⟩⟩
theorem s109_43 (x1 : Int) (x2 : Int) (x3 : Int) (x4 : Int) (x5 : Int) (x6 : Int) (a7 : ma_V) (y1 : Int) (M : ma_M) (Q : Option ma_V → ma_S → ma_M → Prop) (hF : mr_FIX M) : ma_wp 109 43 [(2, 80), (0, x1), (0, x2), (0, x3), (0, x4), (0, x5), (0, x6), a7] [(2, 80), (0, y1)] mr_SH M Q ↔ ma_wp 109 46 [(2, 80), (0, x1), (0, x2), (0, x3), (0, x4), (0, x5), (0, x6), a7] [(2, 99), (0, y1)] mr_SH M Q := by
  rw [x109_43, mf_80_21 hF, ml_80]
  exact ⟨fun h => h.2, fun h => ⟨by decide, h⟩⟩
theorem s109_58 (x1 : Int) (x2 : Int) (x3 : Int) (x4 : Int) (x5 : Int) (x6 : Int) (a7 : ma_V) (y0 : Int) (y2 : Int) (M : ma_M) (Q : Option ma_V → ma_S → ma_M → Prop) : ma_wp 109 58 [(2, 80), (0, x1), (0, x2), (0, x3), (0, x4), (0, x5), (0, x6), a7] [(0, y0), (2, 99), (0, y2)] mr_SH M Q ↔ (0 ≤ y0 ∧ y0 < 126) ∧ ma_wp 109 59 [(2, 80), (0, x1), (0, x2), (0, x3), (0, x4), (0, x5), (0, x6), a7] [(0, M 99 y0), (0, y2)] mr_SH M Q := by
  rw [x109_58, ml_99]
theorem s109_60 (x1 : Int) (x2 : Int) (x3 : Int) (x4 : Int) (x5 : Int) (x6 : Int) (a7 : ma_V) (y0 : Int) (M : ma_M) (Q : Option ma_V → ma_S → ma_M → Prop) : ma_wp 109 60 [(2, 80), (0, x1), (0, x2), (0, x3), (0, x4), (0, x5), (0, x6), a7] [(0, y0)] mr_SH M Q ↔ ma_wp 109 61 [(2, 80), (0, x1), (0, x2), (0, x3), (0, x4), (0, x5), (0, x6), a7] [(2, 80), (0, y0)] mr_SH M Q := by
  rw [x109_60]
  exact ⟨fun h => h.2, fun h => ⟨by decide, h⟩⟩
theorem s109_61 (x1 : Int) (x2 : Int) (x3 : Int) (x4 : Int) (x5 : Int) (x6 : Int) (a7 : ma_V) (y1 : Int) (M : ma_M) (Q : Option ma_V → ma_S → ma_M → Prop) (hF : mr_FIX M) : ma_wp 109 61 [(2, 80), (0, x1), (0, x2), (0, x3), (0, x4), (0, x5), (0, x6), a7] [(2, 80), (0, y1)] mr_SH M Q ↔ ma_wp 109 64 [(2, 80), (0, x1), (0, x2), (0, x3), (0, x4), (0, x5), (0, x6), a7] [(2, 99), (0, y1)] mr_SH M Q := by
  rw [x109_61, mf_80_21 hF, ml_80]
  exact ⟨fun h => h.2, fun h => ⟨by decide, h⟩⟩
theorem s109_72 (x1 : Int) (x2 : Int) (x3 : Int) (x4 : Int) (x5 : Int) (x6 : Int) (a7 : ma_V) (y0 : Int) (y2 : Int) (M : ma_M) (Q : Option ma_V → ma_S → ma_M → Prop) : ma_wp 109 72 [(2, 80), (0, x1), (0, x2), (0, x3), (0, x4), (0, x5), (0, x6), a7] [(0, y0), (2, 99), (0, y2)] mr_SH M Q ↔ (0 ≤ y0 ∧ y0 < 126) ∧ ma_wp 109 73 [(2, 80), (0, x1), (0, x2), (0, x3), (0, x4), (0, x5), (0, x6), a7] [(0, M 99 y0), (0, y2)] mr_SH M Q := by
  rw [x109_72, ml_99]
theorem s109_104 (x1 : Int) (x2 : Int) (x3 : Int) (x4 : Int) (x5 : Int) (x6 : Int) (a7 : ma_V) (M : ma_M) (Q : Option ma_V → ma_S → ma_M → Prop) : ma_wp 109 104 [(2, 80), (0, x1), (0, x2), (0, x3), (0, x4), (0, x5), (0, x6), a7] [] mr_SH M Q ↔ ma_wp 109 105 [(2, 80), (0, x1), (0, x2), (0, x3), (0, x4), (0, x5), (0, x6), a7] [(2, 80)] mr_SH M Q := by
  rw [x109_104]
  exact ⟨fun h => h.2, fun h => ⟨by decide, h⟩⟩
theorem s109_105 (x1 : Int) (x2 : Int) (x3 : Int) (x4 : Int) (x5 : Int) (x6 : Int) (a7 : ma_V) (M : ma_M) (Q : Option ma_V → ma_S → ma_M → Prop) (hF : mr_FIX M) : ma_wp 109 105 [(2, 80), (0, x1), (0, x2), (0, x3), (0, x4), (0, x5), (0, x6), a7] [(2, 80)] mr_SH M Q ↔ ma_wp 109 108 [(2, 80), (0, x1), (0, x2), (0, x3), (0, x4), (0, x5), (0, x6), a7] [(2, 99)] mr_SH M Q := by
  rw [x109_105, mf_80_21 hF, ml_80]
  exact ⟨fun h => h.2, fun h => ⟨by decide, h⟩⟩
theorem s109_117 (x1 : Int) (x2 : Int) (x3 : Int) (x4 : Int) (x5 : Int) (x6 : Int) (a7 : ma_V) (y0 : Int) (y1 : Int) (M : ma_M) (Q : Option ma_V → ma_S → ma_M → Prop) : ma_wp 109 117 [(2, 80), (0, x1), (0, x2), (0, x3), (0, x4), (0, x5), (0, x6), a7] [(0, y0), (0, y1), (2, 99)] mr_SH M Q ↔ (0 ≤ y1 ∧ y1 < 126) ∧ ma_wp 109 118 [(2, 80), (0, x1), (0, x2), (0, x3), (0, x4), (0, x5), (0, x6), a7] [] mr_SH (ma_up M 99 y1 y0) Q := by
  rw [x109_117, ml_99]
theorem s109_130 (x1 : Int) (x2 : Int) (x3 : Int) (a4 : ma_V) (a5 : ma_V) (a6 : ma_V) (a7 : ma_V) (M : ma_M) (Q : Option ma_V → ma_S → ma_M → Prop) : ma_wp 109 130 [(2, 80), (0, x1), (0, x2), (0, x3), a4, a5, a6, a7] [] mr_SH M Q ↔ ma_wp 109 131 [(2, 80), (0, x1), (0, x2), (0, x3), a4, a5, a6, a7] [(2, 80)] mr_SH M Q := by
  rw [x109_130]
  exact ⟨fun h => h.2, fun h => ⟨by decide, h⟩⟩
theorem s109_131 (x1 : Int) (x2 : Int) (x3 : Int) (a4 : ma_V) (a5 : ma_V) (a6 : ma_V) (a7 : ma_V) (M : ma_M) (Q : Option ma_V → ma_S → ma_M → Prop) (hF : mr_FIX M) : ma_wp 109 131 [(2, 80), (0, x1), (0, x2), (0, x3), a4, a5, a6, a7] [(2, 80)] mr_SH M Q ↔ ma_wp 109 134 [(2, 80), (0, x1), (0, x2), (0, x3), a4, a5, a6, a7] [(2, 99)] mr_SH M Q := by
  rw [x109_131, mf_80_21 hF, ml_80]
  exact ⟨fun h => h.2, fun h => ⟨by decide, h⟩⟩
theorem s109_140 (x1 : Int) (x2 : Int) (x3 : Int) (a4 : ma_V) (a5 : ma_V) (a6 : ma_V) (a7 : ma_V) (y0 : Int) (M : ma_M) (Q : Option ma_V → ma_S → ma_M → Prop) : ma_wp 109 140 [(2, 80), (0, x1), (0, x2), (0, x3), a4, a5, a6, a7] [(0, y0), (2, 99)] mr_SH M Q ↔ (0 ≤ y0 ∧ y0 < 126) ∧ ma_wp 109 141 [(2, 80), (0, x1), (0, x2), (0, x3), a4, a5, a6, a7] [(0, M 99 y0)] mr_SH M Q := by
  rw [x109_140, ml_99]
theorem s110_0 (x1 : Int) (x2 : Int) (x3 : Int) (x4 : Int) (x5 : Int) (x6 : Int) (M : ma_M) (Q : Option ma_V → ma_S → ma_M → Prop) : ma_wp 110 0 [(2, 80), (0, x1), (0, x2), (3, x3), (3, x4), (3, x5), (3, x6)] [] mr_SH M Q ↔ ma_wp 110 1 [(2, 80), (0, x1), (0, x2), (3, x3), (3, x4), (3, x5), (3, x6)] [(2, 80)] mr_SH M Q := by
  rw [x110_0]
  exact ⟨fun h => h.2, fun h => ⟨by decide, h⟩⟩
theorem s110_1 (x1 : Int) (x2 : Int) (x3 : Int) (x4 : Int) (x5 : Int) (x6 : Int) (M : ma_M) (Q : Option ma_V → ma_S → ma_M → Prop) : ma_wp 110 1 [(2, 80), (0, x1), (0, x2), (3, x3), (3, x4), (3, x5), (3, x6)] [(2, 80)] mr_SH M Q ↔ ma_wp 110 4 [(2, 80), (0, x1), (0, x2), (3, x3), (3, x4), (3, x5), (3, x6)] [(0, M 80 9)] mr_SH M Q := by
  rw [x110_1, ml_80]
  exact ⟨fun h => h.2, fun h => ⟨by decide, h⟩⟩
theorem s110_4 (x1 : Int) (x2 : Int) (x3 : Int) (x4 : Int) (x5 : Int) (x6 : Int) (y0 : Int) (M : ma_M) (Q : Option ma_V → ma_S → ma_M → Prop) : ma_wp 110 4 [(2, 80), (0, x1), (0, x2), (3, x3), (3, x4), (3, x5), (3, x6)] [(0, y0)] mr_SH M Q ↔ ma_wp 110 5 [(2, 80), (0, x1), (0, x2), (3, x3), (3, x4), (3, x5), (3, x6)] [(2, 80), (0, y0)] mr_SH M Q := by
  rw [x110_4]
  exact ⟨fun h => h.2, fun h => ⟨by decide, h⟩⟩
theorem s110_5 (x1 : Int) (x2 : Int) (x3 : Int) (x4 : Int) (x5 : Int) (x6 : Int) (y1 : Int) (M : ma_M) (Q : Option ma_V → ma_S → ma_M → Prop) : ma_wp 110 5 [(2, 80), (0, x1), (0, x2), (3, x3), (3, x4), (3, x5), (3, x6)] [(2, 80), (0, y1)] mr_SH M Q ↔ ma_wp 110 8 [(2, 80), (0, x1), (0, x2), (3, x3), (3, x4), (3, x5), (3, x6)] [(0, M 80 5), (0, y1)] mr_SH M Q := by
  rw [x110_5, ml_80]
  exact ⟨fun h => h.2, fun h => ⟨by decide, h⟩⟩
theorem s110_11 (x1 : Int) (x2 : Int) (x3 : Int) (x4 : Int) (x5 : Int) (x6 : Int) (M : ma_M) (Q : Option ma_V → ma_S → ma_M → Prop) : ma_wp 110 11 [(2, 80), (0, x1), (0, x2), (3, x3), (3, x4), (3, x5), (3, x6)] [] mr_SH M Q ↔ ma_wp 110 12 [(2, 80), (0, x1), (0, x2), (3, x3), (3, x4), (3, x5), (3, x6)] [(2, 80)] mr_SH M Q := by
  rw [x110_11]
  exact ⟨fun h => h.2, fun h => ⟨by decide, h⟩⟩
theorem s110_12 (x1 : Int) (x2 : Int) (x3 : Int) (x4 : Int) (x5 : Int) (x6 : Int) (M : ma_M) (Q : Option ma_V → ma_S → ma_M → Prop) : ma_wp 110 12 [(2, 80), (0, x1), (0, x2), (3, x3), (3, x4), (3, x5), (3, x6)] [(2, 80)] mr_SH M Q ↔ ma_wp 110 15 [(2, 80), (0, x1), (0, x2), (3, x3), (3, x4), (3, x5), (3, x6)] [(0, M 80 5)] mr_SH M Q := by
  rw [x110_12, ml_80]
  exact ⟨fun h => h.2, fun h => ⟨by decide, h⟩⟩
theorem s110_45 (x1 : Int) (x2 : Int) (x3 : Int) (a4 : ma_V) (x5 : Int) (a6 : ma_V) (y0 : Int) (M : ma_M) (Q : Option ma_V → ma_S → ma_M → Prop) : ma_wp 110 45 [(2, 80), (0, x1), (0, x2), (0, x3), a4, (3, x5), a6] [(0, y0)] mr_SH M Q ↔ ma_wp 110 46 [(2, 80), (0, x1), (0, x2), (0, x3), a4, (3, x5), a6] [(2, 80), (0, y0)] mr_SH M Q := by
  rw [x110_45]
  exact ⟨fun h => h.2, fun h => ⟨by decide, h⟩⟩
theorem s110_46 (x1 : Int) (x2 : Int) (x3 : Int) (a4 : ma_V) (x5 : Int) (a6 : ma_V) (y1 : Int) (M : ma_M) (Q : Option ma_V → ma_S → ma_M → Prop) : ma_wp 110 46 [(2, 80), (0, x1), (0, x2), (0, x3), a4, (3, x5), a6] [(2, 80), (0, y1)] mr_SH M Q ↔ ma_wp 110 49 [(2, 80), (0, x1), (0, x2), (0, x3), a4, (3, x5), a6] [(0, M 80 5), (0, y1)] mr_SH M Q := by
  rw [x110_46, ml_80]
  exact ⟨fun h => h.2, fun h => ⟨by decide, h⟩⟩
theorem s110_52 (x1 : Int) (x2 : Int) (x3 : Int) (a4 : ma_V) (x5 : Int) (a6 : ma_V) (M : ma_M) (Q : Option ma_V → ma_S → ma_M → Prop) : ma_wp 110 52 [(2, 80), (0, x1), (0, x2), (0, x3), a4, (3, x5), a6] [] mr_SH M Q ↔ ma_wp 110 53 [(2, 80), (0, x1), (0, x2), (0, x3), a4, (3, x5), a6] [(2, 80)] mr_SH M Q := by
  rw [x110_52]
  exact ⟨fun h => h.2, fun h => ⟨by decide, h⟩⟩
theorem s110_56 (x1 : Int) (x2 : Int) (x3 : Int) (a4 : ma_V) (x5 : Int) (a6 : ma_V) (y0 : Int) (y1 : Int) (y2 : Int) (M : ma_M) (Q : Option ma_V → ma_S → ma_M → Prop) : ma_wp 110 56 [(2, 80), (0, x1), (0, x2), (0, x3), a4, (3, x5), a6] [(0, y0), (0, y1), (0, y2), (2, 80)] mr_SH M Q ↔ mr_do 85 [(2, 80), (0, y2), (0, y1), (0, y0)] mr_SH M (fun r sh M => ma_wp 110 59 [(2, 80), (0, x1), (0, x2), (0, x3), a4, (3, x5), a6] (r.toList ++ []) sh M Q) := by
  rw [x110_56, ml_80]
  exact ⟨fun h => h.2, fun h => ⟨by decide, h⟩⟩
theorem s110_68 (x1 : Int) (x2 : Int) (x3 : Int) (x4 : Int) (a5 : ma_V) (a6 : ma_V) (M : ma_M) (Q : Option ma_V → ma_S → ma_M → Prop) : ma_wp 110 68 [(2, 80), (0, x1), (0, x2), (0, x3), (0, x4), a5, a6] [] mr_SH M Q ↔ ma_wp 110 69 [(2, 80), (0, x1), (0, x2), (0, x3), (0, x4), a5, a6] [(2, 80)] mr_SH M Q := by
  rw [x110_68]
  exact ⟨fun h => h.2, fun h => ⟨by decide, h⟩⟩
theorem s110_69 (x1 : Int) (x2 : Int) (x3 : Int) (x4 : Int) (a5 : ma_V) (a6 : ma_V) (M : ma_M) (Q : Option ma_V → ma_S → ma_M → Prop) : ma_wp 110 69 [(2, 80), (0, x1), (0, x2), (0, x3), (0, x4), a5, a6] [(2, 80)] mr_SH M Q ↔ mr_do 108 [(2, 80)] mr_SH M (fun r sh M => ma_wp 110 72 [(2, 80), (0, x1), (0, x2), (0, x3), (0, x4), a5, a6] (r.toList ++ []) sh M Q) := by
  rw [x110_69, ml_80]
  exact ⟨fun h => h.2, fun h => ⟨by decide, h⟩⟩
theorem s110_88 (x1 : Int) (x2 : Int) (x3 : Int) (x4 : Int) (a5 : ma_V) (a6 : ma_V) (M : ma_M) (Q : Option ma_V → ma_S → ma_M → Prop) : ma_wp 110 88 [(2, 80), (0, x1), (0, x2), (0, x3), (0, x4), a5, a6] [] mr_SH M Q ↔ ma_wp 110 89 [(2, 80), (0, x1), (0, x2), (0, x3), (0, x4), a5, a6] [(2, 80)] mr_SH M Q := by
  rw [x110_88]
  exact ⟨fun h => h.2, fun h => ⟨by decide, h⟩⟩
theorem s110_89 (x1 : Int) (x2 : Int) (x3 : Int) (x4 : Int) (a5 : ma_V) (a6 : ma_V) (M : ma_M) (Q : Option ma_V → ma_S → ma_M → Prop) (hF : mr_FIX M) : ma_wp 110 89 [(2, 80), (0, x1), (0, x2), (0, x3), (0, x4), a5, a6] [(2, 80)] mr_SH M Q ↔ ma_wp 110 92 [(2, 80), (0, x1), (0, x2), (0, x3), (0, x4), a5, a6] [(2, 102)] mr_SH M Q := by
  rw [x110_89, mf_80_25 hF, ml_80]
  exact ⟨fun h => h.2, fun h => ⟨by decide, h⟩⟩
theorem s110_93 (x1 : Int) (x2 : Int) (x3 : Int) (x4 : Int) (a5 : ma_V) (a6 : ma_V) (y0 : Int) (M : ma_M) (Q : Option ma_V → ma_S → ma_M → Prop) : ma_wp 110 93 [(2, 80), (0, x1), (0, x2), (0, x3), (0, x4), a5, a6] [(0, y0), (2, 102)] mr_SH M Q ↔ ma_wp 110 94 [(2, 80), (0, x1), (0, x2), (0, x3), (0, x4), a5, a6] [(2, 80), (0, y0), (2, 102)] mr_SH M Q := by
  rw [x110_93]
  exact ⟨fun h => h.2, fun h => ⟨by decide, h⟩⟩
theorem s110_94 (x1 : Int) (x2 : Int) (x3 : Int) (x4 : Int) (a5 : ma_V) (a6 : ma_V) (y1 : Int) (M : ma_M) (Q : Option ma_V → ma_S → ma_M → Prop) (hF : mr_FIX M) : ma_wp 110 94 [(2, 80), (0, x1), (0, x2), (0, x3), (0, x4), a5, a6] [(2, 80), (0, y1), (2, 102)] mr_SH M Q ↔ ma_wp 110 97 [(2, 80), (0, x1), (0, x2), (0, x3), (0, x4), a5, a6] [(2, 90), (0, y1), (2, 102)] mr_SH M Q := by
  rw [x110_94, mf_80_12 hF, ml_80]
  exact ⟨fun h => h.2, fun h => ⟨by decide, h⟩⟩
theorem s110_101 (x1 : Int) (x2 : Int) (x3 : Int) (x4 : Int) (a5 : ma_V) (a6 : ma_V) (y0 : Int) (y2 : Int) (M : ma_M) (Q : Option ma_V → ma_S → ma_M → Prop) : ma_wp 110 101 [(2, 80), (0, x1), (0, x2), (0, x3), (0, x4), a5, a6] [(0, y0), (2, 90), (0, y2), (2, 102)] mr_SH M Q ↔ (0 ≤ y0 ∧ y0 < 45) ∧ ma_wp 110 102 [(2, 80), (0, x1), (0, x2), (0, x3), (0, x4), a5, a6] [(1, M 90 y0), (0, y2), (2, 102)] mr_SH M Q := by
  rw [x110_101, ml_90]
theorem s110_102 (x1 : Int) (x2 : Int) (x3 : Int) (x4 : Int) (a5 : ma_V) (a6 : ma_V) (y0 : Int) (y1 : Int) (M : ma_M) (Q : Option ma_V → ma_S → ma_M → Prop) : ma_wp 110 102 [(2, 80), (0, x1), (0, x2), (0, x3), (0, x4), a5, a6] [(1, y0), (0, y1), (2, 102)] mr_SH M Q ↔ (0 ≤ y1 ∧ y1 < 5) ∧ ma_wp 110 103 [(2, 80), (0, x1), (0, x2), (0, x3), (0, x4), a5, a6] [] mr_SH (ma_up M 102 y1 y0) Q := by
  rw [x110_102, ml_102]
theorem s110_111 (x1 : Int) (x2 : Int) (x3 : Int) (x4 : Int) (x5 : Int) (x6 : Int) (y0 : Int) (M : ma_M) (Q : Option ma_V → ma_S → ma_M → Prop) : ma_wp 110 111 [(2, 80), (0, x1), (0, x2), (0, x3), (1, x4), (3, x5), (0, x6)] [(0, y0)] mr_SH M Q ↔ ma_wp 110 112 [(2, 80), (0, x1), (0, x2), (0, x3), (1, x4), (3, x5), (0, x6)] [(2, 80), (0, y0)] mr_SH M Q := by
  rw [x110_111]
  exact ⟨fun h => h.2, fun h => ⟨by decide, h⟩⟩
theorem s110_112 (x1 : Int) (x2 : Int) (x3 : Int) (x4 : Int) (x5 : Int) (x6 : Int) (y1 : Int) (M : ma_M) (Q : Option ma_V → ma_S → ma_M → Prop) : ma_wp 110 112 [(2, 80), (0, x1), (0, x2), (0, x3), (1, x4), (3, x5), (0, x6)] [(2, 80), (0, y1)] mr_SH M Q ↔ ma_wp 110 115 [(2, 80), (0, x1), (0, x2), (0, x3), (1, x4), (3, x5), (0, x6)] [(0, M 80 9), (0, y1)] mr_SH M Q := by
  rw [x110_112, ml_80]
  exact ⟨fun h => h.2, fun h => ⟨by decide, h⟩⟩
theorem s110_120 (x1 : Int) (x2 : Int) (x3 : Int) (x4 : Int) (x5 : Int) (x6 : Int) (y0 : Int) (M : ma_M) (Q : Option ma_V → ma_S → ma_M → Prop) : ma_wp 110 120 [(2, 80), (0, x1), (0, x2), (0, x3), (1, x4), (3, x5), (0, x6)] [(1, y0)] mr_SH M Q ↔ ma_wp 110 121 [(2, 80), (0, x1), (0, x2), (0, x3), (1, x4), (3, x5), (0, x6)] [(2, 80), (1, y0)] mr_SH M Q := by
  rw [x110_120]
  exact ⟨fun h => h.2, fun h => ⟨by decide, h⟩⟩
theorem s110_121 (x1 : Int) (x2 : Int) (x3 : Int) (x4 : Int) (x5 : Int) (x6 : Int) (y1 : Int) (M : ma_M) (Q : Option ma_V → ma_S → ma_M → Prop) (hF : mr_FIX M) : ma_wp 110 121 [(2, 80), (0, x1), (0, x2), (0, x3), (1, x4), (3, x5), (0, x6)] [(2, 80), (1, y1)] mr_SH M Q ↔ ma_wp 110 124 [(2, 80), (0, x1), (0, x2), (0, x3), (1, x4), (3, x5), (0, x6)] [(2, 89), (1, y1)] mr_SH M Q := by
  rw [x110_121, mf_80_11 hF, ml_80]
  exact ⟨fun h => h.2, fun h => ⟨by decide, h⟩⟩
theorem s110_126 (x1 : Int) (x2 : Int) (x3 : Int) (x4 : Int) (x5 : Int) (x6 : Int) (y0 : Int) (y2 : Int) (M : ma_M) (Q : Option ma_V → ma_S → ma_M → Prop) : ma_wp 110 126 [(2, 80), (0, x1), (0, x2), (0, x3), (1, x4), (3, x5), (0, x6)] [(0, y0), (2, 89), (1, y2)] mr_SH M Q ↔ (0 ≤ y0 ∧ y0 < 5) ∧ ma_wp 110 127 [(2, 80), (0, x1), (0, x2), (0, x3), (1, x4), (3, x5), (0, x6)] [(1, M 89 y0), (1, y2)] mr_SH M Q := by
  rw [x110_126, ml_89]
theorem s110_127 (x1 : Int) (x2 : Int) (x3 : Int) (x4 : Int) (x5 : Int) (x6 : Int) (y0 : Int) (y1 : Int) (M : ma_M) (Q : Option ma_V → ma_S → ma_M → Prop) : ma_wp 110 127 [(2, 80), (0, x1), (0, x2), (0, x3), (1, x4), (3, x5), (0, x6)] [(1, y0), (1, y1)] mr_SH M Q ↔ ma_wp 110 128 [(2, 80), (0, x1), (0, x2), (0, x3), (1, x4), (3, x5), (0, x6)] [(2, 80), (1, y0), (1, y1)] mr_SH M Q := by
  rw [x110_127]
  exact ⟨fun h => h.2, fun h => ⟨by decide, h⟩⟩
theorem s110_128 (x1 : Int) (x2 : Int) (x3 : Int) (x4 : Int) (x5 : Int) (x6 : Int) (y1 : Int) (y2 : Int) (M : ma_M) (Q : Option ma_V → ma_S → ma_M → Prop) (hF : mr_FIX M) : ma_wp 110 128 [(2, 80), (0, x1), (0, x2), (0, x3), (1, x4), (3, x5), (0, x6)] [(2, 80), (1, y1), (1, y2)] mr_SH M Q ↔ ma_wp 110 131 [(2, 80), (0, x1), (0, x2), (0, x3), (1, x4), (3, x5), (0, x6)] [(2, 90), (1, y1), (1, y2)] mr_SH M Q := by
  rw [x110_128, mf_80_12 hF, ml_80]
  exact ⟨fun h => h.2, fun h => ⟨by decide, h⟩⟩
theorem s110_138 (x1 : Int) (x2 : Int) (x3 : Int) (x4 : Int) (x5 : Int) (x6 : Int) (y0 : Int) (y2 : Int) (y3 : Int) (M : ma_M) (Q : Option ma_V → ma_S → ma_M → Prop) : ma_wp 110 138 [(2, 80), (0, x1), (0, x2), (0, x3), (1, x4), (3, x5), (0, x6)] [(0, y0), (2, 90), (1, y2), (1, y3)] mr_SH M Q ↔ (0 ≤ y0 ∧ y0 < 45) ∧ ma_wp 110 139 [(2, 80), (0, x1), (0, x2), (0, x3), (1, x4), (3, x5), (0, x6)] [(1, M 90 y0), (1, y2), (1, y3)] mr_SH M Q := by
  rw [x110_138, ml_90]
theorem s110_153 (x1 : Int) (x2 : Int) (x3 : Int) (x4 : Int) (x5 : Int) (x6 : Int) (M : ma_M) (Q : Option ma_V → ma_S → ma_M → Prop) : ma_wp 110 153 [(2, 80), (0, x1), (0, x2), (0, x3), (1, x4), (3, x5), (0, x6)] [] mr_SH M Q ↔ ma_wp 110 154 [(2, 80), (0, x1), (0, x2), (0, x3), (1, x4), (3, x5), (0, x6)] [(2, 80)] mr_SH M Q := by
  rw [x110_153]
  exact ⟨fun h => h.2, fun h => ⟨by decide, h⟩⟩
theorem s110_154 (x1 : Int) (x2 : Int) (x3 : Int) (x4 : Int) (x5 : Int) (x6 : Int) (M : ma_M) (Q : Option ma_V → ma_S → ma_M → Prop) (hF : mr_FIX M) : ma_wp 110 154 [(2, 80), (0, x1), (0, x2), (0, x3), (1, x4), (3, x5), (0, x6)] [(2, 80)] mr_SH M Q ↔ ma_wp 110 157 [(2, 80), (0, x1), (0, x2), (0, x3), (1, x4), (3, x5), (0, x6)] [(2, 103)] mr_SH M Q := by
  rw [x110_154, mf_80_26 hF, ml_80]
  exact ⟨fun h => h.2, fun h => ⟨by decide, h⟩⟩
theorem s110_160 (x1 : Int) (x2 : Int) (x3 : Int) (x4 : Int) (x5 : Int) (x6 : Int) (y0 : Int) (y1 : Int) (M : ma_M) (Q : Option ma_V → ma_S → ma_M → Prop) : ma_wp 110 160 [(2, 80), (0, x1), (0, x2), (0, x3), (1, x4), (3, x5), (0, x6)] [(1, y0), (0, y1), (2, 103)] mr_SH M Q ↔ (0 ≤ y1 ∧ y1 < 5) ∧ ma_wp 110 161 [(2, 80), (0, x1), (0, x2), (0, x3), (1, x4), (3, x5), (0, x6)] [] mr_SH (ma_up M 103 y1 y0) Q := by
  rw [x110_160, ml_103]
theorem s110_167 (x1 : Int) (x2 : Int) (x3 : Int) (a4 : ma_V) (x5 : Int) (a6 : ma_V) (M : ma_M) (Q : Option ma_V → ma_S → ma_M → Prop) : ma_wp 110 167 [(2, 80), (0, x1), (0, x2), (0, x3), a4, (3, x5), a6] [] mr_SH M Q ↔ ma_wp 110 168 [(2, 80), (0, x1), (0, x2), (0, x3), a4, (3, x5), a6] [(2, 80)] mr_SH M Q := by
  rw [x110_167]
  exact ⟨fun h => h.2, fun h => ⟨by decide, h⟩⟩
theorem s110_168 (x1 : Int) (x2 : Int) (x3 : Int) (a4 : ma_V) (x5 : Int) (a6 : ma_V) (M : ma_M) (Q : Option ma_V → ma_S → ma_M → Prop) : ma_wp 110 168 [(2, 80), (0, x1), (0, x2), (0, x3), a4, (3, x5), a6] [(2, 80)] mr_SH M Q ↔ ma_wp 110 169 [(2, 80), (0, x1), (0, x2), (0, x3), a4, (3, x5), a6] [(2, 80), (2, 80)] mr_SH M Q := by
  rw [x110_168]
  exact ⟨fun h => h.2, fun h => ⟨by decide, h⟩⟩
theorem s110_169 (x1 : Int) (x2 : Int) (x3 : Int) (a4 : ma_V) (x5 : Int) (a6 : ma_V) (M : ma_M) (Q : Option ma_V → ma_S → ma_M → Prop) : ma_wp 110 169 [(2, 80), (0, x1), (0, x2), (0, x3), a4, (3, x5), a6] [(2, 80), (2, 80)] mr_SH M Q ↔ ma_wp 110 172 [(2, 80), (0, x1), (0, x2), (0, x3), a4, (3, x5), a6] [(0, M 80 5), (2, 80)] mr_SH M Q := by
  rw [x110_169, ml_80]
  exact ⟨fun h => h.2, fun h => ⟨by decide, h⟩⟩
theorem s110_172 (x1 : Int) (x2 : Int) (x3 : Int) (a4 : ma_V) (x5 : Int) (a6 : ma_V) (y0 : Int) (M : ma_M) (Q : Option ma_V → ma_S → ma_M → Prop) : ma_wp 110 172 [(2, 80), (0, x1), (0, x2), (0, x3), a4, (3, x5), a6] [(0, y0), (2, 80)] mr_SH M Q ↔ ma_wp 110 175 [(2, 80), (0, x1), (0, x2), (0, x3), a4, (3, x5), a6] [] mr_SH (ma_up M 80 22 y0) Q := by
  rw [x110_172, ml_80]
  exact ⟨fun h => h.2, fun h => ⟨by decide, h⟩⟩
theorem s110_178 (x1 : Int) (x2 : Int) (x3 : Int) (a4 : ma_V) (x5 : Int) (a6 : ma_V) (y0 : Int) (M : ma_M) (Q : Option ma_V → ma_S → ma_M → Prop) : ma_wp 110 178 [(2, 80), (0, x1), (0, x2), (0, x3), a4, (3, x5), a6] [(0, y0)] mr_SH M Q ↔ ma_wp 110 179 [(2, 80), (0, x1), (0, x2), (0, x3), a4, (3, x5), a6] [(2, 80), (0, y0)] mr_SH M Q := by
  rw [x110_178]
  exact ⟨fun h => h.2, fun h => ⟨by decide, h⟩⟩
theorem s110_179 (x1 : Int) (x2 : Int) (x3 : Int) (a4 : ma_V) (x5 : Int) (a6 : ma_V) (y1 : Int) (M : ma_M) (Q : Option ma_V → ma_S → ma_M → Prop) : ma_wp 110 179 [(2, 80), (0, x1), (0, x2), (0, x3), a4, (3, x5), a6] [(2, 80), (0, y1)] mr_SH M Q ↔ ma_wp 110 182 [(2, 80), (0, x1), (0, x2), (0, x3), a4, (3, x5), a6] [(0, M 80 5), (0, y1)] mr_SH M Q := by
  rw [x110_179, ml_80]
  exact ⟨fun h => h.2, fun h => ⟨by decide, h⟩⟩
theorem s110_185 (x1 : Int) (x2 : Int) (x3 : Int) (a4 : ma_V) (x5 : Int) (a6 : ma_V) (M : ma_M) (Q : Option ma_V → ma_S → ma_M → Prop) : ma_wp 110 185 [(2, 80), (0, x1), (0, x2), (0, x3), a4, (3, x5), a6] [] mr_SH M Q ↔ ma_wp 110 186 [(2, 80), (0, x1), (0, x2), (0, x3), a4, (3, x5), a6] [(2, 80)] mr_SH M Q := by
  rw [x110_185]
  exact ⟨fun h => h.2, fun h => ⟨by decide, h⟩⟩
theorem s110_186 (x1 : Int) (x2 : Int) (x3 : Int) (a4 : ma_V) (x5 : Int) (a6 : ma_V) (M : ma_M) (Q : Option ma_V → ma_S → ma_M → Prop) (hF : mr_FIX M) : ma_wp 110 186 [(2, 80), (0, x1), (0, x2), (0, x3), a4, (3, x5), a6] [(2, 80)] mr_SH M Q ↔ ma_wp 110 189 [(2, 80), (0, x1), (0, x2), (0, x3), a4, (3, x5), a6] [(2, 100)] mr_SH M Q := by
  rw [x110_186, mf_80_23 hF, ml_80]
  exact ⟨fun h => h.2, fun h => ⟨by decide, h⟩⟩
theorem s110_190 (x1 : Int) (x2 : Int) (x3 : Int) (a4 : ma_V) (x5 : Int) (a6 : ma_V) (y0 : Int) (M : ma_M) (Q : Option ma_V → ma_S → ma_M → Prop) : ma_wp 110 190 [(2, 80), (0, x1), (0, x2), (0, x3), a4, (3, x5), a6] [(0, y0), (2, 100)] mr_SH M Q ↔ ma_wp 110 191 [(2, 80), (0, x1), (0, x2), (0, x3), a4, (3, x5), a6] [(2, 80), (0, y0), (2, 100)] mr_SH M Q := by
  rw [x110_190]
  exact ⟨fun h => h.2, fun h => ⟨by decide, h⟩⟩
theorem s110_191 (x1 : Int) (x2 : Int) (x3 : Int) (a4 : ma_V) (x5 : Int) (a6 : ma_V) (y1 : Int) (M : ma_M) (Q : Option ma_V → ma_S → ma_M → Prop) (hF : mr_FIX M) : ma_wp 110 191 [(2, 80), (0, x1), (0, x2), (0, x3), a4, (3, x5), a6] [(2, 80), (0, y1), (2, 100)] mr_SH M Q ↔ ma_wp 110 194 [(2, 80), (0, x1), (0, x2), (0, x3), a4, (3, x5), a6] [(2, 102), (0, y1), (2, 100)] mr_SH M Q := by
  rw [x110_191, mf_80_25 hF, ml_80]
  exact ⟨fun h => h.2, fun h => ⟨by decide, h⟩⟩
theorem s110_195 (x1 : Int) (x2 : Int) (x3 : Int) (a4 : ma_V) (x5 : Int) (a6 : ma_V) (y0 : Int) (y2 : Int) (M : ma_M) (Q : Option ma_V → ma_S → ma_M → Prop) : ma_wp 110 195 [(2, 80), (0, x1), (0, x2), (0, x3), a4, (3, x5), a6] [(0, y0), (2, 102), (0, y2), (2, 100)] mr_SH M Q ↔ (0 ≤ y0 ∧ y0 < 5) ∧ ma_wp 110 196 [(2, 80), (0, x1), (0, x2), (0, x3), a4, (3, x5), a6] [(1, M 102 y0), (0, y2), (2, 100)] mr_SH M Q := by
  rw [x110_195, ml_102]
theorem s110_196 (x1 : Int) (x2 : Int) (x3 : Int) (a4 : ma_V) (x5 : Int) (a6 : ma_V) (y0 : Int) (y1 : Int) (M : ma_M) (Q : Option ma_V → ma_S → ma_M → Prop) : ma_wp 110 196 [(2, 80), (0, x1), (0, x2), (0, x3), a4, (3, x5), a6] [(1, y0), (0, y1), (2, 100)] mr_SH M Q ↔ (0 ≤ y1 ∧ y1 < 5) ∧ ma_wp 110 197 [(2, 80), (0, x1), (0, x2), (0, x3), a4, (3, x5), a6] [] mr_SH (ma_up M 100 y1 y0) Q := by
  rw [x110_196, ml_100]
theorem s110_197 (x1 : Int) (x2 : Int) (x3 : Int) (a4 : ma_V) (x5 : Int) (a6 : ma_V) (M : ma_M) (Q : Option ma_V → ma_S → ma_M → Prop) : ma_wp 110 197 [(2, 80), (0, x1), (0, x2), (0, x3), a4, (3, x5), a6] [] mr_SH M Q ↔ ma_wp 110 198 [(2, 80), (0, x1), (0, x2), (0, x3), a4, (3, x5), a6] [(2, 80)] mr_SH M Q := by
  rw [x110_197]
  exact ⟨fun h => h.2, fun h => ⟨by decide, h⟩⟩
theorem s110_198 (x1 : Int) (x2 : Int) (x3 : Int) (a4 : ma_V) (x5 : Int) (a6 : ma_V) (M : ma_M) (Q : Option ma_V → ma_S → ma_M → Prop) (hF : mr_FIX M) : ma_wp 110 198 [(2, 80), (0, x1), (0, x2), (0, x3), a4, (3, x5), a6] [(2, 80)] mr_SH M Q ↔ ma_wp 110 201 [(2, 80), (0, x1), (0, x2), (0, x3), a4, (3, x5), a6] [(2, 101)] mr_SH M Q := by
  rw [x110_198, mf_80_24 hF, ml_80]
  exact ⟨fun h => h.2, fun h => ⟨by decide, h⟩⟩
theorem s110_202 (x1 : Int) (x2 : Int) (x3 : Int) (a4 : ma_V) (x5 : Int) (a6 : ma_V) (y0 : Int) (M : ma_M) (Q : Option ma_V → ma_S → ma_M → Prop) : ma_wp 110 202 [(2, 80), (0, x1), (0, x2), (0, x3), a4, (3, x5), a6] [(0, y0), (2, 101)] mr_SH M Q ↔ ma_wp 110 203 [(2, 80), (0, x1), (0, x2), (0, x3), a4, (3, x5), a6] [(2, 80), (0, y0), (2, 101)] mr_SH M Q := by
  rw [x110_202]
  exact ⟨fun h => h.2, fun h => ⟨by decide, h⟩⟩
theorem s110_203 (x1 : Int) (x2 : Int) (x3 : Int) (a4 : ma_V) (x5 : Int) (a6 : ma_V) (y1 : Int) (M : ma_M) (Q : Option ma_V → ma_S → ma_M → Prop) (hF : mr_FIX M) : ma_wp 110 203 [(2, 80), (0, x1), (0, x2), (0, x3), a4, (3, x5), a6] [(2, 80), (0, y1), (2, 101)] mr_SH M Q ↔ ma_wp 110 206 [(2, 80), (0, x1), (0, x2), (0, x3), a4, (3, x5), a6] [(2, 103), (0, y1), (2, 101)] mr_SH M Q := by
  rw [x110_203, mf_80_26 hF, ml_80]
  exact ⟨fun h => h.2, fun h => ⟨by decide, h⟩⟩
theorem s110_207 (x1 : Int) (x2 : Int) (x3 : Int) (a4 : ma_V) (x5 : Int) (a6 : ma_V) (y0 : Int) (y2 : Int) (M : ma_M) (Q : Option ma_V → ma_S → ma_M → Prop) : ma_wp 110 207 [(2, 80), (0, x1), (0, x2), (0, x3), a4, (3, x5), a6] [(0, y0), (2, 103), (0, y2), (2, 101)] mr_SH M Q ↔ (0 ≤ y0 ∧ y0 < 5) ∧ ma_wp 110 208 [(2, 80), (0, x1), (0, x2), (0, x3), a4, (3, x5), a6] [(1, M 103 y0), (0, y2), (2, 101)] mr_SH M Q := by
  rw [x110_207, ml_103]
theorem s110_208 (x1 : Int) (x2 : Int) (x3 : Int) (a4 : ma_V) (x5 : Int) (a6 : ma_V) (y0 : Int) (y1 : Int) (M : ma_M) (Q : Option ma_V → ma_S → ma_M → Prop) : ma_wp 110 208 [(2, 80), (0, x1), (0, x2), (0, x3), a4, (3, x5), a6] [(1, y0), (0, y1), (2, 101)] mr_SH M Q ↔ (0 ≤ y1 ∧ y1 < 5) ∧ ma_wp 110 209 [(2, 80), (0, x1), (0, x2), (0, x3), a4, (3, x5), a6] [] mr_SH (ma_up M 101 y1 y0) Q := by
  rw [x110_208, ml_101]
theorem s110_215 (x1 : Int) (x2 : Int) (x3 : Int) (a4 : ma_V) (x5 : Int) (a6 : ma_V) (M : ma_M) (Q : Option ma_V → ma_S → ma_M → Prop) : ma_wp 110 215 [(2, 80), (0, x1), (0, x2), (0, x3), a4, (3, x5), a6] [] mr_SH M Q ↔ ma_wp 110 216 [(2, 80), (0, x1), (0, x2), (0, x3), a4, (3, x5), a6] [(2, 80)] mr_SH M Q := by
  rw [x110_215]
  exact ⟨fun h => h.2, fun h => ⟨by decide, h⟩⟩
theorem s110_218 (x1 : Int) (x2 : Int) (x3 : Int) (a4 : ma_V) (x5 : Int) (a6 : ma_V) (y0 : Int) (y1 : Int) (M : ma_M) (Q : Option ma_V → ma_S → ma_M → Prop) : ma_wp 110 218 [(2, 80), (0, x1), (0, x2), (0, x3), a4, (3, x5), a6] [(0, y0), (0, y1), (2, 80)] mr_SH M Q ↔ mr_do 109 [(2, 80), (0, y1), (0, y0)] mr_SH M (fun r sh M => ma_wp 110 221 [(2, 80), (0, x1), (0, x2), (0, x3), a4, (3, x5), a6] (r.toList ++ []) sh M Q) := by
  rw [x110_218, ml_80]
  exact ⟨fun h => h.2, fun h => ⟨by decide, h⟩⟩
