def mr_FIX (M : ma_M) : Prop := (M 0 0 = 1 ∧ M 0 1 = 8 ∧ M 0 2 = 35 ∧ M 0 3 = 37 ∧ M 0 4 = 42 ∧ M 0 5 = 50 ∧ M 0 6 = 51 ∧ M 0 7 = 52 ∧ M 0 8 = 53 ∧ M 0 9 = 54 ∧ M 0 10 = 55 ∧ M 0 12 = 56 ∧ M 0 13 = 78 ∧ M 0 14 = 79 ∧ M 1 2 = 2 ∧ M 1 3 = 3 ∧ M 1 4 = 4 ∧ M 1 5 = 5 ∧ M 1 6 = 6 ∧ M 1 7 = 7 ∧ M 8 0 = 9 ∧ M 8 1 = 34 ∧ M 35 0 = 36 ∧ M 37 0 = 38 ∧ M 37 1 = 39 ∧ M 37 2 = 40 ∧ M 37 3 = 41 ∧ M 42 0 = 43 ∧ M 80 1 = 81 ∧ M 80 2 = 82 ∧ M 80 3 = 83 ∧ M 80 4 = 84 ∧ M 80 6 = 85 ∧ M 80 7 = 86 ∧ M 80 8 = 87 ∧ M 80 10 = 88 ∧ M 80 11 = 89 ∧ M 80 12 = 90 ∧ M 80 13 = 91 ∧ M 80 14 = 92 ∧ M 80 15 = 93 ∧ M 80 16 = 94 ∧ M 80 17 = 95 ∧ M 80 18 = 96 ∧ M 80 19 = 97 ∧ M 80 20 = 98 ∧ M 80 21 = 99 ∧ M 80 23 = 100 ∧ M 80 24 = 101 ∧ M 80 25 = 102 ∧ M 80 26 = 103) ∧ (∀ i : Int, 0 ≤ i → i < 24 → M 9 i = 10 + i) ∧ (∀ i : Int, 0 ≤ i → i < 6 → M 43 i = 44 + i) ∧ (∀ i : Int, 0 ≤ i → i < 21 → M 56 i = 57 + i)
def mr_nst (c i : Int) : Prop := (c = 0 → i = 11 ∨ i = 15) ∧ (c = 1 → i = 0 ∨ i = 1) ∧ c ≠ 8 ∧ c ≠ 9 ∧ c ≠ 35 ∧ c ≠ 37 ∧ (c = 42 → i = 1) ∧ c ≠ 43 ∧ c ≠ 56 ∧ (c = 80 → i = 0 ∨ i = 5 ∨ i = 9 ∨ i = 22)
theorem mr_FIX_eq {M M' : ma_M} (h : mr_FIX M) (hM : ∀ c i, ¬ mr_nst c i → M' c i = M c i) : mr_FIX M' := by
  unfold mr_FIX at h ⊢
  refine ⟨?_, fun i h0 h1 => (hM 9 i (by unfold mr_nst; omega)).trans (h.2.1 i h0 h1), fun i h0 h1 => (hM 43 i (by unfold mr_nst; omega)).trans (h.2.2.1 i h0 h1), fun i h0 h1 => (hM 56 i (by unfold mr_nst; omega)).trans (h.2.2.2 i h0 h1)⟩
  rw [hM 0 0 (by unfold mr_nst; omega), hM 0 1 (by unfold mr_nst; omega), hM 0 2 (by unfold mr_nst; omega), hM 0 3 (by unfold mr_nst; omega), hM 0 4 (by unfold mr_nst; omega), hM 0 5 (by unfold mr_nst; omega), hM 0 6 (by unfold mr_nst; omega), hM 0 7 (by unfold mr_nst; omega), hM 0 8 (by unfold mr_nst; omega), hM 0 9 (by unfold mr_nst; omega), hM 0 10 (by unfold mr_nst; omega), hM 0 12 (by unfold mr_nst; omega), hM 0 13 (by unfold mr_nst; omega), hM 0 14 (by unfold mr_nst; omega), hM 1 2 (by unfold mr_nst; omega), hM 1 3 (by unfold mr_nst; omega), hM 1 4 (by unfold mr_nst; omega), hM 1 5 (by unfold mr_nst; omega), hM 1 6 (by unfold mr_nst; omega), hM 1 7 (by unfold mr_nst; omega), hM 8 0 (by unfold mr_nst; omega), hM 8 1 (by unfold mr_nst; omega), hM 35 0 (by unfold mr_nst; omega), hM 37 0 (by unfold mr_nst; omega), hM 37 1 (by unfold mr_nst; omega), hM 37 2 (by unfold mr_nst; omega), hM 37 3 (by unfold mr_nst; omega), hM 42 0 (by unfold mr_nst; omega), hM 80 1 (by unfold mr_nst; omega), hM 80 2 (by unfold mr_nst; omega), hM 80 3 (by unfold mr_nst; omega), hM 80 4 (by unfold mr_nst; omega), hM 80 6 (by unfold mr_nst; omega), hM 80 7 (by unfold mr_nst; omega), hM 80 8 (by unfold mr_nst; omega), hM 80 10 (by unfold mr_nst; omega), hM 80 11 (by unfold mr_nst; omega), hM 80 12 (by unfold mr_nst; omega), hM 80 13 (by unfold mr_nst; omega), hM 80 14 (by unfold mr_nst; omega), hM 80 15 (by unfold mr_nst; omega), hM 80 16 (by unfold mr_nst; omega), hM 80 17 (by unfold mr_nst; omega), hM 80 18 (by unfold mr_nst; omega), hM 80 19 (by unfold mr_nst; omega), hM 80 20 (by unfold mr_nst; omega), hM 80 21 (by unfold mr_nst; omega), hM 80 23 (by unfold mr_nst; omega), hM 80 24 (by unfold mr_nst; omega), hM 80 25 (by unfold mr_nst; omega), hM 80 26 (by unfold mr_nst; omega)]
  exact h.1
theorem mr_FIX_up {M : ma_M} {c i v : Int} (h : mr_FIX M) (hn : mr_nst c i) : mr_FIX (ma_up M c i v) := mr_FIX_eq h (fun c' i' hz => if_neg (fun q => hz (by rw [q.1, q.2]; exact hn)))
theorem mr_f {M : ma_M} (h : mr_FIX M) : M 0 0 = 1 ∧ M 0 1 = 8 ∧ M 0 2 = 35 ∧ M 0 3 = 37 ∧ M 0 4 = 42 ∧ M 0 5 = 50 ∧ M 0 6 = 51 ∧ M 0 7 = 52 ∧ M 0 8 = 53 ∧ M 0 9 = 54 ∧ M 0 10 = 55 ∧ M 0 12 = 56 ∧ M 0 13 = 78 ∧ M 0 14 = 79 ∧ M 1 2 = 2 ∧ M 1 3 = 3 ∧ M 1 4 = 4 ∧ M 1 5 = 5 ∧ M 1 6 = 6 ∧ M 1 7 = 7 ∧ M 8 0 = 9 ∧ M 8 1 = 34 ∧ M 35 0 = 36 ∧ M 37 0 = 38 ∧ M 37 1 = 39 ∧ M 37 2 = 40 ∧ M 37 3 = 41 ∧ M 42 0 = 43 ∧ M 80 1 = 81 ∧ M 80 2 = 82 ∧ M 80 3 = 83 ∧ M 80 4 = 84 ∧ M 80 6 = 85 ∧ M 80 7 = 86 ∧ M 80 8 = 87 ∧ M 80 10 = 88 ∧ M 80 11 = 89 ∧ M 80 12 = 90 ∧ M 80 13 = 91 ∧ M 80 14 = 92 ∧ M 80 15 = 93 ∧ M 80 16 = 94 ∧ M 80 17 = 95 ∧ M 80 18 = 96 ∧ M 80 19 = 97 ∧ M 80 20 = 98 ∧ M 80 21 = 99 ∧ M 80 23 = 100 ∧ M 80 24 = 101 ∧ M 80 25 = 102 ∧ M 80 26 = 103 := h.1
theorem mf_0_0 {M : ma_M} (h : mr_FIX M) : M 0 0 = 1 := h.1.1
theorem mf_0_1 {M : ma_M} (h : mr_FIX M) : M 0 1 = 8 := h.1.2.1
theorem mf_0_2 {M : ma_M} (h : mr_FIX M) : M 0 2 = 35 := h.1.2.2.1
theorem mf_0_3 {M : ma_M} (h : mr_FIX M) : M 0 3 = 37 := h.1.2.2.2.1
theorem mf_0_4 {M : ma_M} (h : mr_FIX M) : M 0 4 = 42 := h.1.2.2.2.2.1
theorem mf_0_5 {M : ma_M} (h : mr_FIX M) : M 0 5 = 50 := h.1.2.2.2.2.2.1
theorem mf_0_6 {M : ma_M} (h : mr_FIX M) : M 0 6 = 51 := h.1.2.2.2.2.2.2.1
theorem mf_0_7 {M : ma_M} (h : mr_FIX M) : M 0 7 = 52 := h.1.2.2.2.2.2.2.2.1
theorem mf_0_8 {M : ma_M} (h : mr_FIX M) : M 0 8 = 53 := h.1.2.2.2.2.2.2.2.2.1
theorem mf_0_9 {M : ma_M} (h : mr_FIX M) : M 0 9 = 54 := h.1.2.2.2.2.2.2.2.2.2.1
theorem mf_0_10 {M : ma_M} (h : mr_FIX M) : M 0 10 = 55 := h.1.2.2.2.2.2.2.2.2.2.2.1
theorem mf_0_12 {M : ma_M} (h : mr_FIX M) : M 0 12 = 56 := h.1.2.2.2.2.2.2.2.2.2.2.2.1
theorem mf_0_13 {M : ma_M} (h : mr_FIX M) : M 0 13 = 78 := h.1.2.2.2.2.2.2.2.2.2.2.2.2.1
theorem mf_0_14 {M : ma_M} (h : mr_FIX M) : M 0 14 = 79 := h.1.2.2.2.2.2.2.2.2.2.2.2.2.2.1
theorem mf_1_2 {M : ma_M} (h : mr_FIX M) : M 1 2 = 2 := h.1.2.2.2.2.2.2.2.2.2.2.2.2.2.2.1
theorem mf_1_3 {M : ma_M} (h : mr_FIX M) : M 1 3 = 3 := h.1.2.2.2.2.2.2.2.2.2.2.2.2.2.2.2.1
theorem mf_1_4 {M : ma_M} (h : mr_FIX M) : M 1 4 = 4 := h.1.2.2.2.2.2.2.2.2.2.2.2.2.2.2.2.2.1
theorem mf_1_5 {M : ma_M} (h : mr_FIX M) : M 1 5 = 5 := h.1.2.2.2.2.2.2.2.2.2.2.2.2.2.2.2.2.2.1
theorem mf_1_6 {M : ma_M} (h : mr_FIX M) : M 1 6 = 6 := h.1.2.2.2.2.2.2.2.2.2.2.2.2.2.2.2.2.2.2.1
theorem mf_1_7 {M : ma_M} (h : mr_FIX M) : M 1 7 = 7 := h.1.2.2.2.2.2.2.2.2.2.2.2.2.2.2.2.2.2.2.2.1
theorem mf_8_0 {M : ma_M} (h : mr_FIX M) : M 8 0 = 9 := h.1.2.2.2.2.2.2.2.2.2.2.2.2.2.2.2.2.2.2.2.2.1
theorem mf_8_1 {M : ma_M} (h : mr_FIX M) : M 8 1 = 34 := h.1.2.2.2.2.2.2.2.2.2.2.2.2.2.2.2.2.2.2.2.2.2.1
theorem mf_35_0 {M : ma_M} (h : mr_FIX M) : M 35 0 = 36 := h.1.2.2.2.2.2.2.2.2.2.2.2.2.2.2.2.2.2.2.2.2.2.2.1
theorem mf_37_0 {M : ma_M} (h : mr_FIX M) : M 37 0 = 38 := h.1.2.2.2.2.2.2.2.2.2.2.2.2.2.2.2.2.2.2.2.2.2.2.2.1
theorem mf_37_1 {M : ma_M} (h : mr_FIX M) : M 37 1 = 39 := h.1.2.2.2.2.2.2.2.2.2.2.2.2.2.2.2.2.2.2.2.2.2.2.2.2.1
theorem mf_37_2 {M : ma_M} (h : mr_FIX M) : M 37 2 = 40 := h.1.2.2.2.2.2.2.2.2.2.2.2.2.2.2.2.2.2.2.2.2.2.2.2.2.2.1
theorem mf_37_3 {M : ma_M} (h : mr_FIX M) : M 37 3 = 41 := h.1.2.2.2.2.2.2.2.2.2.2.2.2.2.2.2.2.2.2.2.2.2.2.2.2.2.2.1
theorem mf_42_0 {M : ma_M} (h : mr_FIX M) : M 42 0 = 43 := h.1.2.2.2.2.2.2.2.2.2.2.2.2.2.2.2.2.2.2.2.2.2.2.2.2.2.2.2.1
theorem mf_80_1 {M : ma_M} (h : mr_FIX M) : M 80 1 = 81 := h.1.2.2.2.2.2.2.2.2.2.2.2.2.2.2.2.2.2.2.2.2.2.2.2.2.2.2.2.2.1
theorem mf_80_2 {M : ma_M} (h : mr_FIX M) : M 80 2 = 82 := h.1.2.2.2.2.2.2.2.2.2.2.2.2.2.2.2.2.2.2.2.2.2.2.2.2.2.2.2.2.2.1
theorem mf_80_3 {M : ma_M} (h : mr_FIX M) : M 80 3 = 83 := h.1.2.2.2.2.2.2.2.2.2.2.2.2.2.2.2.2.2.2.2.2.2.2.2.2.2.2.2.2.2.2.1
theorem mf_80_4 {M : ma_M} (h : mr_FIX M) : M 80 4 = 84 := h.1.2.2.2.2.2.2.2.2.2.2.2.2.2.2.2.2.2.2.2.2.2.2.2.2.2.2.2.2.2.2.2.1
theorem mf_80_6 {M : ma_M} (h : mr_FIX M) : M 80 6 = 85 := h.1.2.2.2.2.2.2.2.2.2.2.2.2.2.2.2.2.2.2.2.2.2.2.2.2.2.2.2.2.2.2.2.2.1
theorem mf_80_7 {M : ma_M} (h : mr_FIX M) : M 80 7 = 86 := h.1.2.2.2.2.2.2.2.2.2.2.2.2.2.2.2.2.2.2.2.2.2.2.2.2.2.2.2.2.2.2.2.2.2.1
theorem mf_80_8 {M : ma_M} (h : mr_FIX M) : M 80 8 = 87 := h.1.2.2.2.2.2.2.2.2.2.2.2.2.2.2.2.2.2.2.2.2.2.2.2.2.2.2.2.2.2.2.2.2.2.2.1
theorem mf_80_10 {M : ma_M} (h : mr_FIX M) : M 80 10 = 88 := h.1.2.2.2.2.2.2.2.2.2.2.2.2.2.2.2.2.2.2.2.2.2.2.2.2.2.2.2.2.2.2.2.2.2.2.2.1
theorem mf_80_11 {M : ma_M} (h : mr_FIX M) : M 80 11 = 89 := h.1.2.2.2.2.2.2.2.2.2.2.2.2.2.2.2.2.2.2.2.2.2.2.2.2.2.2.2.2.2.2.2.2.2.2.2.2.1
theorem mf_80_12 {M : ma_M} (h : mr_FIX M) : M 80 12 = 90 := h.1.2.2.2.2.2.2.2.2.2.2.2.2.2.2.2.2.2.2.2.2.2.2.2.2.2.2.2.2.2.2.2.2.2.2.2.2.2.1
theorem mf_80_13 {M : ma_M} (h : mr_FIX M) : M 80 13 = 91 := h.1.2.2.2.2.2.2.2.2.2.2.2.2.2.2.2.2.2.2.2.2.2.2.2.2.2.2.2.2.2.2.2.2.2.2.2.2.2.2.1
theorem mf_80_14 {M : ma_M} (h : mr_FIX M) : M 80 14 = 92 := h.1.2.2.2.2.2.2.2.2.2.2.2.2.2.2.2.2.2.2.2.2.2.2.2.2.2.2.2.2.2.2.2.2.2.2.2.2.2.2.2.1
theorem mf_80_15 {M : ma_M} (h : mr_FIX M) : M 80 15 = 93 := h.1.2.2.2.2.2.2.2.2.2.2.2.2.2.2.2.2.2.2.2.2.2.2.2.2.2.2.2.2.2.2.2.2.2.2.2.2.2.2.2.2.1
theorem mf_80_16 {M : ma_M} (h : mr_FIX M) : M 80 16 = 94 := h.1.2.2.2.2.2.2.2.2.2.2.2.2.2.2.2.2.2.2.2.2.2.2.2.2.2.2.2.2.2.2.2.2.2.2.2.2.2.2.2.2.2.1
theorem mf_80_17 {M : ma_M} (h : mr_FIX M) : M 80 17 = 95 := h.1.2.2.2.2.2.2.2.2.2.2.2.2.2.2.2.2.2.2.2.2.2.2.2.2.2.2.2.2.2.2.2.2.2.2.2.2.2.2.2.2.2.2.1
theorem mf_80_18 {M : ma_M} (h : mr_FIX M) : M 80 18 = 96 := h.1.2.2.2.2.2.2.2.2.2.2.2.2.2.2.2.2.2.2.2.2.2.2.2.2.2.2.2.2.2.2.2.2.2.2.2.2.2.2.2.2.2.2.2.1
theorem mf_80_19 {M : ma_M} (h : mr_FIX M) : M 80 19 = 97 := h.1.2.2.2.2.2.2.2.2.2.2.2.2.2.2.2.2.2.2.2.2.2.2.2.2.2.2.2.2.2.2.2.2.2.2.2.2.2.2.2.2.2.2.2.2.1
theorem mf_80_20 {M : ma_M} (h : mr_FIX M) : M 80 20 = 98 := h.1.2.2.2.2.2.2.2.2.2.2.2.2.2.2.2.2.2.2.2.2.2.2.2.2.2.2.2.2.2.2.2.2.2.2.2.2.2.2.2.2.2.2.2.2.2.1
theorem mf_80_21 {M : ma_M} (h : mr_FIX M) : M 80 21 = 99 := h.1.2.2.2.2.2.2.2.2.2.2.2.2.2.2.2.2.2.2.2.2.2.2.2.2.2.2.2.2.2.2.2.2.2.2.2.2.2.2.2.2.2.2.2.2.2.2.1
theorem mf_80_23 {M : ma_M} (h : mr_FIX M) : M 80 23 = 100 := h.1.2.2.2.2.2.2.2.2.2.2.2.2.2.2.2.2.2.2.2.2.2.2.2.2.2.2.2.2.2.2.2.2.2.2.2.2.2.2.2.2.2.2.2.2.2.2.2.1
theorem mf_80_24 {M : ma_M} (h : mr_FIX M) : M 80 24 = 101 := h.1.2.2.2.2.2.2.2.2.2.2.2.2.2.2.2.2.2.2.2.2.2.2.2.2.2.2.2.2.2.2.2.2.2.2.2.2.2.2.2.2.2.2.2.2.2.2.2.2.1
theorem mf_80_25 {M : ma_M} (h : mr_FIX M) : M 80 25 = 102 := h.1.2.2.2.2.2.2.2.2.2.2.2.2.2.2.2.2.2.2.2.2.2.2.2.2.2.2.2.2.2.2.2.2.2.2.2.2.2.2.2.2.2.2.2.2.2.2.2.2.2.1
theorem mf_80_26 {M : ma_M} (h : mr_FIX M) : M 80 26 = 103 := h.1.2.2.2.2.2.2.2.2.2.2.2.2.2.2.2.2.2.2.2.2.2.2.2.2.2.2.2.2.2.2.2.2.2.2.2.2.2.2.2.2.2.2.2.2.2.2.2.2.2.2
theorem mg_9 {M : ma_M} (h : mr_FIX M) {i : Int} (h0 : 0 ≤ i) (h1 : i < 24) : M 9 i = 10 + i := h.2.1 i h0 h1
theorem mg_43 {M : ma_M} (h : mr_FIX M) {i : Int} (h0 : 0 ≤ i) (h1 : i < 6) : M 43 i = 44 + i := h.2.2.1 i h0 h1
theorem mg_56 {M : ma_M} (h : mr_FIX M) {i : Int} (h0 : 0 ≤ i) (h1 : i < 21) : M 56 i = 57 + i := h.2.2.2 i h0 h1
theorem ml_0 : ma_al mr_SH 0 4 = 16 := by decide +kernel
theorem ml_1 : ma_al mr_SH 1 5 = 8 := by decide +kernel
theorem ml_2 : ma_al mr_SH 2 0 = 24 := by decide +kernel
theorem ml_3 : ma_al mr_SH 3 0 = 24 := by decide +kernel
theorem ml_4 : ma_al mr_SH 4 0 = 24 := by decide +kernel
theorem ml_5 : ma_al mr_SH 5 0 = 24 := by decide +kernel
theorem ml_6 : ma_al mr_SH 6 0 = 24 := by decide +kernel
theorem ml_7 : ma_al mr_SH 7 0 = 5 := by decide +kernel
theorem ml_8 : ma_al mr_SH 8 6 = 2 := by decide +kernel
theorem ml_9 : ma_al mr_SH 9 3 = 24 := by decide +kernel
theorem ml_34 : ma_al mr_SH 34 0 = 24 := by decide +kernel
theorem ml_35 : ma_al mr_SH 35 7 = 1 := by decide +kernel
theorem ml_36 : ma_al mr_SH 36 0 = 24 := by decide +kernel
theorem ml_37 : ma_al mr_SH 37 8 = 4 := by decide +kernel
theorem ml_38 : ma_al mr_SH 38 2 = 24 := by decide +kernel
theorem ml_39 : ma_al mr_SH 39 2 = 24 := by decide +kernel
theorem ml_40 : ma_al mr_SH 40 2 = 24 := by decide +kernel
theorem ml_41 : ma_al mr_SH 41 0 = 24 := by decide +kernel
theorem ml_42 : ma_al mr_SH 42 9 = 2 := by decide +kernel
theorem ml_43 : ma_al mr_SH 43 3 = 6 := by decide +kernel
theorem ml_50 : ma_al mr_SH 50 0 = 5 := by decide +kernel
theorem ml_51 : ma_al mr_SH 51 0 = 5 := by decide +kernel
theorem ml_52 : ma_al mr_SH 52 0 = 5 := by decide +kernel
theorem ml_53 : ma_al mr_SH 53 0 = 5 := by decide +kernel
theorem ml_54 : ma_al mr_SH 54 0 = 5 := by decide +kernel
theorem ml_55 : ma_al mr_SH 55 0 = 5 := by decide +kernel
theorem ml_56 : ma_al mr_SH 56 3 = 21 := by decide +kernel
theorem ml_78 : ma_al mr_SH 78 0 = 5 := by decide +kernel
theorem ml_79 : ma_al mr_SH 79 0 = 5 := by decide +kernel
theorem ml_80 : ma_al mr_SH 80 10 = 27 := by decide +kernel
theorem ml_81 : ma_al mr_SH 81 0 = 24 := by decide +kernel
theorem ml_82 : ma_al mr_SH 82 0 = 24 := by decide +kernel
theorem ml_83 : ma_al mr_SH 83 0 = 24 := by decide +kernel
theorem ml_84 : ma_al mr_SH 84 1 = 24 := by decide +kernel
theorem ml_85 : ma_al mr_SH 85 0 = 5 := by decide +kernel
theorem ml_86 : ma_al mr_SH 86 1 = 5 := by decide +kernel
theorem ml_87 : ma_al mr_SH 87 1 = 5 := by decide +kernel
theorem ml_88 : ma_al mr_SH 88 0 = 5 := by decide +kernel
theorem ml_89 : ma_al mr_SH 89 1 = 5 := by decide +kernel
theorem ml_90 : ma_al mr_SH 90 1 = 45 := by decide +kernel
theorem ml_91 : ma_al mr_SH 91 1 = 216 := by decide +kernel
theorem ml_92 : ma_al mr_SH 92 1 = 9 := by decide +kernel
theorem ml_93 : ma_al mr_SH 93 2 = 24 := by decide +kernel
theorem ml_94 : ma_al mr_SH 94 2 = 24 := by decide +kernel
theorem ml_95 : ma_al mr_SH 95 2 = 24 := by decide +kernel
theorem ml_96 : ma_al mr_SH 96 0 = 5 := by decide +kernel
theorem ml_97 : ma_al mr_SH 97 2 = 24 := by decide +kernel
theorem ml_98 : ma_al mr_SH 98 2 = 576 := by decide +kernel
theorem ml_99 : ma_al mr_SH 99 0 = 126 := by decide +kernel
theorem ml_100 : ma_al mr_SH 100 1 = 5 := by decide +kernel
theorem ml_101 : ma_al mr_SH 101 1 = 5 := by decide +kernel
theorem ml_102 : ma_al mr_SH 102 1 = 5 := by decide +kernel
theorem ml_103 : ma_al mr_SH 103 1 = 5 := by decide +kernel
theorem ml_rows {i : Int} (h0 : 0 ≤ i) (h1 : i < 24) : ma_al mr_SH (10 + i) 0 = 9 := by
  have h : ∀ j, j < 24 → ma_al mr_SH (10 + (j : Nat)) 0 = 9 := by decide +kernel
  have := h i.toNat (by omega)
  rwa [Int.toNat_of_nonneg h0] at this
theorem ml_again {i : Int} (h0 : 0 ≤ i) (h1 : i < 6) : ma_al mr_SH (44 + i) 0 = 21 := by
  have h : ∀ j, j < 6 → ma_al mr_SH (44 + (j : Nat)) 0 = 21 := by decide +kernel
  have := h i.toNat (by omega)
  rwa [Int.toNat_of_nonneg h0] at this
theorem ml_stat {i : Int} (h0 : 0 ≤ i) (h1 : i < 21) : ma_al mr_SH (57 + i) 0 = 5 := by
  have h : ∀ j, j < 21 → ma_al mr_SH (57 + (j : Nat)) 0 = 5 := by decide +kernel
  have := h i.toNat (by omega)
  rwa [Int.toNat_of_nonneg h0] at this
/-! the start -/
def mr_Z (n : Int) (M : ma_M) : Prop := ∀ c i : Int, 0 ≤ c → c < n → mr_nst c i → M c i = 0
theorem mz_nw {n : Int} {M : ma_M} {f : Int → Int} (h : mr_Z n M) (hf : ∀ i, mr_nst n i → f i = 0) : mr_Z (n + 1) (ma_nw M n f) := by
  intro c i h0 h1 hn
  unfold ma_nw
  by_cases hc : c = n
  · rw [if_pos hc]
    subst hc
    exact hf i hn
  · rw [if_neg hc]
    exact h c i h0 (by omega) hn
theorem mz_up {n c0 i0 v : Int} {M : ma_M} (h : mr_Z n M) (hs : ¬ mr_nst c0 i0) : mr_Z n (ma_up M c0 i0 v) := by
  intro c i h0 h1 hn
  unfold ma_up
  rw [if_neg (fun z => hs (by rw [← z.1, ← z.2]; exact hn))]
  exact h c i h0 h1 hn
theorem mz_nm {n k : Int} {M : ma_M} (h : mr_Z n M) (hs : ∀ i, ¬ mr_nst n i) : mr_Z (n + 1 + k) (ma_nm M n k) := by
  intro c i h0 h1 hn
  unfold ma_nm
  by_cases hc : c = n
  · subst hc
    exact absurd hn (hs i)
  · rw [if_neg hc]
    by_cases hc2 : n < c ∧ c ≤ n + k
    · rw [if_pos hc2]
    · rw [if_neg hc2]
      exact h c i h0 (by omega) hn
theorem mz_c {n k : Int} {M : ma_M} (h : mr_Z n M) (e : n = k) : mr_Z k M := e ▸ h
def mr_M0 (M : ma_M) : ma_M := mi_72 (ma_nw (mi_40 (ma_nw M 0 (fun i => if ma_fk 0 i.toNat = 2 then -1 else 0))) 80 (fun i => if ma_fk 6 i.toNat = 2 then -1 else 0))
theorem mz_3 {M : ma_M} (h : mr_Z 2 M) : mr_Z 8 (mi_3 M) := by
  unfold mi_3
  exact (mz_up (mz_c (mz_nw (mz_up (mz_c (mz_nw (mz_up (mz_c (mz_nw (mz_up (mz_c (mz_nw (mz_up (mz_c (mz_nw (mz_up (mz_c (mz_nw h (fun _ _ => rfl)) (by decide)) (by unfold mr_nst; omega)) (fun _ _ => rfl)) (by decide)) (by unfold mr_nst; omega)) (fun _ _ => rfl)) (by decide)) (by unfold mr_nst; omega)) (fun _ _ => rfl)) (by decide)) (by unfold mr_nst; omega)) (fun _ _ => rfl)) (by decide)) (by unfold mr_nst; omega)) (fun _ _ => rfl)) (by decide)) (by unfold mr_nst; omega))
theorem mz_13 {M : ma_M} (h : mr_Z 9 M) : mr_Z 35 (mi_13 M) := by
  unfold mi_13
  exact (mz_up (mz_c (mz_nw (mz_up (mz_c (mz_nm (k := 24) h (fun i hi => by unfold mr_nst at hi; omega)) (by decide)) (by unfold mr_nst; omega)) (fun _ _ => rfl)) (by decide)) (by unfold mr_nst; omega))
theorem mz_24 {M : ma_M} (h : mr_Z 36 M) : mr_Z 37 (mi_24 M) := by
  unfold mi_24
  exact (mz_up (mz_c (mz_nw h (fun _ _ => rfl)) (by decide)) (by unfold mr_nst; omega))
theorem mz_30 {M : ma_M} (h : mr_Z 38 M) : mr_Z 42 (mi_30 M) := by
  unfold mi_30
  exact (mz_up (mz_c (mz_nw (mz_up (mz_c (mz_nw (mz_up (mz_c (mz_nw (mz_up (mz_c (mz_nw h (fun _ _ => rfl)) (by decide)) (by unfold mr_nst; omega)) (fun _ _ => rfl)) (by decide)) (by unfold mr_nst; omega)) (fun _ _ => rfl)) (by decide)) (by unfold mr_nst; omega)) (fun _ _ => rfl)) (by decide)) (by unfold mr_nst; omega))
theorem mz_36 {M : ma_M} (h : mr_Z 43 M) : mr_Z 50 (mi_36 M) := by
  unfold mi_36
  exact (mz_up (mz_c (mz_nm (k := 6) h (fun i hi => by unfold mr_nst at hi; omega)) (by decide)) (by unfold mr_nst; omega))
theorem mz_40 {M : ma_M} (h : mr_Z 1 M) : mr_Z 80 (mi_40 M) := by
  unfold mi_40
  exact (mz_up (mz_c (mz_nw (mz_up (mz_c (mz_nw (mz_up (mz_c (mz_nm (k := 21) (mz_up (mz_c (mz_nw (mz_up (mz_c (mz_nw (mz_up (mz_c (mz_nw (mz_up (mz_c (mz_nw (mz_up (mz_c (mz_nw (mz_up (mz_c (mz_nw (mz_up (mz_36 (mz_c (mz_nw (mz_up (mz_30 (mz_c (mz_nw (mz_up (mz_24 (mz_c (mz_nw (mz_up (mz_13 (mz_c (mz_nw (mz_up (mz_3 (mz_c (mz_nw h (fun i hi => by
    have h2 : i = 0 ∨ i = 1 := by unfold mr_nst at hi; omega
    rcases h2 with rfl | rfl <;> rfl)) (by decide))) (by unfold mr_nst; omega)) (fun i hi => by unfold mr_nst at hi; omega)) (by decide))) (by unfold mr_nst; omega)) (fun i hi => by unfold mr_nst at hi; omega)) (by decide))) (by unfold mr_nst; omega)) (fun i hi => by unfold mr_nst at hi; omega)) (by decide))) (by unfold mr_nst; omega)) (fun i hi => by
    have h2 : i = 1 := by unfold mr_nst at hi; omega
    rcases h2 with rfl <;> rfl)) (by decide))) (by unfold mr_nst; omega)) (fun _ _ => rfl)) (by decide)) (by unfold mr_nst; omega)) (fun _ _ => rfl)) (by decide)) (by unfold mr_nst; omega)) (fun _ _ => rfl)) (by decide)) (by unfold mr_nst; omega)) (fun _ _ => rfl)) (by decide)) (by unfold mr_nst; omega)) (fun _ _ => rfl)) (by decide)) (by unfold mr_nst; omega)) (fun _ _ => rfl)) (by decide)) (by unfold mr_nst; omega)) (fun i hi => by unfold mr_nst at hi; omega)) (by decide)) (by unfold mr_nst; omega)) (fun _ _ => rfl)) (by decide)) (by unfold mr_nst; omega)) (fun _ _ => rfl)) (by decide)) (by unfold mr_nst; omega))
theorem mz_72 {M : ma_M} (h : mr_Z 81 M) : mr_Z 104 (mi_72 M) := by
  unfold mi_72
  exact (mz_up (mz_c (mz_nw (mz_up (mz_c (mz_nw (mz_up (mz_c (mz_nw (mz_up (mz_c (mz_nw (mz_up (mz_c (mz_nw (mz_up (mz_c (mz_nw (mz_up (mz_c (mz_nw (mz_up (mz_c (mz_nw (mz_up (mz_c (mz_nw (mz_up (mz_c (mz_nw (mz_up (mz_c (mz_nw (mz_up (mz_c (mz_nw (mz_up (mz_c (mz_nw (mz_up (mz_c (mz_nw (mz_up (mz_c (mz_nw (mz_up (mz_c (mz_nw (mz_up (mz_c (mz_nw (mz_up (mz_c (mz_nw (mz_up (mz_c (mz_nw (mz_up (mz_c (mz_nw (mz_up (mz_c (mz_nw (mz_up (mz_c (mz_nw (mz_up (mz_c (mz_nw h (fun _ _ => rfl)) (by decide)) (by unfold mr_nst; omega)) (fun _ _ => rfl)) (by decide)) (by unfold mr_nst; omega)) (fun _ _ => rfl)) (by decide)) (by unfold mr_nst; omega)) (fun _ _ => rfl)) (by decide)) (by unfold mr_nst; omega)) (fun _ _ => rfl)) (by decide)) (by unfold mr_nst; omega)) (fun _ _ => rfl)) (by decide)) (by unfold mr_nst; omega)) (fun _ _ => rfl)) (by decide)) (by unfold mr_nst; omega)) (fun _ _ => rfl)) (by decide)) (by unfold mr_nst; omega)) (fun _ _ => rfl)) (by decide)) (by unfold mr_nst; omega)) (fun _ _ => rfl)) (by decide)) (by unfold mr_nst; omega)) (fun _ _ => rfl)) (by decide)) (by unfold mr_nst; omega)) (fun _ _ => rfl)) (by decide)) (by unfold mr_nst; omega)) (fun _ _ => rfl)) (by decide)) (by unfold mr_nst; omega)) (fun _ _ => rfl)) (by decide)) (by unfold mr_nst; omega)) (fun _ _ => rfl)) (by decide)) (by unfold mr_nst; omega)) (fun _ _ => rfl)) (by decide)) (by unfold mr_nst; omega)) (fun _ _ => rfl)) (by decide)) (by unfold mr_nst; omega)) (fun _ _ => rfl)) (by decide)) (by unfold mr_nst; omega)) (fun _ _ => rfl)) (by decide)) (by unfold mr_nst; omega)) (fun _ _ => rfl)) (by decide)) (by unfold mr_nst; omega)) (fun _ _ => rfl)) (by decide)) (by unfold mr_nst; omega)) (fun _ _ => rfl)) (by decide)) (by unfold mr_nst; omega)) (fun _ _ => rfl)) (by decide)) (by unfold mr_nst; omega))
theorem mr_M0_Z (M : ma_M) : mr_Z 104 (mr_M0 M) := by
  unfold mr_M0
  have h : mr_Z 0 M := fun c i h0 h1 => by omega
  exact mz_72 (mz_c (mz_nw (mz_40 (mz_c (mz_nw h (fun i hi => by
    have h2 : i = 11 ∨ i = 15 := by unfold mr_nst at hi; omega
    rcases h2 with rfl | rfl <;> rfl)) (by decide))) (fun i hi => by
    have h2 : i = 0 ∨ i = 5 ∨ i = 9 ∨ i = 22 := by unfold mr_nst at hi; omega
    rcases h2 with rfl | rfl | rfl | rfl <;> rfl)) (by decide))
set_option maxRecDepth 20000 in
set_option maxHeartbeats 4000000 in
theorem mr_M0_FIX (M : ma_M) : mr_FIX (mr_M0 M) := by
  unfold mr_FIX
  refine ⟨?_, fun i h0 h1 => ?_, fun i h0 h1 => ?_, fun i h0 h1 => ?_⟩
  · simp [mr_M0, mi_3, mi_13, mi_24, mi_30, mi_36, mi_40, mi_72, ma_up, ma_nw, ma_nm]
  all_goals (simp [mr_M0, mi_3, mi_13, mi_24, mi_30, mi_36, mi_40, mi_72, ma_up, ma_nw, ma_nm]; try omega)
theorem mr_M0_scr (M : ma_M) (i : Int) : mr_M0 M (-2) i = M (-2) i := by
  simp [mr_M0, mi_3, mi_13, mi_24, mi_30, mi_36, mi_40, mi_72, ma_up, ma_nw, ma_nm]
set_option maxRecDepth 20000 in
theorem lw_init (M : ma_M) (Q : Option ma_V → ma_S → ma_M → Prop) : ma_wp 113 0 [(2, -2), (3, 0), (3, 0), (3, 0)] [] [] M Q ↔ ma_wp 113 18 [(2, -2), (2, 0), (2, 80), (0, 0)] [] mr_SH (mr_M0 M) Q := by
  simp [x113_0, x113_3, x113_4, x113_7, x113_8, x113_11, x113_12, x113_15, x113_16, x113_17, mi_40_run, mi_72_run, mr_M0, mr_SH]
