/-- cells that a call may write as it likes -/
def mr_scr (c : Int) : Prop := c = 34 ∨ c = 36 ∨ (38 ≤ c ∧ c ≤ 41) ∨ c = 52 ∨ c = 53 ∨ (57 ≤ c ∧ c ≤ 77) ∨ (90 ≤ c ∧ c ≤ 99) ∨ c = 102 ∨ c = 103 ∨ (10 ≤ c ∧ c ≤ 33)
theorem mr_nd_eq {M M' : ma_M} {v : Int} (h : mr_nd M v) (h0 : 0 ≤ v) (hv : v < 24) (e2 : M' 2 v = M 2 v) (e3 : M' 3 v = M 3 v) (e4 : M' 4 v = M 4 v) (e5 : M' 5 v = M 5 v) (e6 : ∀ u, 0 ≤ u → u ≤ v → M' 6 u = M 6 u) (e81 : M' 81 v = M 81 v) (e82 : M' 82 v = M 82 v) (e83 : M' 83 v = M 83 v) (e84 : M' 84 v = M 84 v) (e11 : M 1 1 ≤ M' 1 1) (e7 : ∀ j, 0 ≤ j → j < M 1 1 → M' 7 j = M 7 j)
    (er : ∀ k, 0 ≤ k → k ≤ 8 → (M 2 v = 7 ∧ 2 ≤ k) ∨ (M 2 v = 8 ∧ 1 ≤ k) → M' (10 + v) k = M (10 + v) k) : mr_nd M' v := by
  unfold mr_nd at h ⊢
  obtain ⟨a, b, c, d, f⟩ := h
  rw [e2, e3, e4, e5, e81, e82, e83, e84, e6 v h0 (by omega)]
  refine ⟨a, fun z => ?_, fun z => ?_, fun z => ?_, fun z => ?_⟩
  · have b := b z
    rw [e6 (M 3 v) (by omega) (by omega), e6 (M 4 v) (by omega) (by omega)]
    exact b
  · have c := c z
    rw [e6 (M 3 v) (by omega) (by omega), e6 (M 4 v) (by omega) (by omega)]
    exact c
  · have d := d z
    rw [e7 (M 5 v) (by omega) (by omega)]
    exact ⟨d.1, d.2.1, by omega, d.2.2.2.1, d.2.2.2.2.1, fun k h1 h2 => (er k (by omega) h2 (Or.inl ⟨z, h1⟩)).trans (d.2.2.2.2.2 k h1 h2)⟩
  · have f := f z
    exact ⟨f.1, f.2.1, f.2.2.1, f.2.2.2.1, fun k h1 h2 => (er k (by omega) h2 (Or.inr ⟨z, h1⟩)).trans (f.2.2.2.2 k h1 h2)⟩
theorem mr_INV_scr {M M' : ma_M} (hI : mr_INV M) (h : ∀ c i, ¬ mr_scr c → M' c i = M c i) (hrow : ∀ v k, 0 ≤ v → v < 24 → 0 ≤ k → k ≤ 8 → M 1 0 ≤ v ∨ (M 2 v = 7 ∧ 2 ≤ k) ∨ (M 2 v = 8 ∧ 1 ≤ k) → M' (10 + v) k = M (10 + v) k) : mr_INV M' := by
  obtain ⟨hF, hcnt, hnd, hfr, hin, hnum, hout, hmar, hsn⟩ := hI
  have z : ∀ c, (c < 10 ∨ c = 35 ∨ c = 37 ∨ (42 ≤ c ∧ c ≤ 51) ∨ (54 ≤ c ∧ c ≤ 56) ∨ (78 ≤ c ∧ c ≤ 89) ∨ c = 100 ∨ c = 101) → ∀ i, M' c i = M c i := fun c hc i => h c i (by unfold mr_scr; omega)
  refine ⟨mr_FIX_eq hF (fun c i hn => z c (by unfold mr_nst at hn; omega) i), ?_, fun v h0 hv => ?_, fun v h0 hv => ?_, fun j h0 hj => ?_, fun j h0 hj => ?_, fun i h0 hi => ?_, ?_, ?_⟩
  · unfold mr_cnt at hcnt ⊢
    rw [z 1 (by omega), z 1 (by omega), z 80 (by omega), z 80 (by omega), z 80 (by omega), z 0 (by omega)]
    exact hcnt
  · rw [z 1 (by omega)] at hv
    have hc := hcnt.1
    exact mr_nd_eq (hnd v h0 hv) h0 (by omega) (z 2 (by omega) v) (z 3 (by omega) v) (z 4 (by omega) v) (z 5 (by omega) v) (fun u _ _ => z 6 (by omega) u) (z 81 (by omega) v) (z 82 (by omega) v) (z 83 (by omega) v) (z 84 (by omega) v) (by rw [z 1 (by omega)]; omega) (fun j _ _ => z 7 (by omega) j) (fun k h1 h2 h3 => hrow v k h0 (by omega) h1 h2 (Or.inr h3))
  · rw [z 1 (by omega)] at h0
    have hc := hcnt.1
    obtain ⟨a, b⟩ := hfr v h0 hv
    exact ⟨(z 6 (by omega) v).trans a, fun k h1 h2 => (hrow v k (by omega) hv h1 h2 (Or.inl h0)).trans (b k h1 h2)⟩
  · rw [z 1 (by omega)] at hj
    have a := hin j h0 hj
    rw [z 7 (by omega), z 1 (by omega), z 85 (by omega), z 2 (by omega), z 5 (by omega)]
    exact a
  · rw [z 86 (by omega), z 50 (by omega), z 87 (by omega), z 51 (by omega), z 89 (by omega), z 55 (by omega)]
    exact hnum j h0 hj
  · rw [z 0 (by omega)] at hi
    rw [z 88 (by omega), z 54 (by omega), z 1 (by omega)]
    exact hout i h0 hi
  · unfold mr_mar at hmar ⊢
    rw [z 0 (by omega), z 80 (by omega)]
    refine ⟨hmar.1, fun j h0 hj => ?_⟩
    rw [z 100 (by omega), z 78 (by omega), z 101 (by omega), z 79 (by omega)]
    exact hmar.2 j h0 hj
  · unfold mr_snp at hsn ⊢
    rw [z 42 (by omega)]
    rcases hsn with ⟨a, b⟩ | ⟨a, b⟩
    · exact Or.inl ⟨a, fun s n h1 h2 h3 h4 => (z (44 + s) (by omega) n).trans (b s n h1 h2 h3 h4)⟩
    · exact Or.inr ⟨a, fun s n h1 h2 h3 h4 => (z (44 + s) (by omega) n).trans (b s n h1 h2 h3 h4)⟩
def mr_nd0 (M : ma_M) (v : Int) : Prop := (M 81 v = M 2 v ∧ 0 ≤ M 2 v ∧ M 2 v ≤ 8) ∧
  (M 2 v ≤ 5 → 0 ≤ M 3 v ∧ M 3 v < v ∧ 0 ≤ M 4 v ∧ M 4 v < v ∧ M 82 v = M 3 v ∧ M 83 v = M 4 v ∧ M 5 v = 0 ∧ M 6 v = ma_or (M 6 (M 3 v)) (M 6 (M 4 v))) ∧
  (M 2 v = 6 → 0 ≤ M 3 v ∧ M 3 v < v ∧ M 4 v = M 3 v ∧ M 82 v = M 3 v ∧ M 83 v = M 5 v ∧ 0 ≤ M 5 v ∧ M 5 v ≤ 9 ∧ M 6 v = if M 5 v = 0 then 0 else ma_or (M 6 (M 3 v)) (M 6 (M 4 v))) ∧
  (M 2 v = 7 → M 82 v = M 5 v ∧ 0 ≤ M 5 v ∧ M 5 v < M 1 1 ∧ M 7 (M 5 v) = v ∧ M 6 v = ma_shl 1 (M 5 v)) ∧
  (M 2 v = 8 → M 84 v = M 5 v ∧ 0 ≤ M 5 v ∧ M 5 v < 65521 ∧ M 6 v = 0)
theorem mr_nd0_of {M : ma_M} {v : Int} (h : mr_nd0 M v) (hr : ∀ k : Int, 0 ≤ k → k ≤ 8 → M (10 + v) k = 0) : mr_nd M v := by
  obtain ⟨a, b, c, d, f⟩ := h
  exact ⟨a, b, c, fun z => ⟨(d z).1, (d z).2.1, (d z).2.2.1, (d z).2.2.2.1, (d z).2.2.2.2, fun k h1 h2 => hr k (by omega) h2⟩, fun z => ⟨(f z).1, (f z).2.1, (f z).2.2.1, (f z).2.2.2, fun k h1 h2 => hr k (by omega) h2⟩⟩
theorem mr_INV_add {M M' : ma_M} (hI : mr_INV M) (hN : M 1 0 < 24) (hF' : mr_FIX M') (a1 : M' 1 0 = M 1 0 + 1) (a2 : M' 80 0 = M 1 0 + 1) (hc : ∀ c i, (2 ≤ c ∧ c ≤ 6) ∨ (81 ≤ c ∧ c ≤ 84) → i ≠ M 1 0 → M' c i = M c i) (ho : ∀ c i, (c = 0 ∨ (10 ≤ c ∧ c ≤ 33) ∨ (42 ≤ c ∧ c ≤ 51) ∨ (54 ≤ c ∧ c ≤ 55) ∨ c = 78 ∨ c = 79 ∨ (86 ≤ c ∧ c ≤ 89) ∨ c = 100 ∨ c = 101) → M' c i = M c i) (h80 : M' 80 9 = M 80 9 ∧ M' 80 22 = M 80 22)
    (hin' : (M' 1 1 = M 1 1 ∧ M' 80 5 = M 1 1 ∧ ∀ j, M' 7 j = M 7 j ∧ M' 85 j = M 85 j) ∨ (M' 1 1 = M 1 1 + 1 ∧ M' 80 5 = M 1 1 + 1 ∧ M 1 1 < 5 ∧ M' 7 (M 1 1) = M 1 0 ∧ M' 85 (M 1 1) = M 1 0 ∧ (∀ j, j ≠ M 1 1 → M' 7 j = M 7 j ∧ M' 85 j = M 85 j) ∧ M' 2 (M 1 0) = 7 ∧ M' 5 (M 1 0) = M 1 1)) (hnew : mr_nd0 M' (M 1 0)) : mr_INV M' := by
  obtain ⟨hF, hcnt, hnd, hfr, hin, hnum, hout, hmar, hsn⟩ := hI
  have hcn := hcnt
  unfold mr_cnt at hcn
  have hI1 : M 1 1 ≤ M' 1 1 ∧ M' 1 1 ≤ 5 ∧ M' 80 5 = M' 1 1 := by
    rcases hin' with h | h <;> omega
  have h7 : ∀ j, 0 ≤ j → j < M 1 1 → M' 7 j = M 7 j ∧ M' 85 j = M 85 j := fun j h0 hj => by
    rcases hin' with h | h
    · exact h.2.2 j
    · exact h.2.2.2.2.2.1 j (by omega)
  refine ⟨hF', ?_, fun v h0 hv => ?_, fun v h0 hv => ?_, fun j h0 hj => ?_, fun j h0 hj => ?_, fun i h0 hi => ?_, ?_, ?_⟩
  · unfold mr_cnt
    rw [a1, a2, h80.1, ho 0 11 (by omega)]
    omega
  · rw [a1] at hv
    by_cases e : v = M 1 0
    · subst e
      exact mr_nd0_of hnew (fun k h1 h2 => (ho (10 + M 1 0) k (by omega)).trans ((hfr (M 1 0) (by omega) (by omega)).2 k h1 h2))
    · exact mr_nd_eq (hnd v h0 (by omega)) h0 (by omega) (hc 2 v (by omega) e) (hc 3 v (by omega) e) (hc 4 v (by omega) e) (hc 5 v (by omega) e) (fun u h1 h2 => hc 6 u (by omega) (by omega)) (hc 81 v (by omega) e) (hc 82 v (by omega) e) (hc 83 v (by omega) e) (hc 84 v (by omega) e) hI1.1 (fun j h1 h2 => (h7 j h1 h2).1) (fun k _ _ _ => ho (10 + v) k (by omega))
  · rw [a1] at h0
    obtain ⟨a, b⟩ := hfr v (by omega) hv
    exact ⟨(hc 6 v (by omega) (by omega)).trans a, fun k h1 h2 => (ho (10 + v) k (by omega)).trans (b k h1 h2)⟩
  · rw [a1]
    by_cases e : j < M 1 1
    · obtain ⟨b1, b2, b3, b4, b5⟩ := hin j h0 e
      rw [(h7 j h0 e).1, (h7 j h0 e).2, hc 2 (M 7 j) (by omega) (by omega), hc 5 (M 7 j) (by omega) (by omega)]
      exact ⟨b1, by omega, b3, b4, b5⟩
    · rcases hin' with h | h
      · omega
      · have ej : j = M 1 1 := by omega
        subst ej
        rw [h.2.2.2.1, h.2.2.2.2.1]
        exact ⟨by omega, by omega, rfl, h.2.2.2.2.2.2.1, h.2.2.2.2.2.2.2⟩
  · rw [ho 86 j (by omega), ho 50 j (by omega), ho 87 j (by omega), ho 51 j (by omega), ho 89 j (by omega), ho 55 j (by omega)]
    exact hnum j h0 hj
  · rw [ho 0 11 (by omega)] at hi
    rw [ho 88 i (by omega), ho 54 i (by omega), a1]
    have := hout i h0 hi
    omega
  · unfold mr_mar at hmar ⊢
    rw [ho 0 15 (by omega), h80.2]
    refine ⟨hmar.1, fun j h0 hj => ?_⟩
    rw [ho 100 j (by omega), ho 78 j (by omega), ho 101 j (by omega), ho 79 j (by omega)]
    exact hmar.2 j h0 hj
  · unfold mr_snp at hsn ⊢
    rw [ho 42 1 (by omega)]
    rcases hsn with ⟨a, b⟩ | ⟨a, b⟩
    · exact Or.inl ⟨a, fun s n h1 h2 h3 h4 => (ho (44 + s) n (by omega)).trans (b s n h1 h2 h3 h4)⟩
    · exact Or.inr ⟨a, fun s n h1 h2 h3 h4 => (ho (44 + s) n (by omega)).trans (b s n h1 h2 h3 h4)⟩
