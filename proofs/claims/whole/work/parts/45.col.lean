/-! colours -/
def md_b (M : ma_M) (v j : Int) : Prop := ¬ ma_and (ma_shr (M 6 v) j) 1 = 0
def md_cf (M : ma_M) (j k : Int) : Prop := ∃ i, 0 ≤ i ∧ i < M 0 11 ∧ md_b M (M 54 i) j ∧ md_b M (M 54 i) k
theorem md_cf_c {M : ma_M} {j k : Int} : md_cf M j k ↔ md_cf M k j := by
  constructor
  · rintro ⟨i, a, b, c, d⟩; exact ⟨i, a, b, d, c⟩
  · rintro ⟨i, a, b, c, d⟩; exact ⟨i, a, b, d, c⟩
theorem md_cf_eq {M M' : ma_M} (h : ∀ c i, c = 0 ∨ c = 6 ∨ c = 54 → M' c i = M c i) {j k : Int} : md_cf M' j k ↔ md_cf M j k := by
  unfold md_cf md_b
  rw [h 0 11 (by omega)]
  simp only [h 54 _ (by omega), h 6 _ (by omega)]
theorem mb_or2 {x d : Int} (hx0 : 0 ≤ x) (hx : x < 64) (hd0 : 0 ≤ d) (hd : d < 6) : (0 ≤ ma_or x (ma_shl 1 d) ∧ ma_or x (ma_shl 1 d) < 64) ∧ ∀ j : Int, 0 ≤ j → j < 6 → (ma_and (ma_shr (ma_or x (ma_shl 1 d)) j) 1 = 0 ↔ ma_and (ma_shr x j) 1 = 0 ∧ d ≠ j) := by
  have h : ∀ a, a < 64 → ∀ b, b < 6 → (0 ≤ ma_or ((a : Nat) : Int) (ma_shl 1 ((b : Nat) : Int)) ∧ ma_or ((a : Nat) : Int) (ma_shl 1 ((b : Nat) : Int)) < 64) ∧ ∀ j, j < 6 → (ma_and (ma_shr (ma_or ((a : Nat) : Int) (ma_shl 1 ((b : Nat) : Int))) ((j : Nat) : Int)) 1 = 0 ↔ ma_and (ma_shr ((a : Nat) : Int) ((j : Nat) : Int)) 1 = 0 ∧ ((b : Nat) : Int) ≠ ((j : Nat) : Int)) := by decide +kernel
  have h1 := h x.toNat (by omega) d.toNat (by omega)
  rw [Int.toNat_of_nonneg hx0, Int.toNat_of_nonneg hd0] at h1
  refine ⟨h1.1, fun j hj0 hj => ?_⟩
  have h2 := h1.2 j.toNat (by omega)
  rw [Int.toNat_of_nonneg hj0] at h2
  exact h2
theorem mb_06 {j : Int} (hj0 : 0 ≤ j) (hj : j < 6) : ma_and (ma_shr 0 j) 1 = 0 := by
  have h : ∀ j, j < 6 → ma_and (ma_shr 0 ((j : Nat) : Int)) 1 = 0 := by decide +kernel
  have h1 := h j.toNat (by omega)
  rw [Int.toNat_of_nonneg hj0] at h1
  exact h1
set_option maxHeartbeats 1000000 in
theorem md_xc {M : ma_M} (hI : mr_INV M) {j k : Int} {Q : Option ma_V → ma_S → ma_M → Prop} (q1 : md_cf M j k → Q (some (0, 1)) mr_SH M) (q0 : ¬ md_cf M j k → Q (some (0, 0)) mr_SH M) :
    ∀ (n : Nat) (i : Int), (M 0 11 - i).toNat < n → 0 ≤ i → i ≤ M 0 11 → (∀ u, 0 ≤ u → u < i → ¬ (md_b M (M 54 u) j ∧ md_b M (M 54 u) k)) → ma_wp 69 2 [(2, 0), (0, j), (0, k), (0, i)] [] mr_SH M Q := by
  obtain ⟨hF, ⟨⟨n1, n2, n3⟩, ⟨i1, i2, i3⟩, ⟨o1, o2, o3⟩⟩, hnd, hfr, hin, hnum, hout, hmar, hsn⟩ := id hI
  intro n
  induction n with
  | zero => intro i h; omega
  | succ n ih =>
    intro i hn h0 hi hu
    simp (disch := (first | assumption | omega | ((repeat (refine mr_FIX_up ?_ (by unfold mr_nst; omega))); assumption))) only [x69_2, s69_3, s69_4, x69_7]
    refine ⟨fun h => ?_, fun h => ?_⟩
    · simp (disch := (first | assumption | omega | ((repeat (refine mr_FIX_up ?_ (by unfold mr_nst; omega))); assumption))) only [x69_52, x69_53]
      refine ⟨by simp, q0 ?_⟩
      rintro ⟨u, a, b, c, d⟩
      exact hu u a (by omega) ⟨c, d⟩
    · have ho := hout i h0 (by omega)
      have e3 : ma_32 (i + 1) = i + 1 := ma_32i (by omega) (by omega)
      have next : ¬ (md_b M (M 54 i) j ∧ md_b M (M 54 i) k) → ma_wp 69 2 [(2, 0), (0, j), (0, k), (0, i + 1)] [] mr_SH M Q := fun hz => ih (i + 1) (by omega) (by omega) (by omega) (fun u u0 u1 => by
        by_cases e : u = i
        · subst e; exact hz
        · exact hu u u0 (by omega))
      simp (disch := (first | assumption | omega | ((repeat (refine mr_FIX_up ?_ (by unfold mr_nst; omega))); assumption))) only [s69_10, s69_11, s69_14, s69_15, x69_18, s69_19, x69_20, s69_21]
      refine ⟨by omega, ?_⟩
      rw [md_reaches hF (by omega) (by omega)]
      simp only [Option.toList_some, Option.toList_none, List.cons_append, List.nil_append]
      by_cases b1 : md_b M (M 54 i) j
      · have b1' := b1
        unfold md_b at b1'
        rw [if_neg b1']
        simp (disch := (first | assumption | omega | ((repeat (refine mr_FIX_up ?_ (by unfold mr_nst; omega))); assumption))) only [x69_24, s69_27, s69_28, s69_31, s69_32, x69_35, s69_36, x69_37, s69_38]
        refine ⟨fun z => absurd z (by decide), fun _ => ⟨by omega, ?_⟩⟩
        rw [md_reaches hF (by omega) (by omega)]
        simp only [Option.toList_some, Option.toList_none, List.cons_append, List.nil_append]
        by_cases b2 : md_b M (M 54 i) k
        · have b2' := b2
          unfold md_b at b2'
          rw [if_neg b2']
          simp (disch := (first | assumption | omega | ((repeat (refine mr_FIX_up ?_ (by unfold mr_nst; omega))); assumption))) only [x69_41, x69_44, x69_45]
          exact ⟨fun z => absurd z (by decide), fun _ => ⟨by simp, q1 ⟨i, h0, by omega, b1, b2⟩⟩⟩
        · have b2' := b2
          unfold md_b at b2'
          rw [if_pos (Decidable.not_not.mp b2')]
          simp (disch := (first | assumption | omega | ((repeat (refine mr_FIX_up ?_ (by unfold mr_nst; omega))); assumption))) only [x69_41, x69_44, x69_45, x69_46, x69_49, e3]
          exact ⟨fun _ => next (fun z => b2 z.2), fun z => absurd rfl z⟩
      · have b1' := b1
        unfold md_b at b1'
        rw [if_pos (Decidable.not_not.mp b1')]
        simp (disch := (first | assumption | omega | ((repeat (refine mr_FIX_up ?_ (by unfold mr_nst; omega))); assumption))) only [x69_24, x69_46, x69_49, e3]
        exact ⟨fun _ => next (fun z => b1 z.1), fun z => absurd rfl z⟩
theorem md_xcf {M : ma_M} (hI : mr_INV M) {j k : Int} {Q : Option ma_V → ma_S → ma_M → Prop} (q1 : md_cf M j k → Q (some (0, 1)) mr_SH M) (q0 : ¬ md_cf M j k → Q (some (0, 0)) mr_SH M) : mr_do 69 [(2, 0), (0, j), (0, k)] mr_SH M Q := by
  have hc := hI.2.1
  unfold mr_cnt at hc
  rw [x69, x69_0, x69_1]
  exact md_xc hI q1 q0 ((M 0 11).toNat + 1) 0 (by omega) (by omega) (by omega) (fun u h0 h1 => by omega)
/-- the least bit of T that is 0, 5 if there is none -/
theorem md_lf {T : Int} {sh : ma_S} {M : ma_M} {Q : Option ma_V → ma_S → ma_M → Prop} (q : ∀ r : Int, 0 ≤ r → r ≤ 5 → (∀ c, 0 ≤ c → c < r → ¬ ma_and (ma_shr T c) 1 = 0) → (r < 5 → ma_and (ma_shr T r) 1 = 0) → Q (some (0, r)) sh M) : ∀ (n : Nat) (r : Int), (5 - r).toNat < n → 0 ≤ r → r ≤ 5 → (∀ c, 0 ≤ c → c < r → ¬ ma_and (ma_shr T c) 1 = 0) → ma_wp 68 2 [(0, T), (0, r)] [] sh M Q := by
  intro n
  induction n with
  | zero => intro r h; omega
  | succ n ih =>
    intro r hn h0 h5 hc
    simp (disch := (first | assumption | omega | ((repeat (refine mr_FIX_up ?_ (by unfold mr_nst; omega))); assumption))) only [x68_2, x68_3, x68_4]
    refine ⟨fun h => ?_, fun h => ?_⟩
    · simp only [x68_21, x68_22]
      exact q r h0 h5 hc (fun z => by omega)
    · have e3 : ma_32 (r + 1) = r + 1 := ma_32i (by omega) (by omega)
      simp (disch := (first | assumption | omega | ((repeat (refine mr_FIX_up ?_ (by unfold mr_nst; omega))); assumption))) only [x68_7, x68_8, x68_9, x68_10, x68_11, x68_12, x68_15, x68_18, x68_21, x68_22, e3]
      refine ⟨fun z => q r h0 h5 hc (fun _ => z), fun z => ih (r + 1) (by omega) (by omega) (by omega) (fun c c0 c1 => ?_)⟩
      by_cases e : c = r
      · subst e; exact z
      · exact hc c c0 (by omega)
def md_col (M : ma_M) (f : Int → Int) (j : Int) : Prop := (0 ≤ f j ∧ f j ≤ 5) ∧ (∀ c, 0 ≤ c → c < f j → ∃ k, 0 ≤ k ∧ k < j ∧ f k = c ∧ md_cf M k j) ∧ (f j < 5 → ∀ k, 0 ≤ k → k < j → f k = f j → ¬ md_cf M k j)
theorem md_col_u {M : ma_M} {f g : Int → Int} {n : Int} (hf : ∀ j, 0 ≤ j → j < n → md_col M f j) (hg : ∀ j, 0 ≤ j → j < n → md_col M g j) : ∀ (m : Nat) (j : Int), j.toNat < m → 0 ≤ j → j < n → f j = g j := by
  intro m
  induction m with
  | zero => intro j h; omega
  | succ m ih =>
    intro j hm h0 hj
    obtain ⟨a1, a2, a3⟩ := hf j h0 hj
    obtain ⟨b1, b2, b3⟩ := hg j h0 hj
    rcases Int.lt_trichotomy (f j) (g j) with h | h | h
    · obtain ⟨k, k0, k1, k2, k3⟩ := b2 (f j) a1.1 h
      exact absurd k3 (a3 (by omega) k k0 k1 (by rw [ih k (by omega) k0 (by omega)]; exact k2))
    · exact h
    · obtain ⟨k, k0, k1, k2, k3⟩ := a2 (g j) b1.1 h
      exact absurd k3 (b3 (by omega) k k0 k1 (by rw [← ih k (by omega) k0 (by omega)]; exact k2))
theorem md_col_eq {M M' : ma_M} (h : ∀ c i, c = 0 ∨ c = 6 ∨ c = 54 → M' c i = M c i) {f f' : Int → Int} {j : Int} (hf : ∀ k, 0 ≤ k → k ≤ j → f' k = f k) (hj : 0 ≤ j) (hc : md_col M f j) : md_col M' f' j := by
  obtain ⟨a1, a2, a3⟩ := hc
  unfold md_col
  rw [hf j hj (by omega)]
  refine ⟨a1, fun c c0 c1 => ?_, fun z k k0 k1 k2 => ?_⟩
  · obtain ⟨k, k0, k1, k2, k3⟩ := a2 c c0 c1
    exact ⟨k, k0, k1, by rw [hf k k0 (by omega)]; exact k2, (md_cf_eq h).mpr k3⟩
  · rw [hf k k0 (by omega)] at k2
    exact fun w => a3 z k k0 k1 k2 ((md_cf_eq h).mp w)
def md_T (M : ma_M) (f : Int → Int) (j k T : Int) : Prop := ∀ c, 0 ≤ c → c < 6 → ((¬ ma_and (ma_shr T c) 1 = 0) ↔ ∃ u, 0 ≤ u ∧ u < k ∧ f u = c ∧ md_cf M u j)
set_option maxHeartbeats 2000000 in
theorem md_xin {M : ma_M} (hI : mr_INV M) {j : Int} (hj0 : 0 ≤ j) (hj : j < M 1 1) (hcol : ∀ u, 0 ≤ u → u < j → 0 ≤ M 53 u ∧ M 53 u ≤ 5) {Q : Option ma_V → ma_S → ma_M → Prop} (cont : ∀ T, 0 ≤ T → T < 64 → md_T M (M 53) j j T → ma_wp 67 48 [(2, 0), (0, j), (0, T), (0, j)] [] mr_SH M Q) :
    ∀ (n : Nat) (k T : Int), (j - k).toNat < n → 0 ≤ k → k ≤ j → 0 ≤ T → T < 64 → md_T M (M 53) j k T → ma_wp 67 17 [(2, 0), (0, j), (0, T), (0, k)] [] mr_SH M Q := by
  obtain ⟨hF, ⟨⟨n1, n2, n3⟩, ⟨i1, i2, i3⟩, ⟨o1, o2, o3⟩⟩, hnd, hfr, hin, hnum, hout, hmar, hsn⟩ := id hI
  intro n
  induction n with
  | zero => intro k T h; omega
  | succ n ih =>
    intro k T hn h0 hk t0 t1 hT
    simp (disch := (first | assumption | omega | ((repeat (refine mr_FIX_up ?_ (by unfold mr_nst; omega))); assumption))) only [x67_17, x67_18, x67_19]
    refine ⟨fun h => ?_, fun h => ?_⟩
    · obtain rfl : k = j := by omega
      exact cont T t0 t1 hT
    · have e3 : ma_32 (k + 1) = k + 1 := ma_32i (by omega) (by omega)
      simp (disch := (first | assumption | omega | ((repeat (refine mr_FIX_up ?_ (by unfold mr_nst; omega))); assumption))) only [s67_22, x67_23, x67_24, s67_25]
      refine md_xcf hI (fun hc => ?_) (fun hc => ?_)
      · simp only [Option.toList_some, Option.toList_none, List.cons_append, List.nil_append]
        have hck := hcol k h0 (by omega)
        obtain ⟨m1, m2⟩ := mb_or2 t0 t1 hck.1 (by omega)
        simp (disch := (first | assumption | omega | ((repeat (refine mr_FIX_up ?_ (by unfold mr_nst; omega))); assumption))) only [x67_28, x67_31, x67_32, s67_33, s67_34, x67_37, s67_38, x67_39, x67_40, x67_41, x67_42, x67_45, e3]
        refine ⟨fun z => absurd z (by decide), fun _ => ⟨by omega, ih (k + 1) _ (by omega) (by omega) (by omega) m1.1 m1.2 (fun c c0 c1 => ?_)⟩⟩
        rw [m2 c c0 c1]
        have hTc := hT c c0 c1
        constructor
        · intro z
          by_cases e : M 53 k = c
          · exact ⟨k, h0, by omega, e, md_cf_c.mp hc⟩
          · obtain ⟨u, u0, u1, u2⟩ := hTc.mp (fun w => z ⟨w, e⟩)
            exact ⟨u, u0, by omega, u2⟩
        · rintro ⟨u, u0, u1, u2, u3⟩ ⟨z1, z2⟩
          by_cases e : u = k
          · subst e; exact z2 u2
          · exact (hTc.mpr ⟨u, u0, by omega, u2, u3⟩) z1
      · simp only [Option.toList_some, Option.toList_none, List.cons_append, List.nil_append]
        simp (disch := (first | assumption | omega | ((repeat (refine mr_FIX_up ?_ (by unfold mr_nst; omega))); assumption))) only [x67_28, x67_42, x67_45, e3]
        refine ⟨fun _ => ih (k + 1) T (by omega) (by omega) (by omega) t0 t1 (fun c c0 c1 => ?_), fun z => absurd trivial z⟩
        rw [hT c c0 c1]
        constructor
        · rintro ⟨u, u0, u1, u2⟩
          exact ⟨u, u0, by omega, u2⟩
        · rintro ⟨u, u0, u1, u2, u3⟩
          by_cases e : u = k
          · subst e; exact absurd (md_cf_c.mp u3) hc
          · exact ⟨u, u0, by omega, u2, u3⟩
