/-! colours -/
def md_b (M : ma_M) (v j : Int) : Prop := ¬ ma_and (ma_shr (M 6 v) j) 1 = 0
def md_cf (M : ma_M) (j k : Int) : Prop := ∃ i, 0 ≤ i ∧ i < M 0 11 ∧ md_b M (M 54 i) j ∧ md_b M (M 54 i) k
theorem md_cf_c {M : ma_M} {j k : Int} : md_cf M j k ↔ md_cf M k j := by
  constructor
  · rintro ⟨i, a, b, c, d⟩; exact ⟨i, a, b, d, c⟩
  · rintro ⟨i, a, b, c, d⟩; exact ⟨i, a, b, d, c⟩
theorem md_cf_eq {M M' : ma_M} (h : ∀ c i, c = 0 ∨ c = 6 ∨ c = 54 → M' c i = M c i) {j k : Int} : md_cf M' j k ↔ md_cf M j k := by
  unfold md_cf md_b
  rw [h 0 11 (by omega)]
  simp only [h 54 _ (by omega), h 6 _ (by omega)]
theorem mb_or2 {x d : Int} (hx0 : 0 ≤ x) (hx : x < 64) (hd0 : 0 ≤ d) (hd : d < 6) : (0 ≤ ma_or x (ma_shl 1 d) ∧ ma_or x (ma_shl 1 d) < 64) ∧ ∀ j : Int, 0 ≤ j → j < 6 → (ma_and (ma_shr (ma_or x (ma_shl 1 d)) j) 1 = 0 ↔ ma_and (ma_shr x j) 1 = 0 ∧ d ≠ j) := by
  have h : ∀ a, a < 64 → ∀ b, b < 6 → (0 ≤ ma_or ((a : Nat) : Int) (ma_shl 1 ((b : Nat) : Int)) ∧ ma_or ((a : Nat) : Int) (ma_shl 1 ((b : Nat) : Int)) < 64) ∧ ∀ j, j < 6 → (ma_and (ma_shr (ma_or ((a : Nat) : Int) (ma_shl 1 ((b : Nat) : Int))) ((j : Nat) : Int)) 1 = 0 ↔ ma_and (ma_shr ((a : Nat) : Int) ((j : Nat) : Int)) 1 = 0 ∧ ((b : Nat) : Int) ≠ ((j : Nat) : Int)) := by decide +kernel
  have h1 := h x.toNat (by omega) d.toNat (by omega)
  rw [Int.toNat_of_nonneg hx0, Int.toNat_of_nonneg hd0] at h1
  refine ⟨h1.1, fun j hj0 hj => ?_⟩
  have h2 := h1.2 j.toNat (by omega)
  rw [Int.toNat_of_nonneg hj0] at h2
  exact h2
theorem mb_06 {j : Int} (hj0 : 0 ≤ j) (hj : j < 6) : ma_and (ma_shr 0 j) 1 = 0 := by
  have h : ∀ j, j < 6 → ma_and (ma_shr 0 ((j : Nat) : Int)) 1 = 0 := by decide +kernel
  have h1 := h j.toNat (by omega)
  rw [Int.toNat_of_nonneg hj0] at h1
  exact h1
set_option maxHeartbeats 1000000 in
theorem md_xc {M : ma_M} (hI : mr_INV M) {j k : Int} {Q : Option ma_V → ma_S → ma_M → Prop} (q1 : md_cf M j k → Q (some (0, 1)) mr_SH M) (q0 : ¬ md_cf M j k → Q (some (0, 0)) mr_SH M) :
    ∀ (n : Nat) (i : Int), (M 0 11 - i).toNat < n → 0 ≤ i → i ≤ M 0 11 → (∀ u, 0 ≤ u → u < i → ¬ (md_b M (M 54 u) j ∧ md_b M (M 54 u) k)) → ma_wp 69 2 [(2, 0), (0, j), (0, k), (0, i)] [] mr_SH M Q := by
  obtain ⟨hF, ⟨⟨n1, n2, n3⟩, ⟨i1, i2, i3⟩, ⟨o1, o2, o3⟩⟩, hnd, hfr, hin, hnum, hout, hmar, hsn⟩ := id hI
  intro n
  induction n with
  | zero => intro i h; omega
  | succ n ih =>
    intro i hn h0 hi hu
    simp (disch := (first | assumption | omega | ((repeat (refine mr_FIX_up ?_ (by unfold mr_nst; omega))); assumption))) only [x69_2, s69_3, s69_4, x69_7]
    refine ⟨fun h => ?_, fun h => ?_⟩
    · simp (disch := (first | assumption | omega | ((repeat (refine mr_FIX_up ?_ (by unfold mr_nst; omega))); assumption))) only [x69_52, x69_53]
      refine ⟨by simp, q0 ?_⟩
      rintro ⟨u, a, b, c, d⟩
      exact hu u a (by omega) ⟨c, d⟩
    · have ho := hout i h0 (by omega)
      have e3 : ma_32 (i + 1) = i + 1 := ma_32i (by omega) (by omega)
      have next : ¬ (md_b M (M 54 i) j ∧ md_b M (M 54 i) k) → ma_wp 69 2 [(2, 0), (0, j), (0, k), (0, i + 1)] [] mr_SH M Q := fun hz => ih (i + 1) (by omega) (by omega) (by omega) (fun u u0 u1 => by
        by_cases e : u = i
        · subst e; exact hz
        · exact hu u u0 (by omega))
      simp (disch := (first | assumption | omega | ((repeat (refine mr_FIX_up ?_ (by unfold mr_nst; omega))); assumption))) only [s69_10, s69_11, s69_14, s69_15, x69_18, s69_19, x69_20, s69_21]
      refine ⟨by omega, ?_⟩
      rw [md_reaches hF (by omega) (by omega)]
      simp only [Option.toList_some, Option.toList_none, List.cons_append, List.nil_append]
      by_cases b1 : md_b M (M 54 i) j
      · have b1' := b1
        unfold md_b at b1'
        rw [if_neg b1']
        simp (disch := (first | assumption | omega | ((repeat (refine mr_FIX_up ?_ (by unfold mr_nst; omega))); assumption))) only [x69_24, s69_27, s69_28, s69_31, s69_32, x69_35, s69_36, x69_37, s69_38]
        refine ⟨fun z => absurd z (by decide), fun _ => ⟨by omega, ?_⟩⟩
        rw [md_reaches hF (by omega) (by omega)]
        simp only [Option.toList_some, Option.toList_none, List.cons_append, List.nil_append]
        by_cases b2 : md_b M (M 54 i) k
        · have b2' := b2
          unfold md_b at b2'
          rw [if_neg b2']
          simp (disch := (first | assumption | omega | ((repeat (refine mr_FIX_up ?_ (by unfold mr_nst; omega))); assumption))) only [x69_41, x69_44, x69_45]
          exact ⟨fun z => absurd z (by decide), fun _ => ⟨by simp, q1 ⟨i, h0, by omega, b1, b2⟩⟩⟩
        · have b2' := b2
          unfold md_b at b2'
          rw [if_pos (Decidable.not_not.mp b2')]
          simp (disch := (first | assumption | omega | ((repeat (refine mr_FIX_up ?_ (by unfold mr_nst; omega))); assumption))) only [x69_41, x69_44, x69_45, x69_46, x69_49, e3]
          exact ⟨fun _ => next (fun z => b2 z.2), fun z => absurd trivial z⟩
      · have b1' := b1
        unfold md_b at b1'
        rw [if_pos (Decidable.not_not.mp b1')]
        simp (disch := (first | assumption | omega | ((repeat (refine mr_FIX_up ?_ (by unfold mr_nst; omega))); assumption))) only [x69_24, x69_46, x69_49, e3]
        exact ⟨fun _ => next (fun z => b1 z.1), fun z => absurd trivial z⟩
theorem md_xcf {M : ma_M} (hI : mr_INV M) {j k : Int} {Q : Option ma_V → ma_S → ma_M → Prop} (q1 : md_cf M j k → Q (some (0, 1)) mr_SH M) (q0 : ¬ md_cf M j k → Q (some (0, 0)) mr_SH M) : mr_do 69 [(2, 0), (0, j), (0, k)] mr_SH M Q := by
  have hc := hI.2.1
  unfold mr_cnt at hc
  rw [x69, x69_0, x69_1]
  exact md_xc hI q1 q0 ((M 0 11).toNat + 1) 0 (by omega) (by omega) (by omega) (fun u h0 h1 => by omega)
/-- the least bit of T that is 0, 5 if there is none -/
theorem md_lf {T : Int} {sh : ma_S} {M : ma_M} {Q : Option ma_V → ma_S → ma_M → Prop} (q : ∀ r : Int, 0 ≤ r → r ≤ 5 → (∀ c, 0 ≤ c → c < r → ¬ ma_and (ma_shr T c) 1 = 0) → (r < 5 → ma_and (ma_shr T r) 1 = 0) → Q (some (0, r)) sh M) : ∀ (n : Nat) (r : Int), (5 - r).toNat < n → 0 ≤ r → r ≤ 5 → (∀ c, 0 ≤ c → c < r → ¬ ma_and (ma_shr T c) 1 = 0) → ma_wp 68 2 [(0, T), (0, r)] [] sh M Q := by
  intro n
  induction n with
  | zero => intro r h; omega
  | succ n ih =>
    intro r hn h0 h5 hc
    simp (disch := (first | assumption | omega | ((repeat (refine mr_FIX_up ?_ (by unfold mr_nst; omega))); assumption))) only [x68_2, x68_3, x68_4]
    refine ⟨fun h => ?_, fun h => ?_⟩
    · simp only [x68_21, x68_22]
      exact q r h0 h5 hc (fun z => by omega)
    · have e3 : ma_32 (r + 1) = r + 1 := ma_32i (by omega) (by omega)
      simp (disch := (first | assumption | omega | ((repeat (refine mr_FIX_up ?_ (by unfold mr_nst; omega))); assumption))) only [x68_7, x68_8, x68_9, x68_10, x68_11, x68_12, x68_15, x68_18, x68_21, x68_22, e3]
      refine ⟨fun z => q r h0 h5 hc (fun _ => z), fun z => ih (r + 1) (by omega) (by omega) (by omega) (fun c c0 c1 => ?_)⟩
      by_cases e : c = r
      · subst e; exact z
      · exact hc c c0 (by omega)
def md_col (M : ma_M) (f : Int → Int) (j : Int) : Prop := (0 ≤ f j ∧ f j ≤ 5) ∧ (∀ c, 0 ≤ c → c < f j → ∃ k, 0 ≤ k ∧ k < j ∧ f k = c ∧ md_cf M k j) ∧ (f j < 5 → ∀ k, 0 ≤ k → k < j → f k = f j → ¬ md_cf M k j)
theorem md_col_u {M : ma_M} {f g : Int → Int} {n : Int} (hf : ∀ j, 0 ≤ j → j < n → md_col M f j) (hg : ∀ j, 0 ≤ j → j < n → md_col M g j) : ∀ (m : Nat) (j : Int), j.toNat < m → 0 ≤ j → j < n → f j = g j := by
  intro m
  induction m with
  | zero => intro j h; omega
  | succ m ih =>
    intro j hm h0 hj
    obtain ⟨a1, a2, a3⟩ := hf j h0 hj
    obtain ⟨b1, b2, b3⟩ := hg j h0 hj
    rcases Int.lt_trichotomy (f j) (g j) with h | h | h
    · obtain ⟨k, k0, k1, k2, k3⟩ := b2 (f j) a1.1 h
      exact absurd k3 (a3 (by omega) k k0 k1 (by rw [ih k (by omega) k0 (by omega)]; exact k2))
    · exact h
    · obtain ⟨k, k0, k1, k2, k3⟩ := a2 (g j) b1.1 h
      exact absurd k3 (b3 (by omega) k k0 k1 (by rw [← ih k (by omega) k0 (by omega)]; exact k2))
theorem md_col_eq {M M' : ma_M} (h : ∀ c i, c = 0 ∨ c = 6 ∨ c = 54 → M' c i = M c i) {f f' : Int → Int} {j : Int} (hf : ∀ k, 0 ≤ k → k ≤ j → f' k = f k) (hj : 0 ≤ j) (hc : md_col M f j) : md_col M' f' j := by
  obtain ⟨a1, a2, a3⟩ := hc
  unfold md_col
  rw [hf j hj (by omega)]
  refine ⟨a1, fun c c0 c1 => ?_, fun z k k0 k1 k2 => ?_⟩
  · obtain ⟨k, k0, k1, k2, k3⟩ := a2 c c0 c1
    exact ⟨k, k0, k1, by rw [hf k k0 (by omega)]; exact k2, (md_cf_eq h).mpr k3⟩
  · rw [hf k k0 (by omega)] at k2
    exact fun w => a3 z k k0 k1 k2 ((md_cf_eq h).mp w)
def md_T (M : ma_M) (f : Int → Int) (j k T : Int) : Prop := ∀ c, 0 ≤ c → c < 6 → ((¬ ma_and (ma_shr T c) 1 = 0) ↔ ∃ u, 0 ≤ u ∧ u < k ∧ f u = c ∧ md_cf M u j)
set_option maxHeartbeats 2000000 in
theorem md_xin {M : ma_M} (hI : mr_INV M) {j : Int} (hj0 : 0 ≤ j) (hj : j < M 1 1) (hcol : ∀ u, 0 ≤ u → u < j → 0 ≤ M 53 u ∧ M 53 u ≤ 5) {Q : Option ma_V → ma_S → ma_M → Prop} (cont : ∀ T, 0 ≤ T → T < 64 → md_T M (M 53) j j T → ma_wp 67 48 [(2, 0), (0, j), (0, T), (0, j)] [] mr_SH M Q) :
    ∀ (n : Nat) (k T : Int), (j - k).toNat < n → 0 ≤ k → k ≤ j → 0 ≤ T → T < 64 → md_T M (M 53) j k T → ma_wp 67 17 [(2, 0), (0, j), (0, T), (0, k)] [] mr_SH M Q := by
  obtain ⟨hF, ⟨⟨n1, n2, n3⟩, ⟨i1, i2, i3⟩, ⟨o1, o2, o3⟩⟩, hnd, hfr, hin, hnum, hout, hmar, hsn⟩ := id hI
  intro n
  induction n with
  | zero => intro k T h; omega
  | succ n ih =>
    intro k T hn h0 hk t0 t1 hT
    simp (disch := (first | assumption | omega | ((repeat (refine mr_FIX_up ?_ (by unfold mr_nst; omega))); assumption))) only [x67_17, x67_18, x67_19]
    refine ⟨fun h => ?_, fun h => ?_⟩
    · obtain rfl : k = j := by omega
      exact cont T t0 t1 hT
    · have e3 : ma_32 (k + 1) = k + 1 := ma_32i (by omega) (by omega)
      simp (disch := (first | assumption | omega | ((repeat (refine mr_FIX_up ?_ (by unfold mr_nst; omega))); assumption))) only [s67_22, x67_23, x67_24, s67_25]
      refine md_xcf hI (fun hc => ?_) (fun hc => ?_)
      · simp only [Option.toList_some, Option.toList_none, List.cons_append, List.nil_append]
        have hck := hcol k h0 (by omega)
        obtain ⟨m1, m2⟩ := mb_or2 t0 t1 hck.1 (by omega)
        simp (disch := (first | assumption | omega | ((repeat (refine mr_FIX_up ?_ (by unfold mr_nst; omega))); assumption))) only [x67_28, x67_31, x67_32, s67_33, s67_34, x67_37, s67_38, x67_39, x67_40, x67_41, x67_42, x67_45, e3]
        refine ⟨fun z => absurd z (by decide), fun _ => ⟨by omega, ih (k + 1) _ (by omega) (by omega) (by omega) m1.1 m1.2 (fun c c0 c1 => ?_)⟩⟩
        rw [m2 c c0 c1]
        have hTc := hT c c0 c1
        constructor
        · intro z
          by_cases e : M 53 k = c
          · exact ⟨k, h0, by omega, e, md_cf_c.mp hc⟩
          · obtain ⟨u, u0, u1, u2⟩ := hTc.mp (fun w => z ⟨w, e⟩)
            exact ⟨u, u0, by omega, u2⟩
        · rintro ⟨u, u0, u1, u2, u3⟩ ⟨z1, z2⟩
          by_cases e : u = k
          · subst e; exact z2 u2
          · exact (hTc.mpr ⟨u, u0, by omega, u2, u3⟩) z1
      · simp only [Option.toList_some, Option.toList_none, List.cons_append, List.nil_append]
        simp (disch := (first | assumption | omega | ((repeat (refine mr_FIX_up ?_ (by unfold mr_nst; omega))); assumption))) only [x67_28, x67_42, x67_45, e3]
        refine ⟨fun _ => ih (k + 1) T (by omega) (by omega) (by omega) t0 t1 (fun c c0 c1 => ?_), fun z => absurd trivial z⟩
        rw [hT c c0 c1]
        constructor
        · rintro ⟨u, u0, u1, u2⟩
          exact ⟨u, u0, by omega, u2⟩
        · rintro ⟨u, u0, u1, u2, u3⟩
          by_cases e : u = k
          · subst e; exact absurd (md_cf_c.mp u3) hc
          · exact ⟨u, u0, by omega, u2, u3⟩
set_option maxHeartbeats 2000000 in
theorem md_xout {M : ma_M} (hI : mr_INV M) {Q : Option ma_V → ma_S → ma_M → Prop} (cont : ∀ M2 : ma_M, (∀ c k, c ≠ 53 → M2 c k = M c k) → (∀ j, 0 ≤ j → j < M 1 1 → md_col M (M2 53) j) → Q none mr_SH M2) :
    ∀ (n : Nat) (j : Int) (M1 : ma_M) (a2 a3 : ma_V), (M 1 1 - j).toNat < n → 0 ≤ j → j ≤ M 1 1 → (∀ c k, c ≠ 53 → M1 c k = M c k) → (∀ u, 0 ≤ u → u < j → md_col M (M1 53) u) → ma_wp 67 2 [(2, 0), (0, j), a2, a3] [] mr_SH M1 Q := by
  have hcn := hI.2.1
  unfold mr_cnt at hcn
  intro n
  induction n with
  | zero => intro j M1 a2 a3 h; omega
  | succ n ih =>
    intro j M1 a2 a3 hn h0 hj hM hc
    have hI1 : mr_INV M1 := mr_keep95 hI (p := fun c => c = 53) (fun c k h => hM c k h) (fun c h => ⟨by unfold mr_scr; omega, by omega⟩)
    have hF1 := hI1.1
    have e1 : M1 1 1 = M 1 1 := hM 1 1 (by omega)
    have e3 : ma_32 (j + 1) = j + 1 := ma_32i (by omega) (by omega)
    have hcf : ∀ u v, md_cf M1 u v ↔ md_cf M u v := fun u v => md_cf_eq (fun c i h => hM c i (by omega))
    simp (disch := (first | assumption | omega | ((repeat (refine mr_FIX_up ?_ (by unfold mr_nst; omega))); assumption))) only [x67_2, s67_3, s67_4, s67_7, x67_10, e1]
    refine ⟨fun h => ?_, fun h => ?_⟩
    · obtain rfl : j = M 1 1 := by omega
      simp only [x67_64]
      exact cont M1 hM hc
    · simp (disch := (first | assumption | omega | ((repeat (refine mr_FIX_up ?_ (by unfold mr_nst; omega))); assumption))) only [x67_13, x67_14, x67_15, x67_16]
      refine md_xin hI1 h0 (by omega) (fun u u0 u1 => (hc u u0 u1).1) (fun T t0 t1 hT => ?_) (j.toNat + 1) 0 0 (by omega) (by omega) (by omega) (by omega) (by omega) (fun c c0 c1 => ⟨fun z => absurd (mb_06 c0 c1) z, fun ⟨u, u0, u1, _⟩ => by omega⟩)
      simp (disch := (first | assumption | omega | ((repeat (refine mr_FIX_up ?_ (by unfold mr_nst; omega))); assumption))) only [s67_48, s67_49, x67_52, x67_53, x67_54]
      rw [x68, x68_0, x68_1]
      refine md_lf (fun r r0 r5 r1 r2 => ?_) 6 0 (by decide) (by decide) (by decide) (fun c c0 c1 => by omega)
      simp only [Option.toList_some, Option.toList_none, List.cons_append, List.nil_append]
      simp (disch := (first | assumption | omega | ((repeat (refine mr_FIX_up ?_ (by unfold mr_nst; omega))); assumption))) only [s67_57, x67_58, x67_61, e3]
      refine ⟨by omega, ih (j + 1) _ _ _ (by omega) (by omega) (by omega) (fun c k h => ?_) (fun u u0 u1 => ?_)⟩
      · rw [ma_up_ne h]
        exact hM c k h
      · by_cases e : u = j
        · subst e
          have es : ∀ k, 0 ≤ k → k < u → ma_up M1 53 u r 53 k = M1 53 k := fun k k0 k1 => ma_up_ne2 (by omega)
          refine ⟨?_, ?_, ?_⟩
          · rw [ma_up_s]; exact ⟨r0, r5⟩
          · rw [ma_up_s]
            intro c c0 c1
            obtain ⟨k, k0, k1, k2, k3⟩ := (hT c c0 (by omega)).mp (r1 c c0 c1)
            exact ⟨k, k0, k1, (es k k0 k1).trans k2, (hcf k u).mp k3⟩
          · rw [ma_up_s]
            intro z k k0 k1 k2 k3
            rw [es k k0 k1] at k2
            exact (hT r r0 (by omega)).mpr ⟨k, k0, k1, k2, (hcf k u).mpr k3⟩ (r2 z)
        · exact md_col_eq (fun _ _ _ => rfl) (fun k k0 k1 => ma_up_ne2 (by omega)) u0 (hc u u0 (by omega))
theorem md_paint {M : ma_M} (hI : mr_INV M) {Q : Option ma_V → ma_S → ma_M → Prop} (cont : ∀ M2 : ma_M, (∀ c k, c ≠ 53 → M2 c k = M c k) → (∀ j, 0 ≤ j → j < M 1 1 → md_col M (M2 53) j) → Q none mr_SH M2) : mr_do 67 [(2, 0)] mr_SH M Q := by
  have hcn := hI.2.1
  unfold mr_cnt at hcn
  rw [x67, x67_0, x67_1]
  exact md_xout hI cont ((M 1 1).toNat + 1) 0 M _ _ (by omega) (by omega) (by omega) (fun _ _ _ => rfl) (fun u h0 h1 => by omega)
/-! the reference's colours -/
theorem md_depM {M M1 : ma_M} (hI : mr_INV M) (hM : ∀ c k, c ≠ 95 → c ≠ 96 → M1 c k = M c k) {i j : Int} (hi0 : 0 ≤ i) (hi : i < M 0 11) (hj0 : 0 ≤ j) (hj : j < M 1 1) {Q : Option ma_V → ma_S → ma_M → Prop} (q1 : md_b M (M 54 i) j → ∀ M2 : ma_M, (∀ c k, c ≠ 95 → M2 c k = M1 c k) → Q (some (0, 1)) mr_SH M2) (q0 : ¬ md_b M (M 54 i) j → ∀ M2 : ma_M, (∀ c k, c ≠ 95 → M2 c k = M1 c k) → Q (some (0, 0)) mr_SH M2) : mr_do 100 [(2, 80), (0, i), (0, j)] mr_SH M1 Q := by
  have hI1 : mr_INV M1 := mr_keep95 hI (p := fun c => c = 95 ∨ c = 96) (fun c k h => hM c k (by omega) (by omega)) (fun c h => ⟨by unfold mr_scr; omega, by omega⟩)
  refine md_dep hI1 hi0 (by rw [hM 0 11 (by omega) (by omega)]; exact hi) hj0 (by rw [hM 1 1 (by omega) (by omega)]; exact hj) (fun M2 h => ?_)
  rw [hM 54 i (by omega) (by omega), hM 6 _ (by omega) (by omega)]
  by_cases hb : md_b M (M 54 i) j
  · have := q1 hb M2 h
    unfold md_b at hb
    rw [if_neg hb]
    exact this
  · have := q0 hb M2 h
    unfold md_b at hb
    rw [if_pos (Decidable.not_not.mp hb)]
    exact this
def md_cfu (M : ma_M) (j k i : Int) : Prop := ∃ u, 0 ≤ u ∧ u < i ∧ md_b M (M 54 u) j ∧ md_b M (M 54 u) k
set_option maxHeartbeats 2000000 in
theorem md_mc {M M0 : ma_M} (hI : mr_INV M) (hM0 : ∀ c k, c ≠ 95 → c ≠ 96 → M0 c k = M c k) {j k : Int} (hj0 : 0 ≤ j) (hj : j < M 1 1) (hk0 : 0 ≤ k) (hk : k < M 1 1) {Q : Option ma_V → ma_S → ma_M → Prop} (q1 : md_cf M j k → ∀ M2 : ma_M, (∀ c k, c ≠ 95 → M2 c k = M0 c k) → Q (some (0, 1)) mr_SH M2) (q0 : ¬ md_cf M j k → ∀ M2 : ma_M, (∀ c k, c ≠ 95 → M2 c k = M0 c k) → Q (some (0, 0)) mr_SH M2) :
    ∀ (n : Nat) (i f : Int) (M1 : ma_M) (a5 a6 : ma_V), (M 0 11 - i).toNat < n → 0 ≤ i → i ≤ M 0 11 → (∀ c k, c ≠ 95 → M1 c k = M0 c k) → ((f = 1 ∧ md_cfu M j k i) ∨ (f = 0 ∧ ¬ md_cfu M j k i)) → ma_wp 101 5 [(2, 80), (0, j), (0, k), (0, f), (0, i), a5, a6] [] mr_SH M1 Q := by
  have hcn := hI.2.1
  unfold mr_cnt at hcn
  intro n
  induction n with
  | zero => intro i f M1 a5 a6 h; omega
  | succ n ih =>
    intro i f M1 a5 a6 hn h0 hi hM hf
    have hM1 : ∀ c k, c ≠ 95 → c ≠ 96 → M1 c k = M c k := fun c k h1 h2 => (hM c k h1).trans (hM0 c k h1 h2)
    have hI1 : mr_INV M1 := mr_keep95 hI (p := fun c => c = 95 ∨ c = 96) (fun c k h => hM1 c k (by omega) (by omega)) (fun c h => ⟨by unfold mr_scr; omega, by omega⟩)
    have hF1 := hI1.1
    have e1 : M1 80 9 = M 0 11 := (hM1 80 9 (by omega) (by omega)).trans hcn.2.2.2.2
    have e3 : ma_32 (i + 1) = i + 1 := ma_32i (by omega) (by omega)
    simp (disch := (first | assumption | omega | ((repeat (refine mr_FIX_up ?_ (by unfold mr_nst; omega))); assumption))) only [x101_5, s101_7, s101_8, x101_11, e1]
    refine ⟨fun h => ?_, fun h => ?_⟩
    · obtain rfl : i = M 0 11 := by omega
      simp (disch := (first | assumption | omega | ((repeat (refine mr_FIX_up ?_ (by unfold mr_nst; omega))); assumption))) only [x101_58, x101_59]
      rcases hf with ⟨rfl, hf⟩ | ⟨rfl, hf⟩
      · exact ⟨by simp, q1 hf M1 hM⟩
      · exact ⟨by simp, q0 hf M1 hM⟩
    · have stp : ∀ b1 b2 : Int, ∀ M2 : ma_M, (∀ c k, c ≠ 95 → M2 c k = M1 c k) → ((b1 = 1 ∧ md_b M (M 54 i) j) ∨ (b1 = 0 ∧ ¬ md_b M (M 54 i) j)) → ((b2 = 1 ∧ md_b M (M 54 i) k) ∨ (b2 = 0 ∧ ¬ md_b M (M 54 i) k)) → ma_wp 101 32 [(2, 80), (0, j), (0, k), (0, f), (0, i), (0, b1), (0, b2)] [] mr_SH M2 Q := by
        intro b1 b2 M2 h2 hb1 hb2
        have hM2 : ∀ c k, c ≠ 95 → M2 c k = M0 c k := fun c k h => (h2 c k h).trans (hM c k h)
        have nx : ∀ g : Int, ((g = 1 ∧ md_cfu M j k (i + 1)) ∨ (g = 0 ∧ ¬ md_cfu M j k (i + 1))) → ma_wp 101 5 [(2, 80), (0, j), (0, k), (0, g), (0, i + 1), (0, b1), (0, b2)] [] mr_SH M2 Q := fun g hg => ih (i + 1) g M2 _ _ (by omega) (by omega) (by omega) hM2 hg
        have up : md_cfu M j k (i + 1) ↔ md_cfu M j k i ∨ (md_b M (M 54 i) j ∧ md_b M (M 54 i) k) := by
          constructor
          · rintro ⟨u, u0, u1, u2⟩
            by_cases e : u = i
            · subst e; exact Or.inr u2
            · exact Or.inl ⟨u, u0, by omega, u2⟩
          · rintro (⟨u, u0, u1, u2⟩ | h)
            · exact ⟨u, u0, by omega, u2⟩
            · exact ⟨i, h0, by omega, h⟩
        rcases hf with ⟨rfl, hf⟩ | ⟨rfl, hf⟩
        · simp (disch := (first | assumption | omega | ((repeat (refine mr_FIX_up ?_ (by unfold mr_nst; omega))); assumption))) [x101_32, x101_33, x101_36, x101_38, x101_41, x101_43, x101_46, x101_47, x101_50, x101_51, x101_52, x101_55, e3]
          exact nx 1 (Or.inl ⟨rfl, up.mpr (Or.inl hf)⟩)
        · rcases hb1 with ⟨rfl, hb1⟩ | ⟨rfl, hb1⟩
          · rcases hb2 with ⟨rfl, hb2⟩ | ⟨rfl, hb2⟩
            · simp (disch := (first | assumption | omega | ((repeat (refine mr_FIX_up ?_ (by unfold mr_nst; omega))); assumption))) [x101_32, x101_33, x101_36, x101_38, x101_41, x101_43, x101_46, x101_47, x101_50, x101_51, x101_52, x101_55, e3]
              exact nx 1 (Or.inl ⟨rfl, up.mpr (Or.inr ⟨hb1, hb2⟩)⟩)
            · simp (disch := (first | assumption | omega | ((repeat (refine mr_FIX_up ?_ (by unfold mr_nst; omega))); assumption))) [x101_32, x101_33, x101_36, x101_38, x101_41, x101_43, x101_46, x101_47, x101_50, x101_51, x101_52, x101_55, e3]
              exact nx 0 (Or.inr ⟨rfl, fun w => (up.mp w).elim hf (fun w => hb2 w.2)⟩)
          · simp (disch := (first | assumption | omega | ((repeat (refine mr_FIX_up ?_ (by unfold mr_nst; omega))); assumption))) [x101_32, x101_33, x101_36, x101_38, x101_41, x101_43, x101_46, x101_47, x101_50, x101_51, x101_52, x101_55, e3]
            exact nx 0 (Or.inr ⟨rfl, fun w => (up.mp w).elim hf (fun w => hb1 w.1)⟩)
      simp (disch := (first | assumption | omega | ((repeat (refine mr_FIX_up ?_ (by unfold mr_nst; omega))); assumption))) only [s101_14, x101_15, x101_17, s101_18]
      refine md_depM hI hM1 h0 (by omega) hj0 hj (fun hb M2 hM2 => ?_) (fun hb M2 hM2 => ?_)
      · simp only [Option.toList_some, Option.toList_none, List.cons_append, List.nil_append]
        simp (disch := (first | assumption | omega | ((repeat (refine mr_FIX_up ?_ (by unfold mr_nst; omega))); assumption))) only [x101_21, s101_23, x101_24, x101_26, s101_27]
        refine md_depM hI (fun c k h1 h2 => (hM2 c k h1).trans (hM1 c k h1 h2)) h0 (by omega) hk0 hk (fun hb2 M3 hM3 => ?_) (fun hb2 M3 hM3 => ?_)
        · simp only [Option.toList_some, Option.toList_none, List.cons_append, List.nil_append, x101_30]
          exact stp 1 1 M3 (fun c k h => (hM3 c k h).trans (hM2 c k h)) (Or.inl ⟨rfl, hb⟩) (Or.inl ⟨rfl, hb2⟩)
        · simp only [Option.toList_some, Option.toList_none, List.cons_append, List.nil_append, x101_30]
          exact stp 1 0 M3 (fun c k h => (hM3 c k h).trans (hM2 c k h)) (Or.inl ⟨rfl, hb⟩) (Or.inr ⟨rfl, hb2⟩)
      · simp only [Option.toList_some, Option.toList_none, List.cons_append, List.nil_append]
        simp (disch := (first | assumption | omega | ((repeat (refine mr_FIX_up ?_ (by unfold mr_nst; omega))); assumption))) only [x101_21, s101_23, x101_24, x101_26, s101_27]
        refine md_depM hI (fun c k h1 h2 => (hM2 c k h1).trans (hM1 c k h1 h2)) h0 (by omega) hk0 hk (fun hb2 M3 hM3 => ?_) (fun hb2 M3 hM3 => ?_)
        · simp only [Option.toList_some, Option.toList_none, List.cons_append, List.nil_append, x101_30]
          exact stp 0 1 M3 (fun c k h => (hM3 c k h).trans (hM2 c k h)) (Or.inr ⟨rfl, hb⟩) (Or.inl ⟨rfl, hb2⟩)
        · simp only [Option.toList_some, Option.toList_none, List.cons_append, List.nil_append, x101_30]
          exact stp 0 0 M3 (fun c k h => (hM3 c k h).trans (hM2 c k h)) (Or.inr ⟨rfl, hb⟩) (Or.inr ⟨rfl, hb2⟩)
theorem md_mcf {M M0 : ma_M} (hI : mr_INV M) (hM0 : ∀ c k, c ≠ 95 → c ≠ 96 → M0 c k = M c k) {j k : Int} (hj0 : 0 ≤ j) (hj : j < M 1 1) (hk0 : 0 ≤ k) (hk : k < M 1 1) {Q : Option ma_V → ma_S → ma_M → Prop} (q1 : md_cf M j k → ∀ M2 : ma_M, (∀ c k, c ≠ 95 → M2 c k = M0 c k) → Q (some (0, 1)) mr_SH M2) (q0 : ¬ md_cf M j k → ∀ M2 : ma_M, (∀ c k, c ≠ 95 → M2 c k = M0 c k) → Q (some (0, 0)) mr_SH M2) : mr_do 101 [(2, 80), (0, j), (0, k)] mr_SH M0 Q := by
  have hcn := hI.2.1
  unfold mr_cnt at hcn
  simp only [x101, x101_0, x101_1, x101_2, x101_3]
  exact md_mc hI hM0 hj0 hj hk0 hk q1 q0 ((M 0 11).toNat + 1) 0 0 M0 _ _ (by omega) (by omega) (by omega) (fun _ _ _ => rfl) (Or.inr ⟨rfl, fun ⟨u, u0, u1, _⟩ => by omega⟩)
def md_tk (M : ma_M) (f : Int → Int) (j c k : Int) : Prop := ∃ u, 0 ≤ u ∧ u < k ∧ f u = c ∧ md_cf M u j
set_option maxHeartbeats 2000000 in
theorem md_min {M M0 : ma_M} (hI : mr_INV M) (hM0 : ∀ c k, c ≠ 95 → c ≠ 96 → M0 c k = M c k) {j c : Int} (hj0 : 0 ≤ j) (hj : j < M 1 1) {Q : Option ma_V → ma_S → ma_M → Prop} (cont : ∀ (t : Int) (M2 : ma_M) (a4 : ma_V), (∀ c k, c ≠ 95 → M2 c k = M0 c k) → ((t = 1 ∧ md_tk M (M0 96) j c j) ∨ (t = 0 ∧ ¬ md_tk M (M0 96) j c j)) → ma_wp 102 14 [(2, 80), (0, j), (0, c), (0, t), a4] [] mr_SH M2 Q) :
    ∀ (n : Nat) (k t : Int) (M1 : ma_M), (j - k).toNat < n → 0 ≤ k → k ≤ j → (∀ c k, c ≠ 95 → M1 c k = M0 c k) → ((t = 1 ∧ md_tk M (M0 96) j c k) ∨ (t = 0 ∧ ¬ md_tk M (M0 96) j c k)) → ma_wp 102 31 [(2, 80), (0, j), (0, c), (0, t), (0, k)] [] mr_SH M1 Q := by
  have hcn := hI.2.1
  unfold mr_cnt at hcn
  intro n
  induction n with
  | zero => intro k t M1 h; omega
  | succ n ih =>
    intro k t M1 hn h0 hk hM ht
    have hM1 : ∀ c k, c ≠ 95 → c ≠ 96 → M1 c k = M c k := fun c k h1 h2 => (hM c k h1).trans (hM0 c k h1 h2)
    have hI1 : mr_INV M1 := mr_keep95 hI (p := fun c => c = 95 ∨ c = 96) (fun c k h => hM1 c k (by omega) (by omega)) (fun c h => ⟨by unfold mr_scr; omega, by omega⟩)
    have hF1 := hI1.1
    have e3 : ma_32 (k + 1) = k + 1 := ma_32i (by omega) (by omega)
    simp (disch := (first | assumption | omega | ((repeat (refine mr_FIX_up ?_ (by unfold mr_nst; omega))); assumption))) only [x102_31, x102_33, x102_34]
    refine ⟨fun h => ?_, fun h => ?_⟩
    · obtain rfl : k = j := by omega
      simp (disch := (first | assumption | omega | ((repeat (refine mr_FIX_up ?_ (by unfold mr_nst; omega))); assumption))) only [x102_74]
      exact cont t M1 _ hM ht
    · have up : md_tk M (M0 96) j c (k + 1) ↔ md_tk M (M0 96) j c k ∨ (M0 96 k = c ∧ md_cf M k j) := by
        constructor
        · rintro ⟨u, u0, u1, u2⟩
          by_cases e : u = k
          · subst e; exact Or.inr u2
          · exact Or.inl ⟨u, u0, by omega, u2⟩
        · rintro (⟨u, u0, u1, u2⟩ | h)
          · exact ⟨u, u0, by omega, u2⟩
          · exact ⟨k, h0, by omega, h⟩
      have nx : ∀ (g : Int) (M2 : ma_M), (∀ c k, c ≠ 95 → M2 c k = M0 c k) → ((g = 1 ∧ md_tk M (M0 96) j c (k + 1)) ∨ (g = 0 ∧ ¬ md_tk M (M0 96) j c (k + 1))) → ma_wp 102 31 [(2, 80), (0, j), (0, c), (0, g), (0, k + 1)] [] mr_SH M2 Q := fun g M2 hM2 hg => ih (k + 1) g M2 (by omega) (by omega) (by omega) hM2 hg
      rcases ht with ⟨rfl, ht⟩ | ⟨rfl, ht⟩
      · simp (disch := (first | assumption | omega | ((repeat (refine mr_FIX_up ?_ (by unfold mr_nst; omega))); assumption))) [x102_37, x102_38, x102_62, x102_63, x102_66, x102_67, x102_68, x102_71, e3]
        exact nx 1 M1 hM (Or.inl ⟨rfl, up.mpr (Or.inl ht)⟩)
      · have e4 : M1 96 k = M0 96 k := hM 96 k (by omega)
        by_cases z : M0 96 k = c
        · simp (disch := (first | assumption | omega | ((repeat (refine mr_FIX_up ?_ (by unfold mr_nst; omega))); assumption))) [x102_37, x102_38, s102_41, s102_42, x102_45, s102_47, x102_48, x102_49, s102_52, x102_53, x102_55, s102_56, e4, z]
          refine ⟨by omega, ?_⟩
          refine md_mcf hI hM1 h0 (by omega) hj0 hj (fun hc M2 hM2 => ?_) (fun hc M2 hM2 => ?_)
          · simp only [Option.toList_some, Option.toList_none, List.cons_append, List.nil_append]
            simp (disch := (first | assumption | omega | ((repeat (refine mr_FIX_up ?_ (by unfold mr_nst; omega))); assumption))) [x102_59, x102_62, x102_63, x102_66, x102_67, x102_68, x102_71, e3]
            exact nx 1 M2 (fun c k h => (hM2 c k h).trans (hM c k h)) (Or.inl ⟨rfl, up.mpr (Or.inr ⟨z, hc⟩)⟩)
          · simp only [Option.toList_some, Option.toList_none, List.cons_append, List.nil_append]
            simp (disch := (first | assumption | omega | ((repeat (refine mr_FIX_up ?_ (by unfold mr_nst; omega))); assumption))) [x102_59, x102_62, x102_63, x102_66, x102_67, x102_68, x102_71, e3]
            exact nx 0 M2 (fun c k h => (hM2 c k h).trans (hM c k h)) (Or.inr ⟨rfl, fun w => (up.mp w).elim ht (fun w => hc w.2)⟩)
        · simp (disch := (first | assumption | omega | ((repeat (refine mr_FIX_up ?_ (by unfold mr_nst; omega))); assumption))) [x102_37, x102_38, s102_41, s102_42, x102_45, s102_47, x102_48, x102_49, s102_52, x102_53, x102_55, s102_56, x102_66, x102_67, x102_68, x102_71, e3, e4, z]
          exact ⟨by omega, nx 0 M1 hM (Or.inr ⟨rfl, fun w => (up.mp w).elim ht (fun w => z w.1)⟩)⟩
set_option maxHeartbeats 2000000 in
theorem md_mmid {M M0 : ma_M} (hI : mr_INV M) (hM0 : ∀ c k, c ≠ 95 → c ≠ 96 → M0 c k = M c k) {j : Int} (hj0 : 0 ≤ j) (hj : j < M 1 1) {Q : Option ma_V → ma_S → ma_M → Prop} (cont : ∀ (c t : Int) (M2 : ma_M) (a4 : ma_V), (∀ c k, c ≠ 95 → M2 c k = M0 c k) → 0 ≤ c → c ≤ 5 → (∀ d, 0 ≤ d → d < c → md_tk M (M0 96) j d j) → (c < 5 → ¬ md_tk M (M0 96) j c j) → ma_wp 102 77 [(2, 80), (0, j), (0, c), (0, t), a4] [] mr_SH M2 Q) :
    ∀ (n : Nat) (c t : Int) (M1 : ma_M) (a4 : ma_V), (5 - c).toNat < n → -1 ≤ c → c ≤ 5 → (∀ c k, c ≠ 95 → M1 c k = M0 c k) → (∀ d, 0 ≤ d → d < c → md_tk M (M0 96) j d j) → ((t = 1 ∧ (0 ≤ c → md_tk M (M0 96) j c j)) ∨ (t = 0 ∧ 0 ≤ c ∧ ¬ md_tk M (M0 96) j c j)) → ma_wp 102 14 [(2, 80), (0, j), (0, c), (0, t), a4] [] mr_SH M1 Q := by
  intro n
  induction n with
  | zero => intro c t M1 a4 h; omega
  | succ n ih =>
    intro c t M1 a4 hn h0 h5 hM hd ht
    simp (disch := (first | assumption | omega | ((repeat (refine mr_FIX_up ?_ (by unfold mr_nst; omega))); assumption))) only [x102_14, x102_15]
    rcases ht with ⟨rfl, ht⟩ | ⟨rfl, hc0, ht⟩
    · refine ⟨fun z => absurd z (by decide), fun _ => ?_⟩
      simp (disch := (first | assumption | omega | ((repeat (refine mr_FIX_up ?_ (by unfold mr_nst; omega))); assumption))) only [x102_18, x102_19, x102_20]
      refine ⟨fun h => ?_, fun h => ?_⟩
      · exact cont c 1 M1 a4 hM (by omega) h5 hd (fun z => by omega)
      · have e3 : ma_32 (c + 1) = c + 1 := ma_32i (by omega) (by omega)
        simp (disch := (first | assumption | omega | ((repeat (refine mr_FIX_up ?_ (by unfold mr_nst; omega))); assumption))) only [x102_23, x102_26, x102_27, x102_28, x102_29, e3]
        refine md_min hI hM0 hj0 hj (fun t M2 a4 hM2 ht2 => ?_) (j.toNat + 1) 0 0 M1 (by omega) (by omega) (by omega) hM (Or.inr ⟨rfl, fun ⟨u, u0, u1, _⟩ => by omega⟩)
        refine ih (c + 1) t M2 a4 (by omega) (by omega) (by omega) hM2 (fun d d0 d1 => ?_) ?_
        · by_cases e : d = c
          · subst e; exact ht d0
          · exact hd d d0 (by omega)
        · rcases ht2 with ⟨a, b⟩ | ⟨a, b⟩
          · exact Or.inl ⟨a, fun _ => b⟩
          · exact Or.inr ⟨a, by omega, b⟩
    · refine ⟨fun _ => cont c 0 M1 a4 hM hc0 h5 hd (fun _ => ht), fun z => absurd rfl z⟩
set_option maxHeartbeats 2000000 in
theorem md_mout {M : ma_M} (hI : mr_INV M) {Q : Option ma_V → ma_S → ma_M → Prop} (cont : ∀ M2 : ma_M, (∀ c k, c ≠ 95 → c ≠ 96 → M2 c k = M c k) → (∀ j, 0 ≤ j → j < M 1 1 → md_col M (M2 96) j) → Q none mr_SH M2) :
    ∀ (n : Nat) (j : Int) (M1 : ma_M) (a2 a3 a4 : ma_V), (M 1 1 - j).toNat < n → 0 ≤ j → j ≤ M 1 1 → (∀ c k, c ≠ 95 → c ≠ 96 → M1 c k = M c k) → (∀ u, 0 ≤ u → u < j → md_col M (M1 96) u) → ma_wp 102 2 [(2, 80), (0, j), a2, a3, a4] [] mr_SH M1 Q := by
  have hcn := hI.2.1
  unfold mr_cnt at hcn
  intro n
  induction n with
  | zero => intro j M1 a2 a3 a4 h; omega
  | succ n ih =>
    intro j M1 a2 a3 a4 hn h0 hj hM hc
    have hF1 : mr_FIX M1 := md_fr hI.1 (p := fun c => c = 95 ∨ c = 96) (fun c k h => hM c k (by omega) (by omega)) (fun c h => by omega)
    have e1 : M1 80 5 = M 1 1 := (hM 80 5 (by omega) (by omega)).trans hcn.2.1.2.2
    have e3 : ma_32 (j + 1) = j + 1 := ma_32i (by omega) (by omega)
    simp (disch := (first | assumption | omega | ((repeat (refine mr_FIX_up ?_ (by unfold mr_nst; omega))); assumption))) only [x102_2, s102_3, s102_4, x102_7, e1]
    refine ⟨fun h => ?_, fun h => ?_⟩
    · obtain rfl : j = M 1 1 := by omega
      simp only [x102_90]
      exact cont M1 hM hc
    · simp (disch := (first | assumption | omega | ((repeat (refine mr_FIX_up ?_ (by unfold mr_nst; omega))); assumption))) only [x102_10, x102_11, x102_12, x102_13]
      refine md_mmid hI hM h0 (by omega) (fun c t M2 a4 hM2 c0 c5 hd hf => ?_) 7 (-1) 1 M1 _ (by decide) (by decide) (by decide) (fun _ _ _ => rfl) (fun d d0 d1 => by omega) (Or.inl ⟨rfl, fun z => absurd z (by decide)⟩)
      have hF2 : mr_FIX M2 := md_fr hF1 (p := fun c => c = 95) (fun c k h => hM2 c k (by omega)) (fun c h => by omega)
      simp (disch := (first | assumption | omega | ((repeat (refine mr_FIX_up ?_ (by unfold mr_nst; omega))); assumption))) only [s102_77, s102_78, x102_81, x102_82, s102_83, x102_84, x102_87, e3]
      have hx : ∀ u k : Int, k ≠ j → ma_up M2 96 j c 96 k = M1 96 k := fun u k hk => (ma_up_ne2 hk).trans (hM2 96 k (by omega))
      refine ⟨by omega, ih (j + 1) _ _ _ _ (by omega) (by omega) (by omega) (fun c k h1 h2 => ?_) (fun u u0 u1 => ?_)⟩
      · rw [ma_up_ne h2, hM2 c k h1]
        exact hM c k h1 h2
      · by_cases e : u = j
        · subst e
          refine ⟨?_, ?_, ?_⟩
          · rw [ma_up_s]; exact ⟨c0, c5⟩
          · rw [ma_up_s]
            intro d d0 d1
            obtain ⟨k, k0, k1, k2, k3⟩ := hd d d0 d1
            exact ⟨k, k0, k1, (hx u k (by omega)).trans k2, k3⟩
          · rw [ma_up_s]
            intro z k k0 k1 k2 k3
            rw [hx u k (by omega)] at k2
            exact hf z ⟨k, k0, k1, k2, k3⟩
        · exact md_col_eq (fun _ _ _ => rfl) (fun k k0 k1 => hx u k (by omega)) u0 (hc u u0 (by omega))
theorem md_shade {M : ma_M} (hI : mr_INV M) {Q : Option ma_V → ma_S → ma_M → Prop} (cont : ∀ M2 : ma_M, (∀ c k, c ≠ 95 → c ≠ 96 → M2 c k = M c k) → (∀ j, 0 ≤ j → j < M 1 1 → md_col M (M2 96) j) → Q none mr_SH M2) : mr_do 102 [(2, 80)] mr_SH M Q := by
  have hcn := hI.2.1
  unfold mr_cnt at hcn
  rw [x102, x102_0, x102_1]
  exact md_mout hI cont ((M 1 1).toNat + 1) 0 M _ _ _ (by omega) (by omega) (by omega) (fun _ _ _ _ => rfl) (fun u h0 h1 => by omega)
