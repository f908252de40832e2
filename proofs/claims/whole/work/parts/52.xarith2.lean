/-! divide -/
set_option maxHeartbeats 1000000 in
theorem mx_divi {M M1 : ma_M} {r x y o k c : Int} (hr : mx_ar r 9) (hy : mx_ar y 9) (k0 : 0 ≤ k) (k1 : k ≤ 8) {q : Int → Int} (bq : ∀ n, 0 ≤ n → n < k → M1 r n = q n ∧ 0 ≤ q n ∧ q n < 65521) (by_ : ∀ n, 0 ≤ n → n ≤ k → M1 y n = M y n ∧ 0 ≤ M y n ∧ M y n < 65521) {A : Int} (A0 : 0 ≤ A) (A1 : A < 65521) {Q : Option ma_V → ma_S → ma_M → Prop} (cont : ∀ z i : Int, ma_wp 22 61 [(2, r), (2, x), (2, y), (0, o), (0, c), (0, k), (1, A - ms_s (fun i => M y (i + 1) * q (k - 1 - i)) k.toNat), (3, z), (0, i)] [] mr_SH M1 Q) : ∀ (m : Nat) (i s z : Int), (k + 1 - i).toNat < m → 1 ≤ i → i ≤ k + 1 → s = A - ms_s (fun i => M y (i + 1) * q (k - 1 - i)) (i - 1).toNat → ma_wp 22 29 [(2, r), (2, x), (2, y), (0, o), (0, c), (0, k), (1, s), (3, z), (0, i)] [] mr_SH M1 Q := by
  obtain ⟨r1, r2⟩ := hr
  obtain ⟨y1, y2⟩ := hy
  intro m
  induction m with
  | zero => intro i s z h; omega
  | succ m ih =>
    intro i s z hm h0 h1 hs
    simp (disch := (first | assumption | omega | ((repeat (refine mr_FIX_up ?_ (by unfold mr_nst; omega))); assumption))) only [x22_29, x22_31, x22_33]
    refine ⟨fun h => ?_, fun h => ?_⟩
    · have e : (i - 1).toNat = k.toNat := by omega
      rw [e] at hs
      rw [hs]
      exact cont _ _
    · obtain ⟨e1, b1, b2⟩ := by_ i (by omega) (by omega)
      obtain ⟨e2, b3, b4⟩ := bq (k - i) (by omega) (by omega)
      have m1 := mr_pp b1 (by omega) b3 (show q (k - i) ≤ 65521 by omega)
      have sb : 0 ≤ ms_s (fun i => M y (i + 1) * q (k - 1 - i)) (i - 1).toNat ∧ ms_s (fun i => M y (i + 1) * q (k - 1 - i)) (i - 1).toNat ≤ 4293001441 * ((i - 1).toNat : Int) := 
        ms_sb _ (fun j j0 j1 => by
          obtain ⟨_, c1, c2⟩ := by_ (j + 1) (by omega) (by omega)
          obtain ⟨_, c3, c4⟩ := bq (k - 1 - j) (by omega) (by omega)
          exact mr_pp c1 (by omega) c3 (by omega))
      simp (disch := (first | assumption | omega | ((repeat (refine mr_FIX_up ?_ (by unfold mr_nst; omega))); assumption))) only [x22_36, x22_38, x22_39, x22_41, x22_42, x22_43, x22_44, x22_46, x22_48, x22_49, x22_50, x22_51, x22_52, x22_53, x22_55, x22_58, r2, y2, mx_t r1, mx_t y1, true_and, ma_32i, ma_64i, e1, e2]
      refine ⟨by omega, by omega, ih (i + 1) _ _ (by omega) (by omega) (by omega) ?_⟩
      have e3 : (i + 1 - 1).toNat = (i - 1).toNat + 1 := by omega
      rw [e3, ms_s, hs]
      have e4 : (((i - 1).toNat : Nat) : Int) = i - 1 := by omega
      have e6 : k - 1 - (i - 1) = k - i := by omega
      have e7 : i - 1 + 1 = i := by omega
      rw [e4, e6, e7, Int.sub_sub]
set_option maxHeartbeats 1000000 in
theorem mx_divl {M : ma_M} {r x y o : Int} (hr : mx_ar r 9) (hx : mx_ar x 9) (hy : mx_ar y 9) (hrx : x ≠ r) (hry : y ≠ r) (o1 : o ≤ 8) (bx : ∀ n, 0 ≤ n → n ≤ o → 0 ≤ M x n ∧ M x n < 65521) (by_ : ∀ n, 0 ≤ n → n ≤ o → 0 ≤ M y n ∧ M y n < 65521) {Q : Option ma_V → ma_S → ma_M → Prop} (cont : ∀ M2 : ma_M, (∀ c k, ¬ (c = r ∧ 0 ≤ k ∧ k ≤ o) → M2 c k = M c k) → (∀ n, 0 ≤ n → n ≤ o → M2 r n = mt_div (M x) (M y) n) → Q none mr_SH M2) : ∀ (m : Nat) (k z : Int) (M1 : ma_M) (a6 a8 : ma_V), (o + 1 - k).toNat < m → 0 ≤ k → (∀ c i, ¬ (c = r ∧ 0 ≤ i ∧ i ≤ o) → M1 c i = M c i) → (∀ n, 0 ≤ n → n < k → M1 r n = mt_div (M x) (M y) n) → ma_wp 22 13 [(2, r), (2, x), (2, y), (0, o), (0, mt_inv (M y 0)), (0, k), a6, (3, z), a8] [] mr_SH M1 Q := by
  obtain ⟨r1, r2⟩ := id hr
  obtain ⟨x1, x2⟩ := id hx
  intro m
  induction m with
  | zero => intro k z M1 a6 a8 h; omega
  | succ m ih =>
    intro k z M1 a6 a8 hm h0 hfr hv
    simp (disch := (first | assumption | omega | ((repeat (refine mr_FIX_up ?_ (by unfold mr_nst; omega))); assumption))) only [x22_13, x22_15, x22_16]
    refine ⟨fun h => ?_, fun h => ?_⟩
    · simp (disch := (first | assumption | omega | ((repeat (refine mr_FIX_up ?_ (by unfold mr_nst; omega))); assumption))) only [x22_81]
      exact cont M1 hfr (fun n n0 n1 => hv n n0 (by omega))
    · have ex : M1 x k = M x k := hfr x k (by omega)
      have b1 := bx k h0 (by omega)
      simp (disch := (first | assumption | omega | ((repeat (refine mr_FIX_up ?_ (by unfold mr_nst; omega))); assumption))) only [x22_19, x22_20, x22_22, x22_23, x22_24, x22_26, x22_27, x2, mx_t x1, true_and, ex]
      refine ⟨by omega, ?_⟩
      refine mx_divi (M := M) hr hy h0 (by omega) (q := mt_div (M x) (M y)) (fun n n0 n1 => ⟨hv n n0 n1, mt_div_b _ _ n0 (by omega)⟩) (fun n n0 n1 => ⟨hfr y n (by omega), by_ n n0 (by omega)⟩) b1.1 b1.2 (fun z i => ?_) (k.toNat + 2) 1 _ _ (by omega) (by omega) (by omega) (by rw [show ((1 : Int) - 1).toNat = 0 from rfl, ms_s]; omega)
      have ib : 0 ≤ mt_inv (M y 0) ∧ mt_inv (M y 0) < 65521 := mt_p_b (M y 0) mt_E
      simp (disch := (first | assumption | omega | ((repeat (refine mr_FIX_up ?_ (by unfold mr_nst; omega))); assumption))) only [x22_61, x22_62, x22_64, x22_66, x22_69, mx_t r1, true_and, mr_standFor, Option.toList_some, Option.toList_none, List.cons_append, List.nil_append]
      rw [x22_71, mx_times (by omega) (by omega) ib.1 (Int.le_of_lt ib.2)]
      simp only [Option.toList_some, Option.toList_none, List.cons_append, List.nil_append]
      simp (disch := (first | assumption | omega | ((repeat (refine mr_FIX_up ?_ (by unfold mr_nst; omega))); assumption))) only [x22_74, x22_75, x22_78, r2, ma_32i]
      refine ⟨by omega, ih (k + 1) _ _ _ _ (by omega) (by omega) (fun c i hc => ?_) (fun n n0 n1 => ?_)⟩
      · by_cases e : c = r
        · rw [ma_up_ne2 (by omega)]; exact hfr c i hc
        · rw [ma_up_ne e]; exact hfr c i hc
      · by_cases e : n = k
        · subst e
          rw [ma_up_s, mt_div_eq _ _ n0 (by omega), mt_ml]
        · rw [ma_up_ne2 e]; exact hv n n0 (by omega)
theorem mx_div {M : ma_M} {r x y o : Int} (hr : mx_ar r 9) (hx : mx_ar x 9) (hy : mx_ar y 9) (hrx : x ≠ r) (hry : y ≠ r) (o0 : 0 ≤ o) (o1 : o ≤ 8) (bx : ∀ n, 0 ≤ n → n ≤ o → 0 ≤ M x n ∧ M x n < 65521) (by_ : ∀ n, 0 ≤ n → n ≤ o → 0 ≤ M y n ∧ M y n < 65521) {Q : Option ma_V → ma_S → ma_M → Prop} (cont : ∀ M2 : ma_M, (∀ c k, ¬ (c = r ∧ 0 ≤ k ∧ k ≤ o) → M2 c k = M c k) → (∀ n, 0 ≤ n → n ≤ o → M2 r n = mt_div (M x) (M y) n) → Q none mr_SH M2) : mr_do 22 [(2, r), (2, x), (2, y), (0, o)] mr_SH M Q := by
  have b0 := by_ 0 (by decide) o0
  simp (disch := (first | assumption | omega | ((repeat (refine mr_FIX_up ?_ (by unfold mr_nst; omega))); assumption))) only [x22, x22_0, x22_1, x22_2, x22_3, x22_5, hy.2, mx_t hy.1, true_and]
  refine ⟨by omega, mx_raise b0.1 b0.2 (by decide) (by decide) ?_⟩
  simp only [Option.toList_some, Option.toList_none, List.cons_append, List.nil_append]
  simp (disch := (first | assumption | omega | ((repeat (refine mr_FIX_up ?_ (by unfold mr_nst; omega))); assumption))) only [x22_8, x22_10, x22_11]
  exact mx_divl hr hx hy hrx hry o1 bx by_ cont (o.toNat + 2) 0 _ M _ _ (by omega) (by omega) (fun _ _ _ => rfl) (fun n n0 n1 => by omega)
/-! raiseRow -/
theorem mx_pws {M M1 : ma_M} {r x o e p : Int} (hr : mx_ar r 9) (hx : mx_ar x 9) (hrx : x ≠ r) (o0 : 0 ≤ o) (o1 : o ≤ 8) (p0 : 0 < p) (bx : ∀ n, 0 ≤ n → n ≤ o → 0 ≤ M x n ∧ M x n < 65521) (hf1 : ∀ c k, c ≠ r → M1 c k = M c k) {m : Nat} (hv : ∀ n, 0 ≤ n → n ≤ o → M1 r n = mt_pw (M x) m n) {Q : Option ma_V → ma_S → ma_M → Prop} (cont : ∀ M2 : ma_M, (∀ c k, c ≠ r → M2 c k = M c k) → (∀ n, 0 ≤ n → n ≤ o → M2 r n = mt_pw (M x) (2 * m + if ma_and e p = 0 then 0 else 1) n) → ma_wp 23 13 [(2, r), (2, x), (0, e), (0, o), (0, ma_shr p 1)] [] mr_SH M2 Q) : ma_wp 23 13 [(2, r), (2, x), (0, e), (0, o), (0, p)] [] mr_SH M1 Q := by
  obtain ⟨r1, r2⟩ := id hr
  obtain ⟨x1, x2⟩ := id hx
  have c1 : ¬ p ≤ 0 := by omega
  simp (disch := (first | assumption | omega | ((repeat (refine mr_FIX_up ?_ (by unfold mr_nst; omega))); assumption))) only [x23_13, x23_15, x23_18, x23_19, x23_20, x23_21, mx_t r1, true_and]
  refine ⟨fun z => absurd z c1, fun _ => ?_⟩
  refine mx_mul hr hr o0 o1 (fun n n0 n1 => by rw [hv n n0 n1]; exact mt_pw_b _ _ _) (fun n n0 n1 => by rw [hv n n0 n1]; exact mt_pw_b _ _ _) (fun M2 hf2 hv2 => ?_)
  have hv3 : ∀ n, 0 ≤ n → n ≤ o → M2 r n = mt_pw (M x) (2 * m) n := fun n n0 n1 => by
    rw [hv2 n n0 n1, Nat.two_mul, ← mt_pw_add _ _ _ n0]
    exact mt_mul_congr n0 (fun i i0 i1 => hv i i0 (by omega)) (fun i i0 i1 => hv i i0 (by omega))
  have hf3 : ∀ c k, c ≠ r → M2 c k = M c k := fun c k hc => (hf2 c k (fun z => hc z.1)).trans (hf1 c k hc)
  simp only [Option.toList_some, Option.toList_none, List.cons_append, List.nil_append]
  simp (disch := (first | assumption | omega | ((repeat (refine mr_FIX_up ?_ (by unfold mr_nst; omega))); assumption))) only [x23_24, x23_25, x23_27, x23_28]
  refine ⟨fun z => ?_, fun z => ?_⟩
  · simp (disch := (first | assumption | omega | ((repeat (refine mr_FIX_up ?_ (by unfold mr_nst; omega))); assumption))) only [x23_37, x23_39, x23_40, x23_41, x23_43]
    refine cont M2 hf3 (fun n n0 n1 => ?_)
    rw [if_pos z]
    exact hv3 n n0 n1
  · simp (disch := (first | assumption | omega | ((repeat (refine mr_FIX_up ?_ (by unfold mr_nst; omega))); assumption))) only [x23_31, x23_32, x23_33, x23_34, mx_t r1, mx_t x1, true_and]
    refine mx_mul hr hx o0 o1 (fun n n0 n1 => by rw [hv3 n n0 n1]; exact mt_pw_b _ _ _) (fun n n0 n1 => by rw [hf3 x n hrx]; exact bx n n0 n1) (fun M3 hf4 hv4 => ?_)
    simp only [Option.toList_some, Option.toList_none, List.cons_append, List.nil_append]
    simp (disch := (first | assumption | omega | ((repeat (refine mr_FIX_up ?_ (by unfold mr_nst; omega))); assumption))) only [x23_37, x23_39, x23_40, x23_41, x23_43]
    refine cont M3 (fun c k hc => (hf4 c k (fun z => hc z.1)).trans (hf3 c k hc)) (fun n n0 n1 => ?_)
    rw [if_neg z, hv4 n n0 n1, mt_pw]
    exact mt_mul_congr n0 (fun i i0 i1 => hv3 i i0 (by omega)) (fun i i0 i1 => hf3 x i hrx)
theorem mx_bits {e : Int} (e0 : 0 ≤ e) (e9 : e ≤ 9) : (2 * (2 * (2 * (2 * 0 + if ma_and e 8 = 0 then 0 else 1) + if ma_and e 4 = 0 then 0 else 1) + if ma_and e 2 = 0 then 0 else 1) + if ma_and e 1 = 0 then 0 else 1) = e.toNat := by
  have h : ∀ t, t < 10 → (2 * (2 * (2 * (2 * 0 + if ma_and ((t : Nat) : Int) 8 = 0 then 0 else 1) + if ma_and ((t : Nat) : Int) 4 = 0 then 0 else 1) + if ma_and ((t : Nat) : Int) 2 = 0 then 0 else 1) + if ma_and ((t : Nat) : Int) 1 = 0 then 0 else 1) = t := by decide +kernel
  have h2 := h e.toNat (by omega)
  rw [Int.toNat_of_nonneg e0] at h2
  exact h2
theorem mx_sh8 : ma_shr 8 1 = 4 ∧ ma_shr 4 1 = 2 ∧ ma_shr 2 1 = 1 ∧ ma_shr 1 1 = 0 := by decide +kernel
theorem mx_pw {M : ma_M} {r x o e : Int} (hr : mx_ar r 9) (hx : mx_ar x 9) (hrx : x ≠ r) (o0 : 0 ≤ o) (o1 : o ≤ 8) (e0 : 0 ≤ e) (e9 : e ≤ 9) (bx : ∀ n, 0 ≤ n → n ≤ o → 0 ≤ M x n ∧ M x n < 65521) {Q : Option ma_V → ma_S → ma_M → Prop} (cont : ∀ M2 : ma_M, (∀ c k, c ≠ r → M2 c k = M c k) → (∀ n, 0 ≤ n → n ≤ o → M2 r n = mt_pw (M x) e.toNat n) → Q none mr_SH M2) : mr_do 23 [(2, r), (2, x), (0, e), (0, o)] mr_SH M Q := by
  obtain ⟨r1, r2⟩ := id hr
  obtain ⟨s8, s4, s2, s1⟩ := mx_sh8
  simp (disch := (first | assumption | omega | ((repeat (refine mr_FIX_up ?_ (by unfold mr_nst; omega))); assumption))) only [x23, x23_0, x23_1, x23_2, mx_t r1, true_and]
  refine mx_fill hr (by decide) (by decide) (fun M1 hf1 hv1 => ?_)
  simp only [Option.toList_some, Option.toList_none, List.cons_append, List.nil_append]
  simp (disch := (first | assumption | omega | ((repeat (refine mr_FIX_up ?_ (by unfold mr_nst; omega))); assumption))) only [x23_5, x23_6, x23_7, x23_8, x23_9, x23_11, mx_t r1, true_and, r2]
  refine ⟨by omega, ?_⟩
  refine mx_pws (M := M) (m := 0) hr hx hrx o0 o1 (by decide) bx (fun c k hc => (ma_up_ne hc).trans (hf1 c k (fun z => hc z.1))) (fun n n0 n1 => ?_) (fun M2 hf2 hv2 => ?_)
  · show _ = if n = 0 then 1 else 0
    by_cases e : n = 0
    · subst e; rw [ma_up_s, if_pos rfl]
    · rw [ma_up_ne2 e, if_neg e]; exact hv1 n n0 (by omega)
  · rw [s8]
    refine mx_pws (M := M) hr hx hrx o0 o1 (by decide) bx hf2 hv2 (fun M2 hf2 hv2 => ?_)
    rw [s4]
    refine mx_pws (M := M) hr hx hrx o0 o1 (by decide) bx hf2 hv2 (fun M2 hf2 hv2 => ?_)
    rw [s2]
    refine mx_pws (M := M) hr hx hrx o0 o1 (by decide) bx hf2 hv2 (fun M2 hf2 hv2 => ?_)
    rw [s1]
    simp (disch := (first | assumption | omega | ((repeat (refine mr_FIX_up ?_ (by unfold mr_nst; omega))); assumption))) only [x23_13, x23_15, x23_46]
    rw [mx_bits e0 e9] at hv2
    exact ⟨fun _ => cont M2 hf2 hv2, fun z => absurd (by decide) z⟩
