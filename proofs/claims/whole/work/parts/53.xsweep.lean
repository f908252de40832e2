/-! the program's sweep -/
def mx_st (V : Int → Int → Int) (u : Int) : Int := if V u 9 = 1 then -1 else if V u 10 = 1 then -2 else 0
def mx_ag (M1 : ma_M) (V : Int → Int → Int) (o u : Int) : Prop := M1 34 u = mx_st V u ∧ (V u 9 = 0 → (∀ n, 0 ≤ n → n ≤ o → 0 ≤ M1 (10 + u) n ∧ M1 (10 + u) n < 65521) ∧ M1 (10 + u) 0 = V u 0 ∧ (V u 10 = 0 → ∀ n, 0 ≤ n → n ≤ o → M1 (10 + u) n = V u n))
theorem mx_worse (s t : Int) (sh : ma_S) (M : ma_M) (Q : Option ma_V → ma_S → ma_M → Prop) : mr_do 14 [(0, s), (0, t)] sh M Q ↔ Q (some (0, if s = -1 ∨ t = -1 then -1 else if s = -2 ∨ t = -2 then -2 else 0)) sh M := by
  by_cases h1 : s = -1
  · simp (disch := (first | assumption | omega | ((repeat (refine mr_FIX_up ?_ (by unfold mr_nst; omega))); assumption))) [x14, x14_0, x14_1, x14_2, x14_5, x14_6, x14_7, x14_10, x14_11, x14_12, x14_13, x14_15, x14_18, x14_19, x14_21, x14_24, x14_26, x14_29, x14_30, h1]
  · by_cases h2 : t = -1
    · simp (disch := (first | assumption | omega | ((repeat (refine mr_FIX_up ?_ (by unfold mr_nst; omega))); assumption))) [x14, x14_0, x14_1, x14_2, x14_5, x14_6, x14_7, x14_10, x14_11, x14_12, x14_13, x14_15, x14_18, x14_19, x14_21, x14_24, x14_26, x14_29, x14_30, h1, h2]
    · by_cases h3 : s = -2
      · simp (disch := (first | assumption | omega | ((repeat (refine mr_FIX_up ?_ (by unfold mr_nst; omega))); assumption))) [x14, x14_0, x14_1, x14_2, x14_5, x14_6, x14_7, x14_10, x14_11, x14_12, x14_13, x14_15, x14_18, x14_19, x14_21, x14_24, x14_26, x14_29, x14_30, h2, h3]
      · by_cases h4 : t = -2
        · simp (disch := (first | assumption | omega | ((repeat (refine mr_FIX_up ?_ (by unfold mr_nst; omega))); assumption))) [x14, x14_0, x14_1, x14_2, x14_5, x14_6, x14_7, x14_10, x14_11, x14_12, x14_13, x14_15, x14_18, x14_19, x14_21, x14_24, x14_26, x14_29, x14_30, h1, h3, h4]
        · simp (disch := (first | assumption | omega | ((repeat (refine mr_FIX_up ?_ (by unfold mr_nst; omega))); assumption))) [x14, x14_0, x14_1, x14_2, x14_5, x14_6, x14_7, x14_10, x14_11, x14_12, x14_13, x14_15, x14_18, x14_19, x14_21, x14_24, x14_26, x14_29, x14_30, h1, h2, h3, h4]
/-- findState -/
theorem mx_findState {M1 : ma_M} (hF1 : mr_FIX M1) {v k a b : Int} (v0 : 0 ≤ v) (v1 : v < 24) (a0 : 0 ≤ a) (a1 : a < 24) (b0 : 0 ≤ b) (b1 : b < 24) (e2 : M1 2 v = k) (e3 : M1 3 v = a) (e4 : M1 4 v = b) {Q : Option ma_V → ma_S → ma_M → Prop} {U1 U2 R1 R2 : Prop} [Decidable U1] [Decidable U2] [Decidable R1] [Decidable R2] (ha : M1 34 a = if U1 then -1 else if R1 then -2 else 0) (hb : M1 34 b = if U2 then -1 else if R2 then -2 else 0) (q1 : U1 ∨ U2 ∨ (¬ U1 ∧ ¬ U2 ∧ k = 3 ∧ M1 (10 + b) 0 = 0) → Q (some (0, -1)) mr_SH M1) (q2 : ¬ U1 → ¬ U2 → ¬ (k = 3 ∧ M1 (10 + b) 0 = 0) → R1 ∨ R2 ∨ ((k = 4 ∨ k = 5) ∧ M1 (10 + a) 0 = M1 (10 + b) 0) → Q (some (0, -2)) mr_SH M1) (q3 : ¬ U1 → ¬ U2 → ¬ (k = 3 ∧ M1 (10 + b) 0 = 0) → ¬ (R1 ∨ R2 ∨ ((k = 4 ∨ k = 5) ∧ M1 (10 + a) 0 = M1 (10 + b) 0)) → Q (some (0, 0)) mr_SH M1) : mr_do 17 [(2, 8), (2, 1), (0, v)] mr_SH M1 Q := by
  have la := ml_rows a0 a1
  have lb := ml_rows b0 b1
  have go : ∀ w : Int, w = (if M1 34 a = -1 ∨ M1 34 b = -1 then -1 else if M1 34 a = -2 ∨ M1 34 b = -2 then -2 else 0) → ma_wp 17 41 [(2, 8), (2, 1), (0, v), (0, a), (0, b), (0, k), (0, w), (3, 0)] [] mr_SH M1 Q := by
    intro w hw
    by_cases u1 : U1
    · rw [if_pos u1] at ha
      rw [if_pos (Or.inl ha)] at hw
      subst hw
      simp (disch := (first | assumption | omega | ((repeat (refine mr_FIX_up ?_ (by unfold mr_nst; omega))); assumption))) [x17_41, x17_43, x17_44, x17_47, x17_49, x17_50, s17_53, s17_54, x17_57, s17_59, x17_60, x17_61, x17_62, x17_65, x17_66]
      exact q1 (Or.inl u1)
    · by_cases u2 : U2
      · rw [if_pos u2] at hb
        rw [if_pos (Or.inr hb)] at hw
        subst hw
        simp (disch := (first | assumption | omega | ((repeat (refine mr_FIX_up ?_ (by unfold mr_nst; omega))); assumption))) [x17_41, x17_43, x17_44, x17_47, x17_49, x17_50, s17_53, s17_54, x17_57, s17_59, x17_60, x17_61, x17_62, x17_65, x17_66]
        exact q1 (Or.inr (Or.inl u2))
      · rw [if_neg u1] at ha
        rw [if_neg u2] at hb
        have hw2 : w = if R1 ∨ R2 then -2 else 0 := by
          rw [hw, ha, hb]
          by_cases r1 : R1 <;> by_cases r2 : R2 <;> simp [r1, r2]
        have hw3 : ¬ w = -1 := by rw [hw2]; split <;> decide
        by_cases h3 : k = 3
        · by_cases h0 : M1 (10 + b) 0 = 0
          · simp (disch := (first | assumption | omega | ((repeat (refine mr_FIX_up ?_ (by unfold mr_nst; omega))); assumption))) [x17_41, x17_43, x17_44, x17_47, x17_49, x17_50, s17_53, s17_54, x17_57, s17_59, x17_60, x17_61, x17_62, x17_65, x17_66, hw3, h3, h0, lb]
            exact ⟨by omega, q1 (Or.inr (Or.inr ⟨u1, u2, h3, h0⟩))⟩
          · simp (disch := (first | assumption | omega | ((repeat (refine mr_FIX_up ?_ (by unfold mr_nst; omega))); assumption))) [x17_41, x17_43, x17_44, x17_47, x17_49, x17_50, s17_53, s17_54, x17_57, s17_59, x17_60, x17_61, x17_62, x17_65, x17_66, x17_67, x17_69, x17_70, x17_73, x17_75, x17_76, x17_79, x17_80, x17_83, x17_84, x17_86, x17_88, s17_91, s17_92, x17_95, s17_96, x17_97, x17_98, s17_99, s17_100, x17_103, s17_105, x17_106, x17_107, x17_108, x17_111, x17_113, x17_116, x17_118, hw3, h3, h0, lb]
            refine ⟨by omega, ?_⟩
            by_cases r : R1 ∨ R2
            · rw [if_pos r] at hw2
              rw [hw2]
              exact q2 u1 u2 (fun z => h0 z.2) (r.elim Or.inl (fun z => Or.inr (Or.inl z)))
            · rw [if_neg r] at hw2
              rw [hw2]
              exact q3 u1 u2 (fun z => h0 z.2) (fun z => by rcases z with z | z | z; exact r (Or.inl z); exact r (Or.inr z); omega)
        · by_cases h45 : k = 4 ∨ k = 5
          · by_cases hE : M1 (10 + a) 0 = M1 (10 + b) 0
            · have := q2 u1 u2 (fun z => h3 z.1) (Or.inr (Or.inr ⟨h45, hE⟩))
              rcases h45 with h | h
              · simp (disch := (first | assumption | omega | ((repeat (refine mr_FIX_up ?_ (by unfold mr_nst; omega))); assumption))) [x17_41, x17_43, x17_44, x17_47, x17_49, x17_50, s17_53, s17_54, x17_57, s17_59, x17_60, x17_61, x17_62, x17_65, x17_66, x17_67, x17_69, x17_70, x17_73, x17_75, x17_76, x17_79, x17_80, x17_83, x17_84, x17_86, x17_88, s17_91, s17_92, x17_95, s17_96, x17_97, x17_98, s17_99, s17_100, x17_103, s17_105, x17_106, x17_107, x17_108, x17_111, x17_113, x17_116, x17_118, hw3, h, hE, la, lb]
                exact ⟨by omega, by omega, this⟩
              · simp (disch := (first | assumption | omega | ((repeat (refine mr_FIX_up ?_ (by unfold mr_nst; omega))); assumption))) [x17_41, x17_43, x17_44, x17_47, x17_49, x17_50, s17_53, s17_54, x17_57, s17_59, x17_60, x17_61, x17_62, x17_65, x17_66, x17_67, x17_69, x17_70, x17_73, x17_75, x17_76, x17_79, x17_80, x17_83, x17_84, x17_86, x17_88, s17_91, s17_92, x17_95, s17_96, x17_97, x17_98, s17_99, s17_100, x17_103, s17_105, x17_106, x17_107, x17_108, x17_111, x17_113, x17_116, x17_118, hw3, h, hE, la, lb]
                exact ⟨by omega, by omega, this⟩
            · have fin : Q (some (0, w)) mr_SH M1 := by
                by_cases r : R1 ∨ R2
                · rw [if_pos r] at hw2
                  rw [hw2]
                  exact q2 u1 u2 (fun z => h3 z.1) (r.elim Or.inl (fun z => Or.inr (Or.inl z)))
                · rw [if_neg r] at hw2
                  rw [hw2]
                  exact q3 u1 u2 (fun z => h3 z.1) (fun z => by rcases z with z | z | z; exact r (Or.inl z); exact r (Or.inr z); exact hE z.2)
              rcases h45 with h | h
              · simp (disch := (first | assumption | omega | ((repeat (refine mr_FIX_up ?_ (by unfold mr_nst; omega))); assumption))) [x17_41, x17_43, x17_44, x17_47, x17_49, x17_50, s17_53, s17_54, x17_57, s17_59, x17_60, x17_61, x17_62, x17_65, x17_66, x17_67, x17_69, x17_70, x17_73, x17_75, x17_76, x17_79, x17_80, x17_83, x17_84, x17_86, x17_88, s17_91, s17_92, x17_95, s17_96, x17_97, x17_98, s17_99, s17_100, x17_103, s17_105, x17_106, x17_107, x17_108, x17_111, x17_113, x17_116, x17_118, hw3, h, hE, la, lb]
                exact ⟨by omega, by omega, fin⟩
              · simp (disch := (first | assumption | omega | ((repeat (refine mr_FIX_up ?_ (by unfold mr_nst; omega))); assumption))) [x17_41, x17_43, x17_44, x17_47, x17_49, x17_50, s17_53, s17_54, x17_57, s17_59, x17_60, x17_61, x17_62, x17_65, x17_66, x17_67, x17_69, x17_70, x17_73, x17_75, x17_76, x17_79, x17_80, x17_83, x17_84, x17_86, x17_88, s17_91, s17_92, x17_95, s17_96, x17_97, x17_98, s17_99, s17_100, x17_103, s17_105, x17_106, x17_107, x17_108, x17_111, x17_113, x17_116, x17_118, hw3, h, hE, la, lb]
                exact ⟨by omega, by omega, fin⟩
          · have h4 : ¬ k = 4 := fun z => h45 (Or.inl z)
            have h5 : ¬ k = 5 := fun z => h45 (Or.inr z)
            simp (disch := (first | assumption | omega | ((repeat (refine mr_FIX_up ?_ (by unfold mr_nst; omega))); assumption))) [x17_41, x17_43, x17_44, x17_47, x17_49, x17_50, s17_53, s17_54, x17_57, s17_59, x17_60, x17_61, x17_62, x17_65, x17_66, x17_67, x17_69, x17_70, x17_73, x17_75, x17_76, x17_79, x17_80, x17_83, x17_84, x17_86, x17_88, s17_91, s17_92, x17_95, s17_96, x17_97, x17_98, s17_99, s17_100, x17_103, s17_105, x17_106, x17_107, x17_108, x17_111, x17_113, x17_116, x17_118, hw3, h3, h4, h5]
            by_cases r : R1 ∨ R2
            · rw [if_pos r] at hw2
              rw [hw2]
              exact q2 u1 u2 (fun z => h3 z.1) (r.elim Or.inl (fun z => Or.inr (Or.inl z)))
            · rw [if_neg r] at hw2
              rw [hw2]
              exact q3 u1 u2 (fun z => h3 z.1) (fun z => by rcases z with z | z | z; exact r (Or.inl z); exact r (Or.inr z); exact h45 z.1)
  simp (disch := (first | assumption | omega | ((repeat (refine mr_FIX_up ?_ (by unfold mr_nst; omega))); assumption))) only [x17, s17_0, s17_1, x17_4, s17_5, x17_6, s17_7, s17_8, x17_11, s17_12, x17_13, s17_15, s17_16, x17_19, s17_20, x17_21, s17_23, s17_24, x17_27, s17_28, s17_29, s17_30, x17_33, s17_35, x17_36, e2, e3, e4]
  refine ⟨by omega, by omega, by omega, by omega, by omega, ?_⟩
  rw [mx_worse]
  simp only [Option.toList_some, Option.toList_none, List.cons_append, List.nil_append]
  simp (disch := (first | assumption | omega | ((repeat (refine mr_FIX_up ?_ (by unfold mr_nst; omega))); assumption))) only [x17_39]
  exact go _ rfl
/-- findChosen -/
theorem mx_chosen {M1 : ma_M} (hF1 : mr_FIX M1) {v k a b : Int} (v0 : 0 ≤ v) (v1 : v < 24) (a0 : 0 ≤ a) (a1 : a < 24) (b0 : 0 ≤ b) (b1 : b < 24) (e2 : M1 2 v = k) (e3 : M1 3 v = a) (e4 : M1 4 v = b) {Q : Option ma_V → ma_S → ma_M → Prop} (q1 : (k = 4 ∧ M1 (10 + a) 0 < M1 (10 + b) 0) ∨ (k ≠ 4 ∧ M1 (10 + b) 0 ≤ M1 (10 + a) 0) → Q (some (0, a)) mr_SH M1) (q2 : (k = 4 ∧ M1 (10 + b) 0 ≤ M1 (10 + a) 0) ∨ (k ≠ 4 ∧ M1 (10 + a) 0 < M1 (10 + b) 0) → Q (some (0, b)) mr_SH M1) : mr_do 16 [(2, 8), (2, 1), (0, v)] mr_SH M1 Q := by
  have la := ml_rows a0 a1
  have lb := ml_rows b0 b1
  by_cases h : M1 (10 + a) 0 < M1 (10 + b) 0
  · have h' : ¬ M1 (10 + b) 0 ≤ M1 (10 + a) 0 := by omega
    by_cases hk : k = 4
    · simp (disch := (first | assumption | omega | ((repeat (refine mr_FIX_up ?_ (by unfold mr_nst; omega))); assumption))) [x16, s16_0, s16_1, x16_4, s16_5, x16_6, s16_7, s16_8, x16_11, s16_12, x16_13, s16_15, s16_16, x16_19, s16_20, x16_21, x16_22, s16_23, s16_24, x16_27, s16_29, x16_30, x16_31, x16_32, x16_35, x16_36, x16_39, x16_40, x16_42, s16_44, s16_45, x16_48, s16_49, x16_50, x16_51, x16_54, x16_55, x16_58, x16_59, x16_62, x16_63, x16_66, x16_68, e2, e3, e4, la, lb, h', hk]
      exact ⟨by omega, by omega, by omega, by omega, q1 (Or.inl ⟨hk, h⟩)⟩
    · simp (disch := (first | assumption | omega | ((repeat (refine mr_FIX_up ?_ (by unfold mr_nst; omega))); assumption))) [x16, s16_0, s16_1, x16_4, s16_5, x16_6, s16_7, s16_8, x16_11, s16_12, x16_13, s16_15, s16_16, x16_19, s16_20, x16_21, x16_22, s16_23, s16_24, x16_27, s16_29, x16_30, x16_31, x16_32, x16_35, x16_36, x16_39, x16_40, x16_42, s16_44, s16_45, x16_48, s16_49, x16_50, x16_51, x16_54, x16_55, x16_58, x16_59, x16_62, x16_63, x16_66, x16_68, e2, e3, e4, la, lb, h', hk]
      exact ⟨by omega, by omega, by omega, by omega, q2 (Or.inr ⟨hk, h⟩)⟩
  · have h' : M1 (10 + b) 0 ≤ M1 (10 + a) 0 := by omega
    by_cases hk : k = 4
    · simp (disch := (first | assumption | omega | ((repeat (refine mr_FIX_up ?_ (by unfold mr_nst; omega))); assumption))) [x16, s16_0, s16_1, x16_4, s16_5, x16_6, s16_7, s16_8, x16_11, s16_12, x16_13, s16_15, s16_16, x16_19, s16_20, x16_21, x16_22, s16_23, s16_24, x16_27, s16_29, x16_30, x16_31, x16_32, x16_35, x16_36, x16_39, x16_40, x16_42, s16_44, s16_45, x16_48, s16_49, x16_50, x16_51, x16_54, x16_55, x16_58, x16_59, x16_62, x16_63, x16_66, x16_68, e2, e3, e4, la, lb, h', hk]
      exact ⟨by omega, by omega, by omega, by omega, q2 (Or.inl ⟨hk, h'⟩)⟩
    · simp (disch := (first | assumption | omega | ((repeat (refine mr_FIX_up ?_ (by unfold mr_nst; omega))); assumption))) [x16, s16_0, s16_1, x16_4, s16_5, x16_6, s16_7, s16_8, x16_11, s16_12, x16_13, s16_15, s16_16, x16_19, s16_20, x16_21, x16_22, s16_23, s16_24, x16_27, s16_29, x16_30, x16_31, x16_32, x16_35, x16_36, x16_39, x16_40, x16_42, s16_44, s16_45, x16_48, s16_49, x16_50, x16_51, x16_54, x16_55, x16_58, x16_59, x16_62, x16_63, x16_66, x16_68, e2, e3, e4, la, lb, h', hk]
      exact ⟨by omega, by omega, by omega, by omega, q1 (Or.inr ⟨hk, h'⟩)⟩
