/-! size: the program -/
theorem mc_F9 {M : ma_M} (hI : mr_INV M) {L : Int → Int → Int} {v : Int} (v0 : 0 ≤ v) (v1 : v < M 1 0) (h : mc_F M (mt_V M L) v = 1) : mt_V M L v 9 = 0 := by
  rw [mc_FE hI _ v0 v1] at h
  unfold mc_f1 at h
  by_cases c : M 2 v = 8 ∨ (M 2 v ≤ 6 ∧ mc_F M (mt_V M L) (M 3 v) = 1 ∧ mc_F M (mt_V M L) (M 4 v) = 1 ∧ mt_V M L v 9 = 0)
  · rcases c with c | c
    · rw [mt_VE hI L v0 v1, mt_nv8 c, if_neg (by decide)]
    · exact c.2.2.2
  · rw [if_neg c] at h
    exact absurd h (by decide)
/-- what the counting reads -/
def mc_pre (M S : ma_M) (V : Int → Int → Int) : Prop := mr_FIX S ∧ (∀ c k, 1 ≤ c → c ≤ 5 → S c k = M c k) ∧ ∀ u, 0 ≤ u → u < M 1 0 → S 34 u = mx_st V u ∧ (V u 9 = 0 → S (10 + u) 0 = V u 0)
set_option maxHeartbeats 1000000 in
theorem mc_isF {M S : ma_M} (hI : mr_INV M) {V : Int → Int → Int} (hP : mc_pre M S V) {v : Int} (v0 : 0 ≤ v) (v1 : v < M 1 0) (hV : V v 9 = 0 ∨ V v 9 = 1) (h38 : ∀ u, 0 ≤ u → u < v → S 38 u = mc_F M V u) {Q : Option ma_V → ma_S → ma_M → Prop} (q : Q (some (0, mc_F M V v)) mr_SH S) : mr_do 32 [(2, 37), (2, 1), (2, 8), (0, v)] mr_SH S Q := by
  have hN := hI.2.1.1.2.1
  have hF := hP.1
  have v24 : 0 ≤ v ∧ v < 24 := by omega
  have e2 : S 2 v = M 2 v := hP.2.1 2 v (by decide) (by decide)
  have e3 : S 3 v = M 3 v := hP.2.1 3 v (by decide) (by decide)
  have e4 : S 4 v = M 4 v := hP.2.1 4 v (by decide) (by decide)
  have e34 := (hP.2.2 v v0 v1).1
  rw [mc_FE hI V v0 v1] at q
  unfold mc_f1 at q
  simp (disch := (first | assumption | omega | ((repeat (refine mr_FIX_up ?_ (by unfold mr_nst; omega))); assumption))) only [x32, s32_0, x32_1, s32_2]
  rw [mx_isOp hF v0 v24.2, e2]
  simp only [Option.toList_some, Option.toList_none, List.cons_append, List.nil_append]
  by_cases op : M 2 v ≤ 6
  · have ho := mc_op hI v0 v1 op
    have a24 : 0 ≤ M 3 v ∧ M 3 v < 24 := by omega
    have b24 : 0 ≤ M 4 v ∧ M 4 v < 24 := by omega
    have n8 : ¬ M 2 v = 8 := by omega
    have f1 := h38 _ ho.1.1 ho.1.2
    have f2 := h38 _ ho.2.1 ho.2.2
    rw [if_pos op]
    rcases mc_F01 hI V ho.1.1 (show M 3 v < M 1 0 by omega) with g1 | g1
    · rw [if_neg (by rw [g1]; omega)] at q
      simp (disch := (first | assumption | omega | ((repeat (refine mr_FIX_up ?_ (by unfold mr_nst; omega))); assumption))) [x32_5, s32_8, s32_9, x32_12, s32_13, x32_14, x32_16, x32_19, x32_20, x32_23, x32_24, s32_25, s32_26, s32_29, s32_30, x32_33, s32_34, s32_35, x32_36, s32_39, s32_40, s32_43, s32_44, x32_47, s32_48, s32_49, x32_50, s32_53, s32_54, x32_57, s32_58, x32_59, x32_60, x32_63, x32_64, x32_67, x32_68, e3, f1, g1, v24, a24]
      exact q
    · rcases mc_F01 hI V ho.2.1 (show M 4 v < M 1 0 by omega) with g2 | g2
      · rw [if_neg (by rw [g2]; omega)] at q
        simp (disch := (first | assumption | omega | ((repeat (refine mr_FIX_up ?_ (by unfold mr_nst; omega))); assumption))) [x32_5, s32_8, s32_9, x32_12, s32_13, x32_14, x32_16, x32_19, x32_20, x32_23, x32_24, s32_25, s32_26, s32_29, s32_30, x32_33, s32_34, s32_35, x32_36, s32_39, s32_40, s32_43, s32_44, x32_47, s32_48, s32_49, x32_50, s32_53, s32_54, x32_57, s32_58, x32_59, x32_60, x32_63, x32_64, x32_67, x32_68, e3, f1, g1, e4, f2, g2, v24, a24, b24]
        exact q
      · rcases hV with g3 | g3
        · rw [if_pos (Or.inr ⟨op, g1, g2, g3⟩)] at q
          have e34' : S 34 v ≠ -1 := by
            rw [e34]; unfold mx_st; rw [g3, if_neg (by decide)]; split <;> decide
          simp (disch := (first | assumption | omega | ((repeat (refine mr_FIX_up ?_ (by unfold mr_nst; omega))); assumption))) [x32_5, s32_8, s32_9, x32_12, s32_13, x32_14, x32_16, x32_19, x32_20, x32_23, x32_24, s32_25, s32_26, s32_29, s32_30, x32_33, s32_34, s32_35, x32_36, s32_39, s32_40, s32_43, s32_44, x32_47, s32_48, s32_49, x32_50, s32_53, s32_54, x32_57, s32_58, x32_59, x32_60, x32_63, x32_64, x32_67, x32_68, e3, f1, g1, e4, f2, g2, e34', v24, a24, b24]
          exact q
        · rw [if_neg (by rw [g3]; omega)] at q
          have e34' : S 34 v = -1 := by
            rw [e34]; unfold mx_st; rw [if_pos g3]
          simp (disch := (first | assumption | omega | ((repeat (refine mr_FIX_up ?_ (by unfold mr_nst; omega))); assumption))) [x32_5, s32_8, s32_9, x32_12, s32_13, x32_14, x32_16, x32_19, x32_20, x32_23, x32_24, s32_25, s32_26, s32_29, s32_30, x32_33, s32_34, s32_35, x32_36, s32_39, s32_40, s32_43, s32_44, x32_47, s32_48, s32_49, x32_50, s32_53, s32_54, x32_57, s32_58, x32_59, x32_60, x32_63, x32_64, x32_67, x32_68, e3, f1, g1, e4, f2, g2, e34', v24, a24, b24]
          exact q
  · rw [if_neg op]
    by_cases h8 : M 2 v = 8
    · rw [if_pos (Or.inl h8)] at q
      simp (disch := (first | assumption | omega | ((repeat (refine mr_FIX_up ?_ (by unfold mr_nst; omega))); assumption))) [x32_5, s32_8, s32_9, x32_12, s32_13, x32_14, x32_16, x32_19, x32_20, x32_23, x32_24, e2, h8, v24]
      exact q
    · rw [if_neg (by omega)] at q
      simp (disch := (first | assumption | omega | ((repeat (refine mr_FIX_up ?_ (by unfold mr_nst; omega))); assumption))) [x32_5, s32_8, s32_9, x32_12, s32_13, x32_14, x32_16, x32_19, x32_20, x32_23, x32_24, e2, h8, v24]
      exact q
theorem mc_alk4 {S : ma_M} {u v k p q r s c : Int} {Q : Option ma_V → ma_S → ma_M → Prop} (q1 : (p = r ∧ q = s) ∨ (¬ c = 0 ∧ p = s ∧ q = r) → Q (some (0, 1)) mr_SH S) (q0 : ¬ ((p = r ∧ q = s) ∨ (¬ c = 0 ∧ p = s ∧ q = r)) → Q (some (0, 0)) mr_SH S) : ma_wp 34 193 [(2, 37), (2, 1), (2, 8), (0, u), (0, v), (0, k), (0, p), (0, q), (0, r), (0, s), (0, c)] [] mr_SH S Q := by
  simp (disch := (first | assumption | omega | ((repeat (refine mr_FIX_up ?_ (by unfold mr_nst; omega))); assumption))) only [x34_193, x34_195, x34_197, x34_200, x34_202, x34_204, x34_207, x34_209, x34_212, x34_214, x34_216, x34_219, x34_221, x34_223, x34_226, x34_227, x34_230, x34_231]
  generalize Q (some (0, 1)) mr_SH S = X at *
  generalize Q (some (0, 0)) mr_SH S = Y at *
  grind
theorem mc_alk3 {S : ma_M} {u v k p q r s z : Int} {Q : Option ma_V → ma_S → ma_M → Prop} (q1 : (p = r ∧ q = s) ∨ (mc_x k ∧ p = s ∧ q = r) → Q (some (0, 1)) mr_SH S) (q0 : ¬ ((p = r ∧ q = s) ∨ (mc_x k ∧ p = s ∧ q = r)) → Q (some (0, 0)) mr_SH S) : ma_wp 34 163 [(2, 37), (2, 1), (2, 8), (0, u), (0, v), (0, k), (0, p), (0, q), (0, r), (0, s), (3, z)] [] mr_SH S Q := by
  by_cases x : mc_x k
  · have h := mc_alk4 (u := u) (v := v) (k := k) (c := 1) (fun w => q1 (w.elim Or.inl (fun w => Or.inr ⟨x, w.2⟩))) (fun w => q0 (fun y => w (y.elim Or.inl (fun y => Or.inr ⟨by decide, y.2⟩))))
    rcases x with rfl | rfl | rfl | rfl <;> (simp (disch := (first | assumption | omega | ((repeat (refine mr_FIX_up ?_ (by unfold mr_nst; omega))); assumption))) [x34_163, x34_165, x34_168, x34_170, x34_171, x34_174, x34_176, x34_177, x34_180, x34_182, x34_183, x34_186, x34_187, x34_190, x34_191]; exact h)
  · have h := mc_alk4 (u := u) (v := v) (k := k) (c := 0) (fun w => q1 (w.elim Or.inl (fun w => absurd rfl w.1))) (fun w => q0 (fun y => w (y.elim Or.inl (fun y => absurd y.1 x))))
    unfold mc_x at x
    have x0 : ¬ k = 0 := fun z => x (Or.inl z)
    have x2 : ¬ k = 2 := fun z => x (Or.inr (Or.inl z))
    have x4 : ¬ k = 4 := fun z => x (Or.inr (Or.inr (Or.inl z)))
    have x5 : ¬ k = 5 := fun z => x (Or.inr (Or.inr (Or.inr z)))
    simp (disch := (first | assumption | omega | ((repeat (refine mr_FIX_up ?_ (by unfold mr_nst; omega))); assumption))) [x34_163, x34_165, x34_168, x34_170, x34_171, x34_174, x34_176, x34_177, x34_180, x34_182, x34_183, x34_186, x34_187, x34_190, x34_191, x0, x2, x4, x5]
    exact h
set_option maxHeartbeats 2000000 in
theorem mc_alk {M S : ma_M} (hI : mr_INV M) {L : Int → Int → Int} (hP : mc_pre M S (mt_V M L)) {u v : Int} (u0 : 0 ≤ u) (huv : u < v) (v1 : v < M 1 0) (h38 : ∀ w, 0 ≤ w → w ≤ v → S 38 w = mc_F M (mt_V M L) w) (h41 : ∀ w, 0 ≤ w → w < v → S 41 w = mc_m M (mt_V M L) w) {Q : Option ma_V → ma_S → ma_M → Prop} (q1 : mc_k M (mt_V M L) u = mc_k M (mt_V M L) v → Q (some (0, 1)) mr_SH S) (q0 : mc_k M (mt_V M L) u ≠ mc_k M (mt_V M L) v → Q (some (0, 0)) mr_SH S) : mr_do 34 [(2, 37), (2, 1), (2, 8), (0, u), (0, v)] mr_SH S Q := by
  have hN := hI.2.1.1.2.1
  have hF := hP.1
  have v0 : 0 ≤ v := by omega
  have u1 : u < M 1 0 := by omega
  have v24 : 0 ≤ v ∧ v < 24 := by omega
  have u24 : 0 ≤ u ∧ u < 24 := by omega
  have fu := h38 u u0 (by omega)
  have fv := h38 v v0 (by omega)
  have lu := ml_rows u24.1 u24.2
  have lv := ml_rows v24.1 v24.2
  rcases mc_F01 hI (mt_V M L) u0 u1 with gu | gu
  · rcases mc_F01 hI (mt_V M L) v0 v1 with gv | gv
    · have nu : mc_F M (mt_V M L) u ≠ 1 := by omega
      have nv : mc_F M (mt_V M L) v ≠ 1 := by omega
      have e2u : S 2 u = M 2 u := hP.2.1 2 u (by decide) (by decide)
      have e2v : S 2 v = M 2 v := hP.2.1 2 v (by decide) (by decide)
      have e5u : S 5 u = M 5 u := hP.2.1 5 u (by decide) (by decide)
      have e5v : S 5 v = M 5 v := hP.2.1 5 v (by decide) (by decide)
      by_cases c7 : M 2 u = 7
      · have q := q0 (mc_k_7 (by omega) nu nv (Or.inl c7))
        simp (disch := (first | assumption | omega | ((repeat (refine mr_FIX_up ?_ (by unfold mr_nst; omega))); assumption))) [x34, s34_0, s34_1, x34_4, s34_5, x34_6, s34_9, s34_10, x34_13, s34_15, x34_16, s34_64, s34_65, x34_68, s34_69, x34_70, x34_72, x34_74, x34_76, x34_79, s34_81, s34_82, x34_85, s34_87, x34_88, s34_91, s34_92, x34_95, s34_96, s34_97, s34_98, x34_101, s34_103, x34_104, x34_107, x34_108, fu, fv, gu, gv, e2u, c7, u24, v24]
        exact q
      · by_cases ck : M 2 u = M 2 v
        · by_cases c5 : M 5 u = M 5 v
          · have k8u := (hI.2.2.1 u u0 u1).1.2.2
            have u8 : M 2 u ≠ 8 := fun z => nu (by rw [mc_FE hI _ u0 u1]; unfold mc_f1; rw [if_pos (Or.inl z)])
            have op : M 2 u ≤ 6 := by omega
            have ho := mc_op hI u0 u1 op
            have hp := mc_op hI v0 v1 (ck ▸ op)
            have e3u : S 3 u = M 3 u := hP.2.1 3 u (by decide) (by decide)
            have e3v : S 3 v = M 3 v := hP.2.1 3 v (by decide) (by decide)
            have e4u : S 4 u = M 4 u := hP.2.1 4 u (by decide) (by decide)
            have e4v : S 4 v = M 4 v := hP.2.1 4 v (by decide) (by decide)
            have m1 := h41 (M 3 u) ho.1.1 (by omega)
            have m2 := h41 (M 4 u) ho.2.1 (by omega)
            have m3 := h41 (M 3 v) hp.1.1 (by omega)
            have m4 := h41 (M 4 v) hp.2.1 (by omega)
            have b1 : 0 ≤ M 3 u ∧ M 3 u < 24 := by omega
            have b2 : 0 ≤ M 4 u ∧ M 4 u < 24 := by omega
            have b3 : 0 ≤ M 3 v ∧ M 3 v < 24 := by omega
            have b4 : 0 ≤ M 4 v ∧ M 4 v < 24 := by omega
            have key := mc_k_op hI nu nv c7 ck
            have c7v : ¬ M 2 v = 7 := by omega
            simp (disch := (first | assumption | omega | ((repeat (refine mr_FIX_up ?_ (by unfold mr_nst; omega))); assumption))) [x34, s34_0, s34_1, x34_4, s34_5, x34_6, s34_9, s34_10, x34_13, s34_15, x34_16, s34_64, s34_65, x34_68, s34_69, x34_70, x34_72, x34_74, x34_76, x34_79, s34_81, s34_82, x34_85, s34_87, x34_88, s34_91, s34_92, x34_95, s34_96, s34_97, s34_98, x34_101, s34_103, x34_104, fu, fv, gu, gv, e2u, e2v, e5u, e5v, c7, c7v, ck, c5, u24, v24]
            simp (disch := (first | assumption | omega | ((repeat (refine mr_FIX_up ?_ (by unfold mr_nst; omega))); assumption))) only [s34_109, s34_110, s34_113, s34_114, x34_117, s34_118, s34_119, x34_120, s34_122, s34_123, s34_126, s34_127, x34_130, s34_131, s34_132, x34_133, s34_135, s34_136, s34_139, s34_140, x34_143, s34_145, s34_146, x34_147, s34_149, s34_150, s34_153, s34_154, x34_157, s34_159, s34_160, x34_161, e3u, e3v, e4u, e4v, m1, m2, m3, m4]
            refine ⟨u24, b1, u24, b2, v24, b3, v24, b4, ?_⟩
            rw [← ck]
            exact mc_alk3 (fun w => q1 (key.2 ⟨c5, w⟩)) (fun w => q0 (fun y => w (key.1 y).2))
          · have c7v : ¬ M 2 v = 7 := by omega
            have q := q0 (fun z => c5 ((mc_k_op hI nu nv c7 ck).1 z).1)
            simp (disch := (first | assumption | omega | ((repeat (refine mr_FIX_up ?_ (by unfold mr_nst; omega))); assumption))) [x34, s34_0, s34_1, x34_4, s34_5, x34_6, s34_9, s34_10, x34_13, s34_15, x34_16, s34_64, s34_65, x34_68, s34_69, x34_70, x34_72, x34_74, x34_76, x34_79, s34_81, s34_82, x34_85, s34_87, x34_88, s34_91, s34_92, x34_95, s34_96, s34_97, s34_98, x34_101, s34_103, x34_104, x34_107, x34_108, fu, fv, gu, gv, e2u, e2v, e5u, e5v, ck, c5, u24, v24, c7v]
            exact q
        · have q := q0 (mc_k_7 (by omega) nu nv (Or.inr ck))
          simp (disch := (first | assumption | omega | ((repeat (refine mr_FIX_up ?_ (by unfold mr_nst; omega))); assumption))) [x34, s34_0, s34_1, x34_4, s34_5, x34_6, s34_9, s34_10, x34_13, s34_15, x34_16, s34_64, s34_65, x34_68, s34_69, x34_70, x34_72, x34_74, x34_76, x34_79, s34_81, s34_82, x34_85, s34_87, x34_88, s34_91, s34_92, x34_95, s34_96, s34_97, s34_98, x34_101, s34_103, x34_104, x34_107, x34_108, fu, fv, gu, gv, e2u, e2v, c7, ck, u24, v24]
          exact q
    · have q := q0 (fun z => mc_k_FN hI u0 u1 gv (by omega) z.symm)
      simp (disch := (first | assumption | omega | ((repeat (refine mr_FIX_up ?_ (by unfold mr_nst; omega))); assumption))) [x34, s34_0, s34_1, x34_4, s34_5, x34_6, s34_9, s34_10, x34_13, s34_15, x34_16, s34_19, s34_20, x34_23, s34_24, x34_25, s34_28, s34_29, x34_32, s34_34, x34_35, s34_38, s34_39, x34_42, s34_43, x34_44, x34_45, s34_46, s34_47, x34_50, s34_52, x34_53, x34_54, x34_55, x34_58, x34_59, x34_62, x34_63, fu, fv, gu, gv, u24, v24]
      exact q
  · rcases mc_F01 hI (mt_V M L) v0 v1 with gv | gv
    · have q := q0 (fun z => mc_k_FN hI v0 v1 gu (by omega) z)
      simp (disch := (first | assumption | omega | ((repeat (refine mr_FIX_up ?_ (by unfold mr_nst; omega))); assumption))) [x34, s34_0, s34_1, x34_4, s34_5, x34_6, s34_9, s34_10, x34_13, s34_15, x34_16, s34_19, s34_20, x34_23, s34_24, x34_25, s34_28, s34_29, x34_32, s34_34, x34_35, s34_38, s34_39, x34_42, s34_43, x34_44, x34_45, s34_46, s34_47, x34_50, s34_52, x34_53, x34_54, x34_55, x34_58, x34_59, x34_62, x34_63, fu, fv, gu, gv, u24, v24]
      exact q
    · have ru := (hP.2.2 u u0 u1).2 (mc_F9 hI u0 u1 gu)
      have rv := (hP.2.2 v v0 v1).2 (mc_F9 hI v0 v1 gv)
      have key := mc_k_F gu gv
      simp (disch := (first | assumption | omega | ((repeat (refine mr_FIX_up ?_ (by unfold mr_nst; omega))); assumption))) [x34, s34_0, s34_1, x34_4, s34_5, x34_6, s34_9, s34_10, x34_13, s34_15, x34_16, s34_19, s34_20, x34_23, s34_24, x34_25, s34_28, s34_29, x34_32, s34_34, x34_35, s34_38, s34_39, x34_42, s34_43, x34_44, x34_45, s34_46, s34_47, x34_50, s34_52, x34_53, x34_54, x34_55, x34_58, x34_59, x34_62, x34_63, fu, fv, gu, gv, ru, rv, lu, lv, u24, v24]
      exact ⟨fun z => q0 (fun w => z (key.1 w)), fun z => q1 (key.2 z)⟩
