/-! forward, value, entry -/
def mt_int (Q : Option ma_V → ma_S → ma_M → Prop) : Option ma_V → ma_S → ma_M → Prop := fun r sh M => ∃ x : Int, r = some (0, x) ∧ Q (some (0, x)) sh M
set_option maxHeartbeats 1000000 in
theorem mm_taylor {M : ma_M} (hI : mr_INV M) {i k : Int} (hi0 : 0 ≤ i) (hi : i < M 0 11) (k0 : 0 ≤ k) (k1 : k ≤ 8) {Q : Option ma_V → ma_S → ma_M → Prop} (cont : ∀ M2 : ma_M, (∀ c i, ¬ (90 ≤ c ∧ c ≤ 94) → M2 c i = M c i) → Q (some (0, mt_c (mt_V M (mt_L (M 50) (M 51))) (M 54 i) k)) mr_SH M2) : mr_do 96 [(2, 80), (0, i), (0, k)] mr_SH M Q := by
  have hF := hI.1
  have o3 : M 80 9 = M 0 11 := hI.2.1.2.2.2.2
  have c1 : ¬ i < 0 := by omega
  have c2 : ¬ M 0 11 ≤ i := by omega
  have c3 : ¬ k < 0 := by omega
  simp (disch := (first | assumption | omega | ((repeat (refine mr_FIX_up ?_ (by unfold mr_nst; omega))); assumption))) [x96, s96_0, x96_1, s96_2, x96_5, x96_8, x96_9, x96_12, x96_13, x96_15, x96_18, x96_20, s96_21, x96_22, x96_23, x96_24, s96_25, x76, x76_0, x76_1, x76_4, s76_5, s76_6, x76_9, x76_12, x76_13, x76_16, x76_17, o3, c1, c2, c3, k1]
  refine mr_do_mono (mm_dir hI hi0 hi k0 k1 (Q := mt_int Q) (fun M2 h => ⟨_, rfl, cont M2 h⟩)) ?_
  rintro _ _ M2 ⟨rfl, rfl, h⟩
  simp only [Option.toList_some, Option.toList_none, List.cons_append, List.nil_append]
  simp (disch := (first | assumption | omega | ((repeat (refine mr_FIX_up ?_ (by unfold mr_nst; omega))); assumption))) only [s96_28, x96_29, x96_30, s96_31]
  refine mr_do_mono h ?_
  rintro _ sh M3 ⟨x, rfl, hx⟩
  simp only [Option.toList_some, Option.toList_none, List.cons_append, List.nil_append]
  simp (disch := (first | assumption | omega | ((repeat (refine mr_FIX_up ?_ (by unfold mr_nst; omega))); assumption))) only [x96_34]
  exact hx
set_option maxHeartbeats 2000000 in
theorem mp_forward : mr_p1 49 95 := by
  intro M i hI ha
  obtain ⟨hF, ⟨⟨n1, n2, n3⟩, ⟨i1, i2, i3⟩, ⟨o1, o2, o3⟩⟩, -⟩ := id hI
  unfold mr_pair
  by_cases c1 : i < 0
  · exact ⟨-3, by simp (disch := (first | assumption | omega | ((repeat (refine mr_FIX_up ?_ (by unfold mr_nst; omega))); assumption))) [x49, s49_0, x49_1, s49_2, x49_5, s49_8, x49_9, s49_10, s49_11, x49_14, s49_15, x49_18, x49_21, x49_23, x61, x61_0, x61_1, x61_4, s61_5, s61_6, x61_9, x61_12, x61_13, x61_16, x61_17, x95, s95_0, x95_1, x95_2, s95_3, x95_6, x96, s96_0, x96_1, s96_2, x96_5, x96_8, x96_9, x96_12, x96_13, x96_15, x96_18, x96_20, s96_21, x96_22, x96_23, x96_24, s96_25, s96_28, x96_29, x96_30, s96_31, x96_34, x76, x76_0, x76_1, x76_4, s76_5, s76_6, x76_9, x76_12, x76_13, x76_16, x76_17, o3, c1, hI]⟩
  · by_cases c2 : M 0 11 ≤ i
    · have c2b : ¬ i < M 0 11 := by omega
      exact ⟨-3, by simp (disch := (first | assumption | omega | ((repeat (refine mr_FIX_up ?_ (by unfold mr_nst; omega))); assumption))) [x49, s49_0, x49_1, s49_2, x49_5, s49_8, x49_9, s49_10, s49_11, x49_14, s49_15, x49_18, x49_21, x49_23, x61, x61_0, x61_1, x61_4, s61_5, s61_6, x61_9, x61_12, x61_13, x61_16, x61_17, x95, s95_0, x95_1, x95_2, s95_3, x95_6, x96, s96_0, x96_1, s96_2, x96_5, x96_8, x96_9, x96_12, x96_13, x96_15, x96_18, x96_20, s96_21, x96_22, x96_23, x96_24, s96_25, s96_28, x96_29, x96_30, s96_31, x96_34, x76, x76_0, x76_1, x76_4, s76_5, s76_6, x76_9, x76_12, x76_13, x76_16, x76_17, o3, c1, c2, c2b, hI]⟩
    · have c2b : i < M 0 11 := by omega
      refine ⟨mt_c (mt_V M (mt_L (M 50) (M 51))) (M 54 i) 1, ?_⟩
      simp (disch := (first | assumption | omega | ((repeat (refine mr_FIX_up ?_ (by unfold mr_nst; omega))); assumption))) [x49, s49_0, x49_1, s49_2, x49_5, s49_8, x49_9, s49_10, s49_11, x49_14, s49_15, x61, x61_0, x61_1, x61_4, s61_5, s61_6, x61_9, x61_12, x61_13, x61_16, x61_17, c1, c2]
      refine mx_coef hI ⟨by decide, ml_51⟩ (by decide) (mr_pt1 hI 51 (by omega)) (by omega) c2b (by decide) (by decide) (fun M1 hf1 hag1 => ?_)
      have hI1 := mx_fr_I hI hf1
      have e0 : M1 0 11 = M 0 11 := hf1.1 0 11 (by decide)
      have e54 : M1 54 i = M 54 i := hf1.1 54 i (by decide)
      simp only [Option.toList_some, Option.toList_none, List.cons_append, List.nil_append]
      simp (disch := (first | assumption | omega | ((repeat (refine mr_FIX_up ?_ (by unfold mr_nst; omega))); assumption))) only [x49_18, x49_21, x49_23]
      refine ⟨trivial, trivial, fun x => hf1.1 (-2) x (by decide), ?_⟩
      simp (disch := (first | assumption | omega | ((repeat (refine mr_FIX_up ?_ (by unfold mr_nst; omega))); assumption))) [x95, s95_0, x95_1, x95_2, s95_3]
      refine mm_taylor hI1 (by omega) (by omega) (by decide) (by decide) (fun M2 hf2 => ?_)
      simp only [Option.toList_some, Option.toList_none, List.cons_append, List.nil_append]
      simp (disch := (first | assumption | omega | ((repeat (refine mr_FIX_up ?_ (by unfold mr_nst; omega))); assumption))) only [x95_6]
      rw [mr_V1 hf1.1, e54]
      exact ⟨rfl, trivial, fun x => (hf2 (-2) x (by decide)).trans (hf1.1 (-2) x (by decide)), mr_k90 hI1 hf2⟩
set_option maxHeartbeats 2000000 in
theorem mp_value : mr_p1 48 94 := by
  intro M v hI ha
  obtain ⟨hF, ⟨⟨n1, n2, n3⟩, ⟨i1, i2, i3⟩, ⟨o1, o2, o3⟩⟩, -⟩ := id hI
  unfold mr_pair
  by_cases c1 : v < 0
  · exact ⟨-3, by simp (disch := (first | assumption | omega | ((repeat (refine mr_FIX_up ?_ (by unfold mr_nst; omega))); assumption))) [x48, s48_0, s48_1, x48_4, s48_5, x48_8, x48_11, x48_13, s48_14, s48_15, s48_18, s48_19, s48_22, s48_23, s48_26, s48_27, x48_30, s48_31, s48_34, s48_35, s48_38, x48_41, s48_42, x48_43, x48_44, x48_47, x48_48, s48_51, s48_52, s48_55, x48_58, s48_59, x48_60, x48_61, x48_62, x5, x5_0, x5_1, x5_4, s5_5, s5_6, x5_9, x5_12, x5_13, x5_16, x5_17, x94, s94_0, x94_1, s94_2, x94_5, x94_8, x94_10, s94_11, x94_12, x94_13, x94_14, s94_15, s94_18, s94_19, s94_22, s94_23, x94_26, s94_27, x94_28, x94_31, x94_32, s94_35, s94_36, x94_39, x94_41, x94_42, s94_43, x94_44, x94_45, x74, x74_0, x74_1, x74_4, s74_5, s74_6, x74_9, x74_12, x74_13, x74_16, x74_17, n3, c1, hI]⟩
  · by_cases c2 : M 1 0 ≤ v
    · have c2b : ¬ v < M 1 0 := by omega
      exact ⟨-3, by simp (disch := (first | assumption | omega | ((repeat (refine mr_FIX_up ?_ (by unfold mr_nst; omega))); assumption))) [x48, s48_0, s48_1, x48_4, s48_5, x48_8, x48_11, x48_13, s48_14, s48_15, s48_18, s48_19, s48_22, s48_23, s48_26, s48_27, x48_30, s48_31, s48_34, s48_35, s48_38, x48_41, s48_42, x48_43, x48_44, x48_47, x48_48, s48_51, s48_52, s48_55, x48_58, s48_59, x48_60, x48_61, x48_62, x5, x5_0, x5_1, x5_4, s5_5, s5_6, x5_9, x5_12, x5_13, x5_16, x5_17, x94, s94_0, x94_1, s94_2, x94_5, x94_8, x94_10, s94_11, x94_12, x94_13, x94_14, s94_15, s94_18, s94_19, s94_22, s94_23, x94_26, s94_27, x94_28, x94_31, x94_32, s94_35, s94_36, x94_39, x94_41, x94_42, s94_43, x94_44, x94_45, x74, x74_0, x74_1, x74_4, s74_5, s74_6, x74_9, x74_12, x74_13, x74_16, x74_17, n3, c1, c2, c2b, hI]⟩
    · have c2b : v < M 1 0 := by omega
      have v0 : 0 ≤ v := by omega
      have v24 : 0 ≤ v ∧ v < 24 := by omega
      have bV := mt_V_b hI (mt_L_b (mr_pt1 hI 50 (by omega)) (mr_pt1 hI 51 (by omega))) (v.toNat + 1) v (by omega) v0 c2b
      have b0 := bV.1 0 (by decide) (by decide)
      have lr := ml_rows v0 v24.2
      have v216 : 0 ≤ 9 * v ∧ 9 * v < 216 := by omega
      refine ⟨if mt_V M (mt_L (M 50) (M 51)) v 9 = 1 then -1 else mt_V M (mt_L (M 50) (M 51)) v 0, ?_⟩
      simp (disch := (first | assumption | omega | ((repeat (refine mr_FIX_up ?_ (by unfold mr_nst; omega))); assumption))) [x48, s48_0, s48_1, x48_4, s48_5, x48_8, x48_11, x48_13, s48_14, s48_15, s48_18, s48_19, s48_22, s48_23, s48_26, s48_27, x48_30, s48_31, x5, x5_0, x5_1, x5_4, s5_5, s5_6, x5_9, x5_12, x5_13, x5_16, x5_17, c1, c2]
      refine mx_run hI ⟨by decide, ml_50⟩ ⟨by decide, ml_51⟩ (by decide) (by decide) (by decide) (by decide) (mr_pt1 hI 50 (by omega)) (mr_pt1 hI 51 (by omega)) (fun M1 hf1 hag1 => ?_)
      have hI1 := mx_fr_I hI hf1
      have hF1 := hI1.1
      have g := hag1 v v0 c2b
      unfold mx_ag mx_st at g
      have e80 : M1 80 0 = M 1 0 := (hf1.1 80 0 (by decide)).trans n3
      have e11 : M1 1 1 = M 1 1 := hf1.1 1 1 (by decide)
      have e10 : M1 1 0 = M 1 0 := hf1.1 1 0 (by decide)
      have fin : mr_do 94 [(2, 80), (0, v)] mr_SH M1 (fun r2 sh2 M2 => r2 = some (0, if mt_V M (mt_L (M 50) (M 51)) v 9 = 1 then -1 else mt_V M (mt_L (M 50) (M 51)) v 0) ∧ sh2 = mr_SH ∧ (∀ (i : Int), M2 (-2) i = M (-2) i) ∧ mr_INV M2) := by
        simp (disch := (first | assumption | omega | ((repeat (refine mr_FIX_up ?_ (by unfold mr_nst; omega))); assumption))) [x94, s94_0, x94_1, s94_2, x94_5, x94_8, x94_10, s94_11, x94_12, x94_13, x94_14, s94_15, x74, x74_0, x74_1, x74_4, s74_5, s74_6, x74_9, x74_12, x74_13, x74_16, x74_17, e80, c1, c2]
        refine mm_aim hI1 (D := M1 51) (Or.inr rfl) (fun u _ _ => (if_pos rfl).symm) (fun M2 hf2 hL2 => ?_)
        have hI2 := mm_kept hI1 hf2
        have hF2 := hI2.1
        have e11' : M2 1 1 = M1 1 1 := hf2 1 1 (by decide)
        simp only [Option.toList_some, Option.toList_none, List.cons_append, List.nil_append]
        simp (disch := (first | assumption | omega | ((repeat (refine mr_FIX_up ?_ (by unfold mr_nst; omega))); assumption))) only [s94_18, s94_19]
        refine mm_sweep hI2 (L := mt_L (M1 50) (M1 51)) (mt_L_b (by rw [e11']; exact mr_pt1 hI1 50 (by omega)) (by rw [e11']; exact mr_pt1 hI1 51 (by omega))) (fun j n j0 j1 => hL2 j n j0 (by omega)) (fun M3 hf3 hag3 => ?_)
        have hF3 := mm_fs_F hF2 hf3
        have g3 := hag3 v v0 (by rw [hf2 1 0 (by decide)]; omega)
        have eV : mt_V M2 (mt_L (M1 50) (M1 51)) = mt_V M (mt_L (M 50) (M 51)) := (mt_V_M (fun c i hc => hf2 c i (by omega)) _).trans (mr_V1 hf1.1)
        rw [eV] at g3
        have g30 := g3.1 0 (by decide) (by decide)
        rw [Int.add_zero] at g30
        have hI3 := mm_fs_I hI2 hf3
        have k2 : ∀ x, M3 (-2) x = M (-2) x := fun x => (hf3 (-2) x (by decide) (by decide) (by decide) (by decide)).trans ((hf2 (-2) x (by decide)).trans (hf1.1 (-2) x (by decide)))
        simp only [Option.toList_some, Option.toList_none, List.cons_append, List.nil_append]
        rcases bV.2.1 with h9 | h9
        · rw [if_neg (by rw [h9]; decide)]
          simp (disch := (first | assumption | omega | ((repeat (refine mr_FIX_up ?_ (by unfold mr_nst; omega))); assumption))) [s94_22, s94_23, x94_26, s94_27, x94_28, x94_31, x94_32, s94_35, s94_36, x94_39, x94_41, x94_42, s94_43, x94_44, x94_45, g3.2.1, h9, ma_32i, g30]
          exact ⟨v24, v216, k2, hI3⟩
        · rw [if_pos h9]
          simp (disch := (first | assumption | omega | ((repeat (refine mr_FIX_up ?_ (by unfold mr_nst; omega))); assumption))) [s94_22, s94_23, x94_26, s94_27, x94_28, x94_31, x94_32, s94_35, s94_36, x94_39, x94_41, x94_42, s94_43, x94_44, x94_45, g3.2.1, h9]
          exact ⟨v24, k2, hI3⟩
      simp only [Option.toList_some, Option.toList_none, List.cons_append, List.nil_append]
      rcases bV.2.1 with h9 | h9
      · rw [if_neg (by rw [h9]; decide)] at fin g ⊢
        have ns : ¬ (if mt_V M (mt_L (M 50) (M 51)) v 10 = 1 then (-2 : Int) else 0) = -1 := by split <;> decide
        simp (disch := (first | assumption | omega | ((repeat (refine mr_FIX_up ?_ (by unfold mr_nst; omega))); assumption))) [s48_34, s48_35, s48_38, x48_41, s48_42, x48_43, x48_44, x48_47, x48_48, s48_51, s48_52, s48_55, x48_58, s48_59, x48_60, x48_61, x48_62, g.1, ns, (g.2 h9).2.1, lr]
        exact ⟨v24, fun x => hf1.1 (-2) x (by decide), fin⟩
      · rw [if_pos h9] at fin g ⊢
        simp (disch := (first | assumption | omega | ((repeat (refine mr_FIX_up ?_ (by unfold mr_nst; omega))); assumption))) [s48_34, s48_35, s48_38, x48_41, s48_42, x48_43, x48_44, x48_47, x48_48, s48_51, s48_52, s48_55, x48_58, s48_59, x48_60, x48_61, x48_62, g.1]
        exact ⟨v24, fun x => hf1.1 (-2) x (by decide), fin⟩
