theorem mw_W_cg {M : ma_M} {V V' : Int → Int → Int} {f t n : Int} (h : ∀ i, 0 ≤ i → i < n → mx_st V (M 54 i) = mx_st V' (M 54 i)) (hW : mw_W M V f t n) : mw_W M V' f t n := by
  have e : ∀ t, mw_E M V f t n ↔ mw_E M V' f t n := fun t => ⟨fun ⟨i, a, b, c, d⟩ => ⟨i, a, b, c, (h i a b) ▸ d⟩, fun ⟨i, a, b, c, d⟩ => ⟨i, a, b, c, (h i a b).trans d⟩⟩
  unfold mw_W at hW ⊢
  rw [← e, ← e]
  exact hW
/-- the states do not depend on the direction -/
theorem mx_st_cg {M : ma_M} (hI : mr_INV M) {p d d' : Int → Int} {u : Int} (u0 : 0 ≤ u) (u1 : u < M 1 0) : mx_st (mt_V M (mt_L p d)) u = mx_st (mt_V M (mt_L p d')) u ∧ mt_V M (mt_L p d) u 0 = mt_V M (mt_L p d') u 0 ∧ mt_V M (mt_L p d) u 9 = mt_V M (mt_L p d') u 9 ∧ mt_V M (mt_L p d) u 10 = mt_V M (mt_L p d') u 10 := by
  obtain ⟨a, b, c⟩ := mt_V_cg hI (m := 0) (L := mt_L p d) (L' := mt_L p d') (by decide) (by decide) (fun j n _ _ n0 n1 => by obtain rfl := Int.le_antisymm n1 n0; rfl) (u.toNat + 1) u (by omega) u0 u1
  refine ⟨?_, a 0 (by decide) (by decide), b, c⟩
  unfold mx_st
  rw [b, c]
theorem mt_e1 {j l : Int} (l0 : 0 ≤ l) : mt_e j (-1) l = if l = j then 1 else 0 := by
  unfold mt_e
  rw [if_neg (show ¬ l = -1 by omega), Int.add_zero]
set_option maxHeartbeats 2000000 in
theorem mp_reverse : mr_p1 50 98 := by
  intro M j hI ha
  obtain ⟨hF, ⟨⟨n1, n2, n3⟩, ⟨i1, i2, i3⟩, ⟨o1, o2, o3⟩⟩, -⟩ := id hI
  unfold mr_pair
  by_cases c1 : j < 0
  · exact ⟨-3, by simp (disch := (first | assumption | omega | ((repeat (refine mr_FIX_up ?_ (by unfold mr_nst; omega))); assumption))) [x50, s50_0, s50_1, x50_4, s50_5, x50_8, x50_11, x50_13, s50_14, s50_15, s50_18, s50_19, s50_23, s50_26, s50_27, x50_30, s50_31, s50_34, x50_35, s50_36, x50_39, x50_40, x50_41, x50_44, x50_45, s50_46, s50_47, s50_48, s50_51, s50_54, s50_55, s50_58, s50_61, s50_62, s50_65, x50_68, s50_69, s50_70, x50_71, x6, x6_0, x6_1, x6_4, s6_5, s6_6, x6_9, x6_12, x6_13, x6_16, x6_17, x98, s98_0, x98_1, s98_2, x98_5, x98_8, x98_10, x98_11, x98_12, x98_13, x98_14, x98_16, x98_17, x98_19, x98_20, s98_24, s98_25, x98_28, s98_31, s98_32, x98_35, s98_37, x98_38, x98_39, x98_40, x98_43, x98_44, s98_47, x98_48, x98_50, s98_51, x98_54, x98_56, x98_58, x98_61, x98_63, x98_64, x98_67, x98_68, x98_71, x98_72, x98_74, x98_76, x98_79, x98_81, x98_83, x98_86, x98_87, x98_90, x98_91, x98_93, x98_95, x98_98, x98_99, x98_102, s98_103, s98_104, x98_107, s98_109, x98_110, x98_112, x98_113, x98_114, x98_115, x98_118, x98_119, x98_120, x98_123, x98_126, x98_128, x98_131, x98_132, x98_135, x98_137, x98_140, x98_142, x98_145, x98_146, x98_147, x75, x75_0, x75_1, x75_4, s75_5, s75_6, x75_9, x75_12, x75_13, x75_16, x75_17, i3, c1, hI]⟩
  by_cases c2 : M 1 1 ≤ j
  · have c2b : ¬ j < M 1 1 := by omega
    exact ⟨-3, by simp (disch := (first | assumption | omega | ((repeat (refine mr_FIX_up ?_ (by unfold mr_nst; omega))); assumption))) [x50, s50_0, s50_1, x50_4, s50_5, x50_8, x50_11, x50_13, s50_14, s50_15, s50_18, s50_19, s50_22, s50_23, s50_26, s50_27, x50_30, s50_31, s50_34, x50_35, s50_36, x50_39, x50_40, x50_41, x50_44, x50_45, s50_46, s50_47, s50_48, s50_51, s50_54, s50_55, s50_58, s50_61, s50_62, s50_65, x50_68, s50_69, s50_70, x50_71, x6, x6_0, x6_1, x6_4, s6_5, s6_6, x6_9, x6_12, x6_13, x6_16, x6_17, x98, s98_0, x98_1, s98_2, x98_5, x98_8, x98_10, x98_11, x98_12, x98_13, x98_14, x98_16, x98_17, x98_19, x98_20, s98_24, s98_25, x98_28, s98_31, s98_32, x98_35, s98_37, x98_38, x98_39, x98_40, x98_43, x98_44, s98_47, x98_48, x98_50, s98_51, x98_54, x98_56, x98_58, x98_61, x98_63, x98_64, x98_67, x98_68, x98_71, x98_72, x98_74, x98_76, x98_79, x98_81, x98_83, x98_86, x98_87, x98_90, x98_91, x98_93, x98_95, x98_98, x98_99, x98_102, s98_103, s98_104, x98_107, s98_109, x98_110, x98_112, x98_113, x98_114, x98_115, x98_118, x98_119, x98_120, x98_123, x98_126, x98_128, x98_131, x98_132, x98_135, x98_137, x98_140, x98_142, x98_145, x98_146, x98_147, x75, x75_0, x75_1, x75_4, s75_5, s75_6, x75_9, x75_12, x75_13, x75_16, x75_17, i3, c1, c2, c2b, hI]⟩
  have c2b : j < M 1 1 := by omega
  have j0 : 0 ≤ j := by omega
  have hout : ∀ i, 0 ≤ i → i < M 0 11 → 0 ≤ M 54 i ∧ M 54 i < M 1 0 := fun i x y => (hI.2.2.2.2.2.2.1 i x y).2
  have hn7 := hI.2.2.2.2.1 j j0 c2b
  have hL : mt_Lb M (mt_L (M 50) (M 51)) := mt_L_b (mr_pt1 hI 50 (by omega)) (mr_pt1 hI 51 (by omega))
  have j5 : 0 ≤ j ∧ j < 5 := by omega
  have v24 : 0 ≤ M 7 j ∧ M 7 j < 24 := by omega
  -- the reference
  have ref : ∀ M1 : ma_M, mr_INV M1 → (∀ c k, ¬ (10 ≤ c ∧ c ≤ 36) → M1 c k = M c k) → ∀ t r : Int, mw_W M (mt_V M (mt_L (M 50) (M 51))) 1 t (M 0 11) → (t ≠ 0 → r = t) → (t = 0 → r = ms_s (fun i => M 55 i * mt_V M (mt_L (M 50) (mt_e j (-1))) (M 54 i) 1) (M 0 11).toNat % 65521) → mr_do 98 [(2, 80), (0, j)] mr_SH M1 (fun r2 sh2 M2 => r2 = some (0, r) ∧ sh2 = mr_SH ∧ (∀ x, M2 (-2) x = M (-2) x) ∧ mr_INV M2) := by
    intro M1 hI1 hf1 t r hW r1 r2
    have hF1 := hI1.1
    have e5 : M1 80 5 = M 1 1 := (hf1 80 5 (by decide)).trans i3
    have e11 : M1 1 1 = M 1 1 := hf1 1 1 (by decide)
    have e011 : M1 0 11 = M 0 11 := hf1 0 11 (by decide)
    have e50 : M1 50 = M 50 := funext (fun x => hf1 50 x (by decide))
    have e54 : M1 54 = M 54 := funext (fun x => hf1 54 x (by decide))
    have e55 : M1 55 = M 55 := funext (fun x => hf1 55 x (by decide))
    have eV : mt_V M1 (mt_L (M1 50) (mt_e j (-1))) = mt_V M (mt_L (M 50) (mt_e j (-1))) := by rw [e50]; exact mt_V_M (fun c x hc => hf1 c x (by omega)) _
    simp (disch := (first | assumption | omega | ((repeat (refine mr_FIX_up ?_ (by unfold mr_nst; omega))); assumption))) [x98, s98_0, x98_1, s98_2, x98_5, x98_8, x98_10, x98_11, x98_12, x98_13, x98_14, x98_16, x98_17, x98_19, x98_20, x75, x75_0, x75_1, x75_4, s75_5, s75_6, x75_9, x75_12, x75_13, x75_16, x75_17, e5, c1, c2]
    refine mm_revl hI1 j0 (by omega) (V := mt_V M (mt_L (M 50) (mt_e j (-1)))) eV.symm (fun M2 t2 hf2 hW2 => ?_) 6 0 0 0 0 _ _ M1 (by omega) (by omega) (by omega) (fun _ _ _ => rfl) (by decide) (by decide) (Or.inr ⟨rfl, fun ⟨i, a, b, _⟩ => by omega⟩) (Or.inr ⟨rfl, fun ⟨i, a, b, _⟩ => by omega⟩) (fun _ _ => rfl)
    have hW3 : mw_W M (mt_V M (mt_L (M 50) (mt_e j (-1)))) 1 t2 (M 0 11) := by
      unfold mw_W mw_E at hW2 ⊢
      rw [e011, e54, e55] at hW2
      exact hW2
    have et : t2 = t := mw_W_u hW3 (mw_W_cg (fun i a b => (mx_st_cg hI (hout i a b).1 (hout i a b).2).1) hW)
    have fin : mr_SH = mr_SH ∧ (∀ x, M2 (-2) x = M (-2) x) ∧ mr_INV M2 := ⟨rfl, fun x => (hf2 (-2) x (by decide)).trans (hf1 (-2) x (by decide)), mr_k90 hI1 hf2⟩
    rw [e011, e54, e55]
    refine ⟨fun z => ⟨?_, fin⟩, fun z => ⟨?_, fin⟩⟩
    · rw [et] at z ⊢
      rw [r1 z]
    · rw [et] at z
      rw [r2 z]
  -- the program
  have cls : mr_do 50 [(2, 0), (0, j)] mr_SH M (fun r1 sh1 M1 => ∃ t r : Int, r1 = some (0, r) ∧ sh1 = mr_SH ∧ mr_INV M1 ∧ (∀ c k, ¬ (10 ≤ c ∧ c ≤ 36) → M1 c k = M c k) ∧ mw_W M (mt_V M (mt_L (M 50) (M 51))) 1 t (M 0 11) ∧ (t ≠ 0 → r = t) ∧ (t = 0 → r = ms_s (fun i => M 55 i * mt_V M (mt_L (M 50) (mt_e j (-1))) (M 54 i) 1) (M 0 11).toNat % 65521)) := by
    simp (disch := (first | assumption | omega | ((repeat (refine mr_FIX_up ?_ (by unfold mr_nst; omega))); assumption))) [x50, s50_0, s50_1, x50_4, s50_5, x50_8, x50_11, x50_13, s50_14, s50_15, s50_18, s50_19, s50_22, s50_23, s50_26, s50_27, x50_30, s50_31, x6, x6_0, x6_1, x6_4, s6_5, s6_6, x6_9, x6_12, x6_13, x6_16, x6_17, c1, c2]
    refine mx_run hI ⟨by decide, ml_50⟩ ⟨by decide, ml_51⟩ (by decide) (by decide) (by decide) (by decide) (mr_pt1 hI 50 (by omega)) (mr_pt1 hI 51 (by omega)) (fun M1 hf1 hag1 => ?_)
    have hI1 := mx_fr_I hI hf1
    have hF1 := hI1.1
    simp only [Option.toList_some, Option.toList_none, List.cons_append, List.nil_append]
    simp (disch := (first | assumption | omega | ((repeat (refine mr_FIX_up ?_ (by unfold mr_nst; omega))); assumption))) only [s50_34, x50_35, s50_36]
    refine mx_worst (M := M) (V := mt_V M (mt_L (M 50) (M 51))) hF1 o1 o2 n2 hout (hf1.1 0 11 (by decide)) (fun i => hf1.1 54 i (by decide)) (fun i => hf1.1 55 i (by decide)) (fun u u0 u1 => (hag1 u u0 u1).1) (Or.inr rfl) (fun t hW => ?_)
    simp only [Option.toList_some, Option.toList_none, List.cons_append, List.nil_append]
    simp (disch := (first | assumption | omega | ((repeat (refine mr_FIX_up ?_ (by unfold mr_nst; omega))); assumption))) only [x50_39, x50_40, x50_41]
    refine ⟨fun z => ?_, fun z => ?_⟩
    · subst z
      simp (disch := (first | assumption | omega | ((repeat (refine mr_FIX_up ?_ (by unfold mr_nst; omega))); assumption))) only [s50_46, s50_47, s50_48, s50_51]
      have sm : ∀ i, 0 ≤ i → i < M 0 11 → M 55 i ≠ 0 → mt_V M (mt_L (M 50) (M 51)) (M 54 i) 9 = 0 ∧ mt_V M (mt_L (M 50) (M 51)) (M 54 i) 10 = 0 := fun i a b c => by
        have bV := mt_V_b hI hL 25 (M 54 i) (by have := hout i a b; omega) (hout i a b).1 (hout i a b).2
        exact mx_st0 (mw_W_sm hW i a b (Or.inr c)) bV.2.1 bV.2.2
      refine mx_handBack hI hL hF1 (fun c k hc => hf1.1 c k (by omega)) (fun u u0 u1 h9 => ((hag1 u u0 u1).2 h9).2.1) (r := 55) ⟨by decide, ml_55⟩ (by decide) (fun i a b => ?_) (fun S2 hf2 hok hPhi => ?_)
      · rw [hf1.1 55 i (by decide)]
        exact ⟨mr_pt hI 55 (by omega) i a (by omega), sm i a b⟩
      · have hF2 : mr_FIX S2 := md_fr hF1 (p := fun c => c = 36) (fun c k hc => hf2 c k hc) (fun c hc => by omega)
        have e7 : S2 7 j = M 7 j := (hf2 7 j (by decide)).trans (hf1.1 7 j (by decide))
        have hI2 : mr_INV S2 := mr_keep95 hI1 (p := fun c => c = 36) (fun c k hc => hf2 c k hc) (fun c hc => ⟨by unfold mr_scr; omega, by omega⟩)
        simp only [Option.toList_some, Option.toList_none, List.cons_append, List.nil_append]
        simp (disch := (first | assumption | omega | ((repeat (refine mr_FIX_up ?_ (by unfold mr_nst; omega))); assumption))) only [s50_54, s50_55, s50_58, s50_61, s50_62, s50_65, x50_68, s50_69, s50_70, x50_71, e7]
        refine ⟨j5, v24, 0, S2 36 (M 7 j), rfl, trivial, hI2, fun c k hc => (hf2 c k (by omega)).trans (hf1.1 c k (by omega)), hW, fun z => absurd rfl z, fun _ => ?_⟩
        have bs := (hok (M 7 j) hn7.1 hn7.2.1).1
        refine mq_inj bs.1 bs.2 (by omega) (by omega) ?_
        have key := hPhi _ (mb_der_V hI (p := M 50) (d := mt_e j (-1)) (d' := M 51) (mr_pt1 hI 50 (by omega)) (fun u _ _ => mt_e_b _ _ u))
        rw [mb_fin hI, mf_congr (g := fun l => if l = j then mq (S2 36 (M 7 j)) else 0) _ (fun l l0 l1 => ?_), mf_single j0 (by omega)] at key
        · rw [key, mq_mod, mq_s]
          refine mf_congr _ (fun i a b => ?_)
          rw [mq_mul, hf1.1 55 i (by decide)]
        · rw [mt_e1 l0]
          by_cases e : l = j
          · rw [if_pos e, if_pos e, e, mq_1]; grind
          · rw [if_neg e, if_neg e, mq_0]; grind
    · simp (disch := (first | assumption | omega | ((repeat (refine mr_FIX_up ?_ (by unfold mr_nst; omega))); assumption))) only [x50_44, x50_45]
      exact ⟨t, t, rfl, trivial, hI1, fun c k hc => hf1.1 c k (by omega), hW, fun _ => rfl, fun w => absurd w z⟩
  obtain ⟨r1, sh1, M1, hrun, t, r, rfl, rfl, hI1, hf1, hW, q1, q2⟩ := cls
  exact ⟨r, some (0, r), mr_SH, M1, hrun, rfl, rfl, fun x => hf1 (-2) x (by decide), ref M1 hI1 hf1 t r hW q1 q2⟩
