/-! size: the program's answer -/
set_option maxHeartbeats 1000000 in
theorem mc_count {M B : ma_M} (hI : mr_INV M) {L : Int → Int → Int} (hL : mt_Lb M L) (hP : mc_pre M B (mt_V M L)) (e54 : ∀ i, B 54 i = M 54 i) {Q : Option ma_V → ma_S → ma_M → Prop} (cont : ∀ S : ma_M, (∀ c x, ¬ (38 ≤ c ∧ c ≤ 41) → S c x = B c x) → Q (some (0, mc_n M (mt_V M L))) mr_SH S) : mr_do 31 [(2, 37), (2, 1), (2, 8), (2, 54), (0, M 0 11)] mr_SH B Q := by
  have hN := hI.2.1.1.2.1
  have hN0 := hI.2.1.1.1
  have hO0 := hI.2.1.2.2.1
  have hO := hI.2.1.2.2.2.1
  simp (disch := (first | assumption | omega | ((repeat (refine mr_FIX_up ?_ (by unfold mr_nst; omega))); assumption))) only [x31, x31_0, x31_1]
  refine mc_cnt1 hI hL hP (fun S1 hf1 hv1 => ?_) 25 0 B (by omega) (by decide) hN0 (fun _ _ _ => rfl) (fun u a b => by omega)
  have hP1 := mc_pre_k hP hN hf1
  simp (disch := (first | assumption | omega | ((repeat (refine mr_FIX_up ?_ (by unfold mr_nst; omega))); assumption))) only [x31_64, x31_65]
  refine mc_cnt2 hI hP1.1 (fun i => (hf1 54 i (by decide)).trans (e54 i)) (fun w a b => (hv1 w a b).2.2.1) (fun S2 hf2 hv2 => ?_) 6 0 S1 (by omega) (by omega) (fun _ _ _ => rfl) (fun w a b => (hv1 w a b).2.2.1)
  have hP2 := mc_pre_k hP1 hN (S := S2) (fun c x hc => hf2 c x (by omega))
  have hF2 := hP2.1
  have e10 : S2 1 0 = M 1 0 := hP2.2.1 1 0 (by decide) (by decide)
  simp (disch := (first | assumption | omega | ((repeat (refine mr_FIX_up ?_ (by unfold mr_nst; omega))); assumption))) only [x31_90, x31_91, s31_93, s31_94, x31_97, x31_98, x31_99, e10, ma_32i]
  have z0 : ms_s (mc_cd (M 1 0) (mc_l M (mt_V M L)) (mc_m M (mt_V M L)) 0) (M 1 0).toNat = 0 := mc_s0 _ _ (fun c _ _ => rfl)
  have nx := mc_cnt3 hI (V := mt_V M L) hP2.1 hP2.2.1 (fun u a b => (hf2 38 u (by decide)).trans (hv1 u a b).1) (fun u a b => (hf2 41 u (by decide)).trans (hv1 u a b).2.1) (O := M 0 11) (Q := Q) (fun S3 hf3 => cont S3 (fun c x hc => (hf3 c x (by omega) (by omega)).trans ((hf2 c x (by omega)).trans (hf1 c x hc)))) 25 0 0 S2 (by omega) (by omega) (fun _ _ _ _ => rfl) (fun w a b => hv2 w a b) (fun c a b => (hf2 40 c (by decide)).trans (hv1 c a b).2.2.2) z0.symm (by decide) (by decide)
  rw [show M 1 0 - 1 - ((0 : Nat) : Int) = M 1 0 - 1 by omega] at nx
  exact nx
theorem mc_size {M : ma_M} (hI : mr_INV M) : mr_do 57 [(2, 0)] mr_SH M (fun r1 sh1 M1 => r1 = some (0, mc_n M (mt_V M (mt_L (M 50) (M 51)))) ∧ sh1 = mr_SH ∧ mr_INV M1 ∧ ∀ c k, ¬ (10 ≤ c ∧ c ≤ 41) → M1 c k = M c k) := by
  have hF := hI.1
  have hN := hI.2.1.1.2.1
  have hL : mt_Lb M (mt_L (M 50) (M 51)) := mt_L_b (mr_pt1 hI 50 (by omega)) (mr_pt1 hI 51 (by omega))
  simp (disch := (first | assumption | omega | ((repeat (refine mr_FIX_up ?_ (by unfold mr_nst; omega))); assumption))) only [x57, s57_0, s57_1, s57_4, s57_5, s57_8, s57_9, s57_12, s57_13, x57_16, s57_17]
  refine mx_run hI ⟨by decide, ml_50⟩ ⟨by decide, ml_51⟩ (by decide) (by decide) (by decide) (by decide) (mr_pt1 hI 50 (by omega)) (mr_pt1 hI 51 (by omega)) (fun M1 hf1 hag1 => ?_)
  have hI1 := mx_fr_I hI hf1
  have hF1 := hI1.1
  have e11 : M1 0 11 = M 0 11 := hf1.1 0 11 (by decide)
  simp only [Option.toList_some, Option.toList_none, List.cons_append, List.nil_append]
  simp (disch := (first | assumption | omega | ((repeat (refine mr_FIX_up ?_ (by unfold mr_nst; omega))); assumption))) only [s57_20, s57_21, s57_24, s57_25, s57_28, s57_29, s57_32, s57_33, s57_36, s57_37, s57_40, e11]
  refine mc_count hI hL ⟨hF1, fun c k a b => hf1.1 c k (by omega), fun u u0 u1 => ⟨(hag1 u u0 u1).1, fun z => ((hag1 u u0 u1).2 z).2.1⟩⟩ (fun i => hf1.1 54 i (by decide)) (fun S hf => ?_)
  simp only [Option.toList_some, Option.toList_none, List.cons_append, List.nil_append]
  simp (disch := (first | assumption | omega | ((repeat (refine mr_FIX_up ?_ (by unfold mr_nst; omega))); assumption))) only [x57_43]
  exact ⟨trivial, trivial, mr_keep95 hI1 (p := fun c => 38 ≤ c ∧ c ≤ 41) (fun c k hc => hf c k hc) (fun c hc => ⟨by unfold mr_scr; omega, by omega⟩), fun c k hc => (hf c k (by omega)).trans (hf1.1 c k (by omega))⟩
/-! size: the reference -/
def mc_rp (M S : ma_M) (V : Int → Int → Int) : Prop := mr_FIX S ∧ (∀ c k, 80 ≤ c → c ≤ 89 → S c k = M c k) ∧ ∀ u, 0 ≤ u → u < M 1 0 → S 91 (9 * u) = V u 0 ∧ S 93 u = V u 9
theorem mc_rp_k {M B S : ma_M} {V : Int → Int → Int} (hR : mc_rp M B V) (h : ∀ c x, ¬ (95 ≤ c ∧ c ≤ 98) → S c x = B c x) : mc_rp M S V := by
  refine ⟨md_fr hR.1 (p := fun c => 95 ≤ c ∧ c ≤ 98) (fun c x hc => h c x hc) (fun c hc => by omega), fun c k a b => (h c k (by omega)).trans (hR.2.1 c k a b), fun u u0 u1 => ?_⟩
  rw [h 91 _ (by omega), h 93 u (by omega)]
  exact hR.2.2 u u0 u1
/-- the reference's record of a node -/
theorem mc_nd {M S : ma_M} (hI : mr_INV M) {V : Int → Int → Int} (hR : mc_rp M S V) {v : Int} (v0 : 0 ≤ v) (v1 : v < M 1 0) : S 81 v = M 2 v ∧ (M 2 v ≤ 6 → S 82 v = M 3 v) ∧ (M 2 v ≤ 5 → S 83 v = M 4 v ∧ M 5 v = 0) ∧ (M 2 v = 6 → S 83 v = M 5 v ∧ M 4 v = M 3 v) := by
  obtain ⟨a, b, c, _, _⟩ := hI.2.2.1 v v0 v1
  refine ⟨(hR.2.1 81 v (by decide) (by decide)).trans a.1, fun z => (hR.2.1 82 v (by decide) (by decide)).trans ?_, fun z => ⟨(hR.2.1 83 v (by decide) (by decide)).trans (b z).2.2.2.2.2.1, (b z).2.2.2.2.2.2.1⟩, fun z => ⟨(hR.2.1 83 v (by decide) (by decide)).trans (c z).2.2.2.2.1, (c z).2.2.1⟩⟩
  by_cases q : M 2 v = 6
  · exact (c q).2.2.2.1
  · exact (b (by omega)).2.2.2.2.1
set_option maxHeartbeats 1000000 in
theorem mc_ofold {M S : ma_M} (hI : mr_INV M) {V : Int → Int → Int} (hR : mc_rp M S V) {v : Int} (v0 : 0 ≤ v) (v1 : v < M 1 0) (op : M 2 v ≤ 6) (h97 : ∀ u, 0 ≤ u → u < v → S 97 u = mc_F M V u) {Q : Option ma_V → ma_S → ma_M → Prop} (q1 : mc_F M V (M 3 v) = 1 ∧ mc_F M V (M 4 v) = 1 → Q (some (0, 1)) mr_SH S) (q0 : ¬ (mc_F M V (M 3 v) = 1 ∧ mc_F M V (M 4 v) = 1) → Q (some (0, 0)) mr_SH S) : mr_do 105 [(2, 80), (0, v)] mr_SH S Q := by
  have hN := hI.2.1.1.2.1
  have hF := hR.1
  have v24 : 0 ≤ v ∧ v < 24 := by omega
  obtain ⟨e81, e82, e5, e6⟩ := mc_nd hI hR v0 v1
  have e82 := e82 op
  have ho := mc_op hI v0 v1 op
  have a24 : 0 ≤ M 3 v ∧ M 3 v < 24 := by omega
  have b24 : 0 ≤ M 4 v ∧ M 4 v < 24 := by omega
  have fa := h97 _ ho.1.1 ho.1.2
  have fb := h97 _ ho.2.1 ho.2.2
  rcases mc_F01 hI V ho.1.1 (show M 3 v < M 1 0 by omega) with g1 | g1
  · have q := q0 (by rw [g1]; omega)
    simp (disch := (first | assumption | omega | ((repeat (refine mr_FIX_up ?_ (by unfold mr_nst; omega))); assumption))) [x105, s105_0, s105_1, s105_4, s105_5, x105_8, s105_9, s105_10, x105_11, s105_14, s105_15, x105_18, s105_19, x105_20, x105_22, s105_25, s105_26, s105_29, s105_30, x105_33, s105_34, s105_35, x105_36, x105_39, x105_40, x105_43, x105_44, e82, fa, g1, v24, a24]
    exact q
  · by_cases k6 : M 2 v = 6
    · have q := q1 ⟨g1, by rw [(e6 k6).2]; exact g1⟩
      simp (disch := (first | assumption | omega | ((repeat (refine mr_FIX_up ?_ (by unfold mr_nst; omega))); assumption))) [x105, s105_0, s105_1, s105_4, s105_5, x105_8, s105_9, s105_10, x105_11, s105_14, s105_15, x105_18, s105_19, x105_20, x105_22, s105_25, s105_26, s105_29, s105_30, x105_33, s105_34, s105_35, x105_36, x105_39, x105_40, x105_43, x105_44, e81, e82, fa, g1, v24, a24, k6]
      exact q
    · have e83 := (e5 (by omega)).1
      rcases mc_F01 hI V ho.2.1 (show M 4 v < M 1 0 by omega) with g2 | g2
      · have q := q0 (by rw [g2]; omega)
        simp (disch := (first | assumption | omega | ((repeat (refine mr_FIX_up ?_ (by unfold mr_nst; omega))); assumption))) [x105, s105_0, s105_1, s105_4, s105_5, x105_8, s105_9, s105_10, x105_11, s105_14, s105_15, x105_18, s105_19, x105_20, x105_22, s105_25, s105_26, s105_29, s105_30, x105_33, s105_34, s105_35, x105_36, x105_39, x105_40, x105_43, x105_44, e81, e82, e83, fa, fb, g1, g2, v24, a24, b24, k6]
        exact q
      · have q := q1 ⟨g1, g2⟩
        simp (disch := (first | assumption | omega | ((repeat (refine mr_FIX_up ?_ (by unfold mr_nst; omega))); assumption))) [x105, s105_0, s105_1, s105_4, s105_5, x105_8, s105_9, s105_10, x105_11, s105_14, s105_15, x105_18, s105_19, x105_20, x105_22, s105_25, s105_26, s105_29, s105_30, x105_33, s105_34, s105_35, x105_36, x105_39, x105_40, x105_43, x105_44, e81, e82, e83, fa, fb, g1, g2, v24, a24, b24, k6]
        exact q
set_option maxHeartbeats 2000000 in
theorem mc_ref1 {M B : ma_M} (hI : mr_INV M) {L : Int → Int → Int} (hL : mt_Lb M L) (hR : mc_rp M B (mt_V M L)) {z2 z3 z4 : Int} {Q : Option ma_V → ma_S → ma_M → Prop} (cont : ∀ S : ma_M, (∀ c x, c ≠ 95 → c ≠ 97 → S c x = B c x) → (∀ u, 0 ≤ u → u < M 1 0 → S 97 u = mc_F M (mt_V M L) u ∧ S 95 u = 0) → ma_wp 107 84 [(2, 80), (0, M 1 0), (3, z2), (3, z3), (3, z4)] [] mr_SH S Q) : ∀ (m : Nat) (v : Int) (S : ma_M), (M 1 0 - v).toNat < m → 0 ≤ v → v ≤ M 1 0 → (∀ c x, c ≠ 95 → c ≠ 97 → S c x = B c x) → (∀ u, 0 ≤ u → u < v → S 97 u = mc_F M (mt_V M L) u ∧ S 95 u = 0) → ma_wp 107 13 [(2, 80), (0, v), (3, z2), (3, z3), (3, z4)] [] mr_SH S Q := by
  have hN := hI.2.1.1.2.1
  intro m
  induction m with
  | zero => intro v S h; omega
  | succ m ih =>
    intro v S hm h0 h1 hfr hv
    have hR1 := mc_rp_k hR (S := S) (fun c x hc => hfr c x (by omega) (by omega))
    have hF1 := hR1.1
    have e80 : S 80 0 = M 1 0 := (hR1.2.1 80 0 (by decide) (by decide)).trans hI.2.1.1.2.2
    simp (disch := (first | assumption | omega | ((repeat (refine mr_FIX_up ?_ (by unfold mr_nst; omega))); assumption))) only [x107_13, s107_14, s107_15, x107_18, e80]
    refine ⟨fun h => ?_, fun h => ?_⟩
    · obtain rfl : v = M 1 0 := by omega
      exact cont S hfr hv
    · have v1 : v < M 1 0 := by omega
      have v24 : 0 ≤ v ∧ v < 24 := by omega
      obtain ⟨e81, -, -, -⟩ := mc_nd hI hR1 h0 v1
      have e93 := (hR1.2.2 v h0 v1).2
      have k8 := (hI.2.2.1 v h0 v1).1.2.2
      have FE := mc_FE hI (mt_V M L) h0 v1
      unfold mc_f1 at FE
      have nx : ∀ f : Int, f = mc_F M (mt_V M L) v → ma_wp 107 70 [(2, 80), (0, v), (3, z2), (3, z3), (3, z4)] [(0, f), (0, v), (2, 97)] mr_SH S Q := by
        intro f hf
        have f01 : f = 0 ∨ f = 1 := by rw [hf]; exact mc_F01 hI (mt_V M L) h0 v1
        have hF2 : mr_FIX (ma_up S 97 v f) := mr_FIX_up hF1 (by unfold mr_nst; omega)
        simp (disch := (first | assumption | omega | ((repeat (refine mr_FIX_up ?_ (by unfold mr_nst; omega))); assumption))) [s107_70, s107_71, s107_72, x107_75, x107_76, s107_77, x107_78, x107_81, v24, f01, ma_32i]
        refine ih (v + 1) _ (by omega) (by omega) (by omega) (fun c x c1 c2 => (ma_up_ne c1).trans ((ma_up_ne c2).trans (hfr c x c1 c2))) (fun u u0 u1 => ?_)
        by_cases e : u = v
        · subst e
          exact ⟨(ma_up_ne (by decide)).trans (ma_up_s.trans hf), ma_up_s⟩
        · have h := hv u u0 (by omega)
          exact ⟨(ma_up_ne2 e).trans ((ma_up_ne2 e).trans h.1), (ma_up_ne2 e).trans ((ma_up_ne2 e).trans h.2)⟩
      by_cases c8 : M 2 v = 8
      · rw [if_pos (Or.inl c8)] at FE
        have := nx 1 FE.symm
        simp (disch := (first | assumption | omega | ((repeat (refine mr_FIX_up ?_ (by unfold mr_nst; omega))); assumption))) [s107_21, s107_22, x107_25, s107_26, s107_27, x107_30, s107_31, x107_32, x107_34, x107_65, x107_66, e81, c8, v24]
        exact this
      · by_cases c7 : M 2 v = 7
        · rw [if_neg (by omega)] at FE
          have := nx 0 FE.symm
          simp (disch := (first | assumption | omega | ((repeat (refine mr_FIX_up ?_ (by unfold mr_nst; omega))); assumption))) [s107_21, s107_22, x107_25, s107_26, s107_27, x107_30, s107_31, x107_32, x107_34, s107_37, s107_38, x107_41, s107_42, x107_43, x107_45, x107_69, e81, c7, v24]
          exact this
        · have op : M 2 v ≤ 6 := by omega
          have c7' : ¬ 7 ≤ M 2 v := by omega
          rcases (mt_V_b hI hL 25 v (by omega) h0 v1).2.1 with g | g
          · simp (disch := (first | assumption | omega | ((repeat (refine mr_FIX_up ?_ (by unfold mr_nst; omega))); assumption))) [s107_21, s107_22, x107_25, s107_26, s107_27, x107_30, s107_31, x107_32, x107_34, s107_37, s107_38, x107_41, s107_42, x107_43, x107_45, s107_48, s107_49, x107_52, s107_53, x107_54, s107_57, x107_58, s107_59, e81, c8, c7', e93, g, v24]
            refine mc_ofold hI hR1 h0 v1 op (fun u u0 u1 => (hv u u0 u1).1) (fun q => ?_) (fun q => ?_)
            · rw [if_pos (Or.inr ⟨op, q.1, q.2, g⟩)] at FE
              have := nx 1 FE.symm
              simp only [Option.toList_some, Option.toList_none, List.cons_append, List.nil_append]
              simp (disch := (first | assumption | omega | ((repeat (refine mr_FIX_up ?_ (by unfold mr_nst; omega))); assumption))) [x107_62, x107_65, x107_66]
              exact this
            · rw [if_neg (by omega)] at FE
              have := nx 0 FE.symm
              simp only [Option.toList_some, Option.toList_none, List.cons_append, List.nil_append]
              simp (disch := (first | assumption | omega | ((repeat (refine mr_FIX_up ?_ (by unfold mr_nst; omega))); assumption))) [x107_62, x107_65, x107_66, x107_69]
              exact this
          · rw [if_neg (by omega)] at FE
            have := nx 0 FE.symm
            simp (disch := (first | assumption | omega | ((repeat (refine mr_FIX_up ?_ (by unfold mr_nst; omega))); assumption))) [s107_21, s107_22, x107_25, s107_26, s107_27, x107_30, s107_31, x107_32, x107_34, s107_37, s107_38, x107_41, s107_42, x107_43, x107_45, s107_48, s107_49, x107_52, s107_53, x107_54, x107_69, e81, c8, c7', e93, g, v24]
            exact this
