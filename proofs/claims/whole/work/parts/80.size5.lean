/-! size: the reference's alike -/
def mc_b (M : ma_M) (V : Int → Int → Int) (p q : Int) : Int := if mc_m M V p = mc_m M V q then 1 else 0
theorem mc_b0 {M : ma_M} {V : Int → Int → Int} {p q : Int} : ¬ mc_b M V p q = 0 ↔ mc_m M V p = mc_m M V q := by
  unfold mc_b
  split
  · rename_i h; exact ⟨fun _ => h, fun _ => by decide⟩
  · rename_i h; exact ⟨fun z => absurd rfl z, fun z => absurd z h⟩
set_option maxHeartbeats 1000000 in
theorem mc_ral4 {S : ma_M} (hF : mr_FIX S) {u v a b c d x s1 s2 s3 s4 : Int} (ba : 0 ≤ a ∧ a < 24) (bb : 0 ≤ b ∧ b < 24) (bc : 0 ≤ c ∧ c < 24) (bd : 0 ≤ d ∧ d < 24) (e1 : S 98 (24 * a + c) = s1) (e2 : S 98 (24 * b + d) = s2) (e3 : S 98 (24 * a + d) = s3) (e4 : S 98 (24 * b + c) = s4) {Q : Option ma_V → ma_S → ma_M → Prop} (q1 : (¬ s1 = 0 ∧ ¬ s2 = 0) ∨ (¬ x = 0 ∧ ¬ s3 = 0 ∧ ¬ s4 = 0) → Q (some (0, 1)) mr_SH S) (q0 : ¬ ((¬ s1 = 0 ∧ ¬ s2 = 0) ∨ (¬ x = 0 ∧ ¬ s3 = 0 ∧ ¬ s4 = 0)) → Q (some (0, 0)) mr_SH S) : ma_wp 106 205 [(2, 80), (0, u), (0, v), (0, a), (0, b), (0, c), (0, d), (0, x)] [] mr_SH S Q := by
  have i1 : 0 ≤ 24 * a + c ∧ 24 * a + c < 576 := by omega
  have i2 : 0 ≤ 24 * b + d ∧ 24 * b + d < 576 := by omega
  have i3 : 0 ≤ 24 * a + d ∧ 24 * a + d < 576 := by omega
  have i4 : 0 ≤ 24 * b + c ∧ 24 * b + c < 576 := by omega
  simp (disch := (first | assumption | omega | ((repeat (refine mr_FIX_up ?_ (by unfold mr_nst; omega))); assumption))) only [s106_205, s106_206, x106_209, x106_211, x106_212, x106_213, x106_215, s106_216, x106_217, s106_220, s106_221, x106_224, x106_226, x106_228, x106_229, x106_231, s106_232, x106_233, x106_236, x106_238, s106_241, s106_242, x106_245, x106_247, x106_248, x106_249, x106_251, s106_252, x106_253, s106_256, s106_257, x106_260, x106_262, x106_264, x106_265, x106_267, s106_268, x106_269, x106_272, x106_273, x106_276, x106_277, ma_32i, e1, e2, e3, e4, mx_t i1, mx_t i2, mx_t i3, mx_t i4, true_and]
  generalize Q (some (0, 1)) mr_SH S = X at *
  generalize Q (some (0, 0)) mr_SH S = Y at *
  grind
set_option maxHeartbeats 1000000 in
theorem mc_ral3 {S : ma_M} (hF : mr_FIX S) {u v k a b c d z s1 s2 s3 s4 : Int} (u24 : 0 ≤ u ∧ u < 24) (e81 : S 81 u = k) (ba : 0 ≤ a ∧ a < 24) (bb : 0 ≤ b ∧ b < 24) (bc : 0 ≤ c ∧ c < 24) (bd : 0 ≤ d ∧ d < 24) (e1 : S 98 (24 * a + c) = s1) (e2 : S 98 (24 * b + d) = s2) (e3 : S 98 (24 * a + d) = s3) (e4 : S 98 (24 * b + c) = s4) {Q : Option ma_V → ma_S → ma_M → Prop} (q1 : (¬ s1 = 0 ∧ ¬ s2 = 0) ∨ (mc_x k ∧ ¬ s3 = 0 ∧ ¬ s4 = 0) → Q (some (0, 1)) mr_SH S) (q0 : ¬ ((¬ s1 = 0 ∧ ¬ s2 = 0) ∨ (mc_x k ∧ ¬ s3 = 0 ∧ ¬ s4 = 0)) → Q (some (0, 0)) mr_SH S) : ma_wp 106 159 [(2, 80), (0, u), (0, v), (0, a), (0, b), (0, c), (0, d), (3, z)] [] mr_SH S Q := by
  by_cases x : mc_x k
  · have h := mc_ral4 hF (u := u) (v := v) (x := 1) ba bb bc bd e1 e2 e3 e4 (fun w => q1 (w.elim Or.inl (fun w => Or.inr ⟨x, w.2⟩))) (fun w => q0 (fun y => w (y.elim Or.inl (fun y => Or.inr ⟨by decide, y.2⟩))))
    rcases x with x | x | x | x <;> rw [x] at e81 <;> (simp (disch := (first | assumption | omega | ((repeat (refine mr_FIX_up ?_ (by unfold mr_nst; omega))); assumption))) [s106_159, s106_160, x106_163, s106_164, x106_165, s106_168, s106_169, x106_172, s106_173, x106_174, x106_175, s106_178, s106_179, x106_182, s106_183, x106_184, x106_185, s106_188, s106_189, x106_192, s106_193, x106_194, x106_195, x106_198, x106_199, x106_202, x106_203, e81, u24]; exact h)
  · have h := mc_ral4 hF (u := u) (v := v) (x := 0) ba bb bc bd e1 e2 e3 e4 (fun w => q1 (w.elim Or.inl (fun w => absurd rfl w.1))) (fun w => q0 (fun y => w (y.elim Or.inl (fun y => absurd y.1 x))))
    unfold mc_x at x
    have x0 : ¬ k = 0 := fun z => x (Or.inl z)
    have x2 : ¬ k = 2 := fun z => x (Or.inr (Or.inl z))
    have x4 : ¬ k = 4 := fun z => x (Or.inr (Or.inr (Or.inl z)))
    have x5 : ¬ k = 5 := fun z => x (Or.inr (Or.inr (Or.inr z)))
    simp (disch := (first | assumption | omega | ((repeat (refine mr_FIX_up ?_ (by unfold mr_nst; omega))); assumption))) [s106_159, s106_160, x106_163, s106_164, x106_165, s106_168, s106_169, x106_172, s106_173, x106_174, x106_175, s106_178, s106_179, x106_182, s106_183, x106_184, x106_185, s106_188, s106_189, x106_192, s106_193, x106_194, x106_195, x106_198, x106_199, x106_202, x106_203, e81, u24, x0, x2, x4, x5]
    exact h
set_option maxHeartbeats 2000000 in
theorem mc_ralk {M S : ma_M} (hI : mr_INV M) {L : Int → Int → Int} (hR : mc_rp M S (mt_V M L)) {u v : Int} (u0 : 0 ≤ u) (huv : u ≤ v) (v1 : v < M 1 0) (h97 : ∀ w, 0 ≤ w → w < M 1 0 → S 97 w = mc_F M (mt_V M L) w) (h98 : ∀ p q, 0 ≤ p → p < v → 0 ≤ q → q < v → S 98 (24 * p + q) = mc_b M (mt_V M L) p q) {Q : Option ma_V → ma_S → ma_M → Prop} (q1 : mc_k M (mt_V M L) u = mc_k M (mt_V M L) v → Q (some (0, 1)) mr_SH S) (q0 : mc_k M (mt_V M L) u ≠ mc_k M (mt_V M L) v → Q (some (0, 0)) mr_SH S) : mr_do 106 [(2, 80), (0, u), (0, v)] mr_SH S Q := by
  have hN := hI.2.1.1.2.1
  have hF := hR.1
  have v0 : 0 ≤ v := by omega
  have u1 : u < M 1 0 := by omega
  have v24 : 0 ≤ v ∧ v < 24 := by omega
  have u24 : 0 ≤ u ∧ u < 24 := by omega
  have fu := h97 u u0 u1
  have fv := h97 v v0 v1
  rcases mc_F01 hI (mt_V M L) u0 u1 with gu | gu
  · rcases mc_F01 hI (mt_V M L) v0 v1 with gv | gv
    · have nu : mc_F M (mt_V M L) u ≠ 1 := by omega
      have nv : mc_F M (mt_V M L) v ≠ 1 := by omega
      obtain ⟨e81u, e82u, e5u, e6u⟩ := mc_nd hI hR u0 u1
      obtain ⟨e81v, e82v, e5v, e6v⟩ := mc_nd hI hR v0 v1
      by_cases ce : u = v
      · have q := q1 (by rw [ce])
        simp (disch := (first | assumption | omega | ((repeat (refine mr_FIX_up ?_ (by unfold mr_nst; omega))); assumption))) [x106, s106_0, s106_1, x106_4, s106_5, s106_6, s106_7, x106_10, s106_11, x106_12, x106_15, x106_16, s106_17, s106_18, x106_21, s106_22, x106_23, x106_54, x106_55, x106_56, x106_59, x106_60, fu, fv, gu, gv, u24, v24, ce]
        exact q
      · have k8u := (hI.2.2.1 u u0 u1).1.2.2
        have u8 : M 2 u ≠ 8 := fun z => nu (by rw [mc_FE hI _ u0 u1]; unfold mc_f1; rw [if_pos (Or.inl z)])
        by_cases ck : M 2 u = M 2 v
        · by_cases c7 : M 2 u = 7
          · have q := q0 (mc_k_7 ce nu nv (Or.inl c7))
            have c7v : M 2 v = 7 := by omega
            simp (disch := (first | assumption | omega | ((repeat (refine mr_FIX_up ?_ (by unfold mr_nst; omega))); assumption))) [x106, s106_0, s106_1, x106_4, s106_5, s106_6, s106_7, x106_10, s106_11, x106_12, x106_15, x106_16, s106_17, s106_18, x106_21, s106_22, x106_23, x106_54, x106_55, x106_56, x106_59, x106_60, s106_61, s106_62, x106_65, s106_66, s106_67, s106_68, x106_71, s106_72, x106_73, s106_76, s106_77, x106_80, s106_81, x106_82, x106_84, x106_87, x106_88, fu, fv, gu, gv, u24, v24, ce, e81u, e81v, c7, c7v]
            exact q
          · have op : M 2 u ≤ 6 := by omega
            have opv : M 2 v < 7 := by omega
            have e82u := e82u op
            have e82v := e82v (by omega)
            have ho := mc_op hI u0 u1 op
            have hp := mc_op hI v0 v1 (by omega)
            have b1 : 0 ≤ M 3 u ∧ M 3 u < 24 := by omega
            have b2 : 0 ≤ M 4 u ∧ M 4 u < 24 := by omega
            have b3 : 0 ≤ M 3 v ∧ M 3 v < 24 := by omega
            have b4 : 0 ≤ M 4 v ∧ M 4 v < 24 := by omega
            have key := mc_k_op hI nu nv c7 ck
            have s1 := h98 (M 3 u) (M 3 v) b1.1 (by omega) b3.1 (by omega)
            have s2 := h98 (M 4 u) (M 4 v) b2.1 (by omega) b4.1 (by omega)
            have s3 := h98 (M 3 u) (M 4 v) b1.1 (by omega) b4.1 (by omega)
            have s4 := h98 (M 4 u) (M 3 v) b2.1 (by omega) b3.1 (by omega)
            by_cases k6 : M 2 u = 6
            · have k6v : M 2 v = 6 := by omega
              have e83u := (e6u k6).1
              have e83v := (e6v k6v).1
              have nx : ¬ mc_x (M 2 u) := by unfold mc_x; omega
              have i1 : 0 ≤ 24 * M 3 u + M 3 v ∧ 24 * M 3 u + M 3 v < 576 := by omega
              have key2 : mc_k M (mt_V M L) u = mc_k M (mt_V M L) v ↔ M 5 u = M 5 v ∧ mc_m M (mt_V M L) (M 3 u) = mc_m M (mt_V M L) (M 3 v) := by
                rw [key, (e6u k6).2, (e6v k6v).2]
                simp only [nx, false_and, or_false, and_self]
              simp (disch := (first | assumption | omega | ((repeat (refine mr_FIX_up ?_ (by unfold mr_nst; omega))); assumption))) [x106, s106_0, s106_1, x106_4, s106_5, s106_6, s106_7, x106_10, s106_11, x106_12, x106_15, x106_16, s106_17, s106_18, x106_21, s106_22, x106_23, x106_54, x106_55, x106_56, x106_59, x106_60, s106_61, s106_62, x106_65, s106_66, s106_67, s106_68, x106_71, s106_72, x106_73, s106_76, s106_77, x106_80, s106_81, x106_82, x106_84, x106_87, x106_88, s106_89, s106_90, x106_93, s106_94, x106_95, s106_96, s106_97, x106_100, s106_101, x106_102, s106_104, s106_105, x106_108, s106_109, x106_110, s106_112, s106_113, x106_116, s106_117, x106_118, s106_120, s106_121, x106_124, s106_125, x106_126, x106_128, x106_131, x106_133, x106_135, s106_138, s106_139, x106_142, x106_144, x106_145, x106_146, x106_148, s106_149, x106_150, x106_153, x106_154, x106_157, x106_158, fu, fv, gu, gv, u24, v24, ce, e81u, e81v, k6, k6v, e82u, e82v, e83u, e83v, ma_32i, s1, i1]
              rw [← mc_b0] at key2
              exact ⟨fun z => q0 (fun w => z (key2.1 w).1), fun z => ⟨fun y => q0 (fun w => (key2.1 w).2 y), fun y => q1 (key2.2 ⟨z, y⟩)⟩⟩
            · have e83u := (e5u (by omega)).1
              have e83v := (e5v (by omega)).1
              have d5 : M 5 u = M 5 v := by rw [(e5u (by omega)).2, (e5v (by omega)).2]
              have op' : M 2 v < 7 := opv
              have k6v : ¬ M 2 v = 6 := by omega
              simp (disch := (first | assumption | omega | ((repeat (refine mr_FIX_up ?_ (by unfold mr_nst; omega))); assumption))) [x106, s106_0, s106_1, x106_4, s106_5, s106_6, s106_7, x106_10, s106_11, x106_12, x106_15, x106_16, s106_17, s106_18, x106_21, s106_22, x106_23, x106_54, x106_55, x106_56, x106_59, x106_60, s106_61, s106_62, x106_65, s106_66, s106_67, s106_68, x106_71, s106_72, x106_73, s106_76, s106_77, x106_80, s106_81, x106_82, x106_84, x106_87, x106_88, s106_89, s106_90, x106_93, s106_94, x106_95, s106_96, s106_97, x106_100, s106_101, x106_102, s106_104, s106_105, x106_108, s106_109, x106_110, s106_112, s106_113, x106_116, s106_117, x106_118, s106_120, s106_121, x106_124, s106_125, x106_126, x106_128, fu, fv, gu, gv, u24, v24, ce, e81u, e81v, ck, k6v, op', e82u, e82v, e83u, e83v]
              have e : ((¬ mc_b M (mt_V M L) (M 3 u) (M 3 v) = 0 ∧ ¬ mc_b M (mt_V M L) (M 4 u) (M 4 v) = 0) ∨ (mc_x (M 2 u) ∧ ¬ mc_b M (mt_V M L) (M 3 u) (M 4 v) = 0 ∧ ¬ mc_b M (mt_V M L) (M 4 u) (M 3 v) = 0)) ↔ mc_k M (mt_V M L) u = mc_k M (mt_V M L) v := by
                rw [mc_b0, mc_b0, mc_b0, mc_b0, key]
                exact ⟨fun z => ⟨d5, z⟩, fun z => z.2⟩
              exact mc_ral3 hF u24 e81u b1 b2 b3 b4 s1 s2 s3 s4 (fun w => q1 (e.1 w)) (fun w => q0 (fun y => w (e.2 y)))
        · have q := q0 (mc_k_7 ce nu nv (Or.inr ck))
          simp (disch := (first | assumption | omega | ((repeat (refine mr_FIX_up ?_ (by unfold mr_nst; omega))); assumption))) [x106, s106_0, s106_1, x106_4, s106_5, s106_6, s106_7, x106_10, s106_11, x106_12, x106_15, x106_16, s106_17, s106_18, x106_21, s106_22, x106_23, x106_54, x106_55, x106_56, x106_59, x106_60, s106_61, s106_62, x106_65, s106_66, s106_67, s106_68, x106_71, s106_72, x106_73, s106_76, s106_77, x106_80, s106_81, x106_82, x106_84, x106_87, x106_88, fu, fv, gu, gv, u24, v24, ce, e81u, e81v, ck]
          exact q
    · have q := q0 (fun z => mc_k_FN hI u0 u1 gv (by omega) z.symm)
      simp (disch := (first | assumption | omega | ((repeat (refine mr_FIX_up ?_ (by unfold mr_nst; omega))); assumption))) [x106, s106_0, s106_1, x106_4, s106_5, s106_6, s106_7, x106_10, s106_11, x106_12, x106_15, x106_16, fu, fv, gu, gv, u24, v24]
      exact q
  · rcases mc_F01 hI (mt_V M L) v0 v1 with gv | gv
    · have q := q0 (fun z => mc_k_FN hI v0 v1 gu (by omega) z)
      simp (disch := (first | assumption | omega | ((repeat (refine mr_FIX_up ?_ (by unfold mr_nst; omega))); assumption))) [x106, s106_0, s106_1, x106_4, s106_5, s106_6, s106_7, x106_10, s106_11, x106_12, x106_15, x106_16, fu, fv, gu, gv, u24, v24]
      exact q
    · have ru := (hR.2.2 u u0 u1).1
      have rv := (hR.2.2 v v0 v1).1
      have key := mc_k_F gu gv
      have i1 : 0 ≤ 9 * u ∧ 9 * u < 216 := by omega
      have i2 : 0 ≤ 9 * v ∧ 9 * v < 216 := by omega
      simp (disch := (first | assumption | omega | ((repeat (refine mr_FIX_up ?_ (by unfold mr_nst; omega))); assumption))) [x106, s106_0, s106_1, x106_4, s106_5, s106_6, s106_7, x106_10, s106_11, x106_12, x106_15, x106_16, s106_17, s106_18, x106_21, s106_22, x106_23, s106_26, s106_27, x106_30, x106_32, x106_33, s106_34, s106_35, s106_36, x106_39, x106_41, x106_42, s106_43, x106_44, x106_45, x106_48, x106_49, x106_52, x106_53, fu, fv, gu, gv, ru, rv, u24, v24, ma_32i, i1, i2, mm_lc0]
      exact ⟨fun z => q0 (fun w => z (key.1 w)), fun z => q1 (key.2 z)⟩
/-! size: the reference's loops -/
set_option maxHeartbeats 1000000 in
theorem mc_ref3 {M B : ma_M} (hI : mr_INV M) {L : Int → Int → Int} (hR : mc_rp M B (mt_V M L)) (h97 : ∀ w, 0 ≤ w → w < M 1 0 → B 97 w = mc_F M (mt_V M L) w) {v z4 : Int} (v0 : 0 ≤ v) (v1 : v < M 1 0) (h98 : ∀ p q, 0 ≤ p → p < v → 0 ≤ q → q < v → B 98 (24 * p + q) = mc_b M (mt_V M L) p q) {Q : Option ma_V → ma_S → ma_M → Prop} (cont : ∀ (S : ma_M) (a3 : ma_V), (∀ c x, c ≠ 98 → S c x = B c x) → (∀ p q, 0 ≤ p → p ≤ v → 0 ≤ q → q ≤ v → S 98 (24 * p + q) = mc_b M (mt_V M L) p q) → ma_wp 107 138 [(2, 80), (0, v), (0, v + 1), a3, (3, z4)] [] mr_SH S Q) : ∀ (m : Nat) (u : Int) (S : ma_M) (a3 : ma_V), (v + 1 - u).toNat < m → 0 ≤ u → u ≤ v + 1 → (∀ c x, c ≠ 98 → S c x = B c x) → (∀ p q, 0 ≤ p → p < v → 0 ≤ q → q < v → S 98 (24 * p + q) = mc_b M (mt_V M L) p q) → (∀ p, 0 ≤ p → p < u → S 98 (24 * p + v) = mc_b M (mt_V M L) p v ∧ S 98 (24 * v + p) = mc_b M (mt_V M L) v p) → ma_wp 107 96 [(2, 80), (0, v), (0, u), a3, (3, z4)] [] mr_SH S Q := by
  have hN := hI.2.1.1.2.1
  have v24 : 0 ≤ v ∧ v < 24 := by omega
  intro m
  induction m with
  | zero => intro u S a3 h; omega
  | succ m ih =>
    intro u S a3 hm h0 h1 hfr hin hv
    have hR1 := mc_rp_k hR (S := S) (fun c x hc => hfr c x (by omega))
    have hF1 := hR1.1
    simp (disch := (first | assumption | omega | ((repeat (refine mr_FIX_up ?_ (by unfold mr_nst; omega))); assumption))) only [x107_96, x107_97, x107_98]
    refine ⟨fun h => ?_, fun h => ?_⟩
    · obtain rfl : u = v + 1 := by omega
      refine cont S a3 hfr (fun p q p0 p1 q0 q1 => ?_)
      by_cases e : p = v
      · subst e; exact (hv q q0 (by omega)).2
      · by_cases e2 : q = v
        · subst e2; exact (hv p p0 (by omega)).1
        · exact hin p q p0 (by omega) q0 (by omega)
    · have u24 : 0 ≤ u ∧ u < 24 := by omega
      have i1 : 0 ≤ 24 * u + v ∧ 24 * u + v < 576 := by omega
      have i2 : 0 ≤ 24 * v + u ∧ 24 * v + u < 576 := by omega
      have nx : ∀ f : Int, f = mc_b M (mt_V M L) u v → ma_wp 107 107 [(2, 80), (0, v), (0, u), a3, (3, z4)] [(0, f)] mr_SH S Q := by
        intro f hf
        have f01 : f = 0 ∨ f = 1 := by rw [hf]; unfold mc_b; split <;> simp
        have hf2 : f = mc_b M (mt_V M L) v u := by rw [hf]; unfold mc_b; simp only [eq_comm]
        have hF2 : mr_FIX (ma_up S 98 (24 * u + v) f) := mr_FIX_up hF1 (by unfold mr_nst; omega)
        simp (disch := (first | assumption | omega | ((repeat (refine mr_FIX_up ?_ (by unfold mr_nst; omega))); assumption))) [x107_107, s107_108, s107_109, x107_112, x107_114, x107_115, x107_116, x107_117, x107_118, s107_119, s107_120, s107_121, x107_124, x107_126, x107_127, x107_128, x107_129, x107_130, s107_131, x107_132, x107_135, ma_32i, i1, i2, f01]
        refine ih (u + 1) _ _ (by omega) (by omega) (by omega) (fun c x hc => (ma_up_ne hc).trans ((ma_up_ne hc).trans (hfr c x hc))) (fun p q p0 p1 q0 q1 => ?_) (fun p p0 p1 => ?_)
        · rw [ma_up_ne2 (by omega), ma_up_ne2 (by omega)]
          exact hin p q p0 p1 q0 q1
        · by_cases e : p = u
          · subst e
            refine ⟨?_, ma_up_s.trans hf2⟩
            by_cases e3 : p = v
            · subst e3; exact ma_up_s.trans hf
            · exact (ma_up_ne2 (by omega)).trans (ma_up_s.trans hf)
          · have h := hv p p0 (by omega)
            exact ⟨(ma_up_ne2 (by omega)).trans ((ma_up_ne2 (by omega)).trans h.1), (ma_up_ne2 (by omega)).trans ((ma_up_ne2 (by omega)).trans h.2)⟩
      have iff := mc_eq hI (mt_V M L) h0 (show u < M 1 0 by omega) v0 v1
      simp (disch := (first | assumption | omega | ((repeat (refine mr_FIX_up ?_ (by unfold mr_nst; omega))); assumption))) only [s107_101, x107_102, x107_103, s107_104]
      refine mc_ralk hI hR1 h0 (by omega) v1 (fun w a b => (hfr 97 w (by decide)).trans (h97 w a b)) hin (fun e => ?_) (fun e => ?_)
      · have := nx 1 (by unfold mc_b; rw [if_pos (iff.2 e)])
        simp only [Option.toList_some, Option.toList_none, List.cons_append, List.nil_append]
        exact this
      · have := nx 0 (by unfold mc_b; rw [if_neg (fun z => e (iff.1 z))])
        simp only [Option.toList_some, Option.toList_none, List.cons_append, List.nil_append]
        exact this
set_option maxHeartbeats 1000000 in
theorem mc_ref2 {M B : ma_M} (hI : mr_INV M) {L : Int → Int → Int} (hR : mc_rp M B (mt_V M L)) (h97 : ∀ w, 0 ≤ w → w < M 1 0 → B 97 w = mc_F M (mt_V M L) w) {z4 : Int} {Q : Option ma_V → ma_S → ma_M → Prop} (cont : ∀ (S : ma_M) (a2 a3 : ma_V), (∀ c x, c ≠ 98 → S c x = B c x) → (∀ p q, 0 ≤ p → p < M 1 0 → 0 ≤ q → q < M 1 0 → S 98 (24 * p + q) = mc_b M (mt_V M L) p q) → ma_wp 107 144 [(2, 80), (0, M 1 0), a2, a3, (3, z4)] [] mr_SH S Q) : ∀ (m : Nat) (v : Int) (S : ma_M) (a2 a3 : ma_V), (M 1 0 - v).toNat < m → 0 ≤ v → v ≤ M 1 0 → (∀ c x, c ≠ 98 → S c x = B c x) → (∀ p q, 0 ≤ p → p < v → 0 ≤ q → q < v → S 98 (24 * p + q) = mc_b M (mt_V M L) p q) → ma_wp 107 86 [(2, 80), (0, v), a2, a3, (3, z4)] [] mr_SH S Q := by
  have hN := hI.2.1.1.2.1
  intro m
  induction m with
  | zero => intro v S a2 a3 h; omega
  | succ m ih =>
    intro v S a2 a3 hm h0 h1 hfr hv
    have hR1 := mc_rp_k hR (S := S) (fun c x hc => hfr c x (by omega))
    have hF1 := hR1.1
    have e80 : S 80 0 = M 1 0 := (hR1.2.1 80 0 (by decide) (by decide)).trans hI.2.1.1.2.2
    simp (disch := (first | assumption | omega | ((repeat (refine mr_FIX_up ?_ (by unfold mr_nst; omega))); assumption))) only [x107_86, s107_87, s107_88, x107_91, e80]
    refine ⟨fun h => ?_, fun h => ?_⟩
    · obtain rfl : v = M 1 0 := by omega
      exact cont S a2 a3 hfr hv
    · simp (disch := (first | assumption | omega | ((repeat (refine mr_FIX_up ?_ (by unfold mr_nst; omega))); assumption))) only [x107_94, x107_95]
      refine mc_ref3 hI hR1 (fun w a b => (hfr 97 w (by decide)).trans (h97 w a b)) h0 (by omega) hv (fun S2 a3 hf2 hv2 => ?_) 26 0 S a3 (by omega) (by decide) (by omega) (fun _ _ _ => rfl) hv (fun p a b => by omega)
      simp (disch := (first | assumption | omega | ((repeat (refine mr_FIX_up ?_ (by unfold mr_nst; omega))); assumption))) only [x107_138, x107_141, ma_32i]
      exact ih (v + 1) S2 _ _ (by omega) (by omega) (by omega) (fun c x hc => (hf2 c x hc).trans (hfr c x hc)) (fun p q p0 p1 q0 q1 => hv2 p q p0 (by omega) q0 (by omega))
