/-- the reference's march from a state that has the recorded program -/
def mz_pe (c x : Int) : Prop := (90 ≤ c ∧ c ≤ 94) ∨ (99 ≤ c ∧ c ≤ 103) ∨ (c = 80 ∧ x = 22)
set_option maxHeartbeats 1000000 in
theorem mm_march {M S : ma_M} (hI : mr_INV M) (hm : M 0 11 = M 1 1) (h0 : M 0 11 ≠ 0) (hFS : mr_FIX S) (hS : ∀ c k, 80 ≤ c → S c k = M c k) {n s : Int} (n1 : 1 ≤ n) (n20 : n ≤ 20) (s1 : 1 ≤ s) (s5 : s ≤ 5) {Q : Option ma_V → ma_S → ma_M → Prop} (c1 : ∀ (S2 : ma_M) (t : Int), (∀ c x, ¬ mz_pn c → S2 c x = S c x) → mz_G M n.toNat t → t ≠ 0 → Q (some (0, t)) mr_SH S2) (c2 : ∀ S2 : ma_M, mr_FIX S2 → (∀ c x, ¬ mz_pe c x → S2 c x = S c x) → mz_G M n.toNat 0 → S2 80 22 = M 1 1 → (∀ l, 0 ≤ l → l < M 1 1 → S2 100 l = mz_P M n.toNat l ∧ S2 101 l = ms_s (fun i => M 55 i * mz_D M (mt_e l (-1)) n.toNat i) (M 0 11).toNat % 65521) → Q (some (0, mi_T s n)) mr_SH S2) : mr_do 110 [(2, 80), (0, n), (0, s)] mr_SH S Q := by
  have hI5 : 0 ≤ M 1 1 ∧ M 1 1 ≤ 5 := ⟨hI.2.1.2.1.1, hI.2.1.2.1.2.1⟩
  have e9 : S 80 9 = M 1 1 := (hS 80 9 (by decide)).trans (hI.2.1.2.2.2.2.trans hm)
  have e5 : S 80 5 = M 1 1 := (hS 80 5 (by decide)).trans hI.2.1.2.1.2.2
  have k1 : ¬ M 1 1 = 0 := by omega
  have k2 : ¬ n < 1 := by omega
  have k3 : ¬ 20 < n := by omega
  have k4 : ¬ s < 1 := by omega
  have k5 : s ≤ 5 := s5
  simp (disch := (first | assumption | omega | ((repeat (refine mr_FIX_up ?_ (by unfold mr_nst; omega))); assumption))) [x110, s110_0, s110_1, s110_4, s110_5, x110_8, s110_11, s110_12, x110_15, x110_18, x110_19, x110_20, x110_23, x110_24, x110_26, x110_29, x110_30, x110_31, x110_34, x110_35, x110_36, e9, e5, k1, k2, k3, k4, k5]
  simp (disch := (first | assumption | omega | ((repeat (refine mr_FIX_up ?_ (by unfold mr_nst; omega))); assumption))) only [x110_42, x110_43]
  refine mm_mar1 hI hm hFS (fun c k a _ => hS c k a) n1 n20 c1 (fun S1 a4 a6 hf1 hw hnew => ?_) 6 0 S _ _ (by omega) (by decide) hI5.1 (fun _ _ _ => rfl) (fun z => absurd z (by decide)) (fun l a b => by omega)
  have hF1 : mr_FIX S1 := md_fr hFS (p := mz_pn) (fun c x hc => hf1 c x hc) (fun c hc => by unfold mz_pn at hc; omega)
  have g5 : S1 80 5 = M 1 1 := (hf1 80 5 (by unfold mz_pn; decide)).trans e5
  simp (disch := (first | assumption | omega | ((repeat (refine mr_FIX_up ?_ (by unfold mr_nst; omega))); assumption))) only [s110_167, s110_168, s110_169, s110_172, x110_175, x110_176, g5]
  have hF2 : mr_FIX (ma_up S1 80 22 (M 1 1)) := mr_FIX_up hF1 (by unfold mr_nst; omega)
  have q : ∀ c x, ¬ (c = 80 ∧ x = 22) → ma_up S1 80 22 (M 1 1) c x = S1 c x := fun c x h => if_neg h
  have q2 : ma_up S1 80 22 (M 1 1) 80 22 = M 1 1 := ma_up_s
  generalize ma_up S1 80 22 (M 1 1) = B at *
  refine mm_mar4 hI hF2 ((q 80 5 (by decide)).trans g5) (fun S2 hf2 hv2 => ?_) 6 0 B (by omega) (by decide) hI5.1 (fun _ _ _ _ => rfl) (fun l a b => by omega)
  have hF3 : mr_FIX S2 := md_fr hF2 (p := fun c => c = 100 ∨ c = 101) (fun c x hc => hf2 c x (by omega) (by omega)) (fun c hc => by omega)
  simp (disch := (first | assumption | omega | ((repeat (refine mr_FIX_up ?_ (by unfold mr_nst; omega))); assumption))) only [s110_215, x110_216, x110_217, s110_218]
  refine mm_steps hF3 n1 n20 s1 s5 (fun S3 hf3 => ?_)
  have hF4 : mr_FIX S3 := md_fr hF3 (p := fun c => c = 99) (fun c x hc => hf3 c x hc) (fun c hc => by omega)
  simp only [Option.toList_some, Option.toList_none, List.cons_append, List.nil_append]
  simp (disch := (first | assumption | omega | ((repeat (refine mr_FIX_up ?_ (by unfold mr_nst; omega))); assumption))) only [x110_221]
  refine c2 S3 hF4 (fun c x hc => ?_) (Or.inl ⟨rfl, hw (by omega)⟩) ?_ (fun l a b => ?_)
  · unfold mz_pe at hc
    rw [hf3 c x (by omega), hf2 c x (by omega) (by omega), q c x (by omega)]
    exact hf1 c x (by unfold mz_pn; omega)
  · rw [hf3 80 22 (by decide), hf2 80 22 (by decide) (by decide)]
    exact q2
  · have h := hnew l a b
    rw [hf3 100 l (by decide), hf3 101 l (by decide), (hv2 l a b).1, (hv2 l a b).2, q 102 l (by omega), q 103 l (by omega)]
    exact h
/-- the two ways of going back agree -/
theorem mz_adj {M S : ma_M} (hI : mr_INV M) (hm : M 0 11 = M 1 1) {n : Nat} (h : mz_bk M S n 0) {j : Int} (j0 : 0 ≤ j) (j1 : j < M 1 1) : S 79 j = ms_s (fun i => M 55 i * mz_D M (mt_e j (-1)) n i) (M 0 11).toNat % 65521 := by
  have key := h.2 (mt_e j (-1)) (fun u _ _ => mt_e_b _ _ u)
  unfold mz_D at key
  rw [mf_congr (g := fun l => if l = j then mq (S 79 j) else 0) _ (fun l l0 l1 => ?_), mf_single j0 (by omega)] at key
  · refine mq_inj (h.1 j j0 j1).1 (h.1 j j0 j1).2 (by omega) (by omega) ?_
    rw [key, mq_mod, mq_s, hm]
    unfold mz_Z
    exact mf_congr _ (fun i a b => by rw [mq_mul])
  · rw [mt_e1 l0]
    by_cases e : l = j
    · rw [if_pos e, if_pos e, e, mq_1]; grind
    · rw [if_neg e, if_neg e, mq_0]; grind
theorem mz_fin {M S S2 : ma_M} (hI : mr_INV M) (hm : M 0 11 = M 1 1) {n : Int} (he : mz_end M S n) (hF2 : mr_FIX S2) (hf : ∀ c x, ¬ mz_pe c x → S2 c x = S c x) (h22 : S2 80 22 = M 1 1) (hv : ∀ l, 0 ≤ l → l < M 1 1 → S2 100 l = mz_P M n.toNat l ∧ S2 101 l = ms_s (fun i => M 55 i * mz_D M (mt_e l (-1)) n.toNat i) (M 0 11).toNat % 65521) : mr_INV S2 := by
  obtain ⟨hfr, hFS, e15, e78, hbk, hsn⟩ := he
  have hI5 : 0 ≤ M 1 1 ∧ M 1 1 ≤ 5 := ⟨hI.2.1.2.1.1, hI.2.1.2.1.2.1⟩
  have g : ∀ c x, ¬ mz_pe c x → ¬ (10 ≤ c ∧ c ≤ 34) → ¬ mz_p2 c x → S2 c x = M c x := fun c x a b d => (hf c x a).trans (hfr.1 c x b d)
  have gc : ∀ c x, (1 ≤ c ∧ c ≤ 7) ∨ (50 ≤ c ∧ c ≤ 56) ∨ (81 ≤ c ∧ c ≤ 89) ∨ (c = 0 ∧ x = 11) ∨ (c = 80 ∧ x ≠ 22) → S2 c x = M c x := fun c x h => g c x (by unfold mz_pe; omega) (by omega) (by unfold mz_p2; omega)
  have e15' : S2 0 15 = M 1 1 := (hf 0 15 (by unfold mz_pe; decide)).trans e15
  have e011 : S2 0 11 = M 0 11 := gc 0 11 (by omega)
  refine mr_INV_gen hI hF2 (fun c i h => gc c i (by omega)) ⟨gc 80 0 (by omega), gc 80 5 (by omega)⟩ ⟨?_, ?_, ?_⟩ (fun v k v0 v1 k0 k1 hk => ?_) (fun j j0 j1 => ?_) (fun i i0 i1 => ?_) ⟨⟨?_, ?_, ?_⟩, fun j j0 j1 => ?_⟩ (mz_snp hsn (fun c x a b => hf c x (by unfold mz_pe; omega)))
  · rw [e011]; exact hI.2.1.2.2.1
  · rw [e011]; exact hI.2.1.2.2.2.1
  · rw [e011, gc 80 9 (by omega)]; exact hI.2.1.2.2.2.2
  · rw [hf _ k (by unfold mz_pe; omega)]
    by_cases hv : M 1 0 ≤ v
    · exact hfr.2.1 v hv v1 k
    · have := hfr.2.2 v v0 (by omega)
      rcases hk with hk | ⟨a, b⟩ | ⟨a, b⟩
      · omega
      · exact this.1 a k b
      · exact this.2 a k b
  · rw [gc 86 j (by omega), gc 50 j (by omega), gc 87 j (by omega), gc 51 j (by omega), gc 89 j (by omega), gc 55 j (by omega)]
    exact hI.2.2.2.2.2.1 j j0 j1
  · rw [e011] at i1
    rw [gc 88 i (by omega), gc 54 i (by omega), gc 1 0 (by omega)]
    exact hI.2.2.2.2.2.2.1 i i0 i1
  · omega
  · omega
  · omega
  · rw [e15'] at j1
    have e1 : S2 78 j = S 78 j := hf 78 j (by unfold mz_pe; omega)
    have e2 : S2 79 j = S 79 j := hf 79 j (by unfold mz_pe; omega)
    have h := hv j j0 j1
    rw [e1, e2, h.1, h.2, e78 j j0 j1, ← mz_adj hI hm hbk j0 j1]
    exact ⟨⟨rfl, mz_P_b hI hm _ j j0 j1⟩, rfl, hbk.1 j j0 j1⟩
set_option maxHeartbeats 1000000 in
theorem mp_march : mr_p2 58 110 := by
  intro M n s hI hn hs
  obtain ⟨hF, ⟨⟨n1, n2, n3⟩, ⟨i1, i2, i3⟩, ⟨o1, o2, o3⟩⟩, -⟩ := id hI
  unfold mr_pair
  by_cases hm : ¬ M 0 11 = M 1 1
  · by_cases h0 : M 0 11 = 0
    · have hm2 : ¬ M 1 1 = 0 := by omega
      have hm3 : ¬ (0 : Int) = M 1 1 := by omega
      exact ⟨-3, by simp (disch := (first | assumption | omega | ((repeat (refine mr_FIX_up ?_ (by unfold mr_nst; omega))); assumption))) [x58, s58_0, s58_1, x58_4, s58_7, s58_8, s58_11, s58_12, s58_15, x58_18, x58_21, x58_23, x58_24, x58_25, x58_26, x58_29, x58_30, x58_32, x58_35, x58_36, x58_37, x58_40, x58_41, x58_42, x58_45, x58_47, s58_48, x58_49, s58_50, x58_53, x58_54, x58_55, x58_58, x58_59, s58_60, x58_61, s58_62, s58_65, s58_66, x58_69, x58_70, s58_71, x58_74, x110, s110_0, s110_1, s110_4, s110_5, x110_8, s110_11, s110_12, x110_15, x110_18, x110_19, x110_20, x110_23, x110_24, x110_26, x110_29, x110_30, x110_31, x110_34, x110_35, x110_36, x110_39, x110_41, x110_42, x110_43, s110_45, s110_46, x110_49, s110_52, x110_53, x110_54, x110_55, s110_56, x110_59, x110_60, x110_64, x110_65, s110_68, s110_69, x110_72, x110_74, x110_76, x110_79, x110_81, x110_82, x110_85, s110_88, s110_89, x110_92, s110_93, s110_94, x110_97, x110_99, x110_100, s110_101, s110_102, x110_103, x110_104, x110_106, x110_107, s110_111, s110_112, x110_115, x110_118, s110_120, s110_121, x110_124, s110_126, s110_127, s110_128, x110_131, x110_133, x110_135, x110_136, x110_137, s110_138, x110_139, x110_140, x110_141, x110_144, x110_145, x110_147, x110_150, s110_153, s110_154, x110_157, x110_158, s110_160, x110_161, x110_164, s110_167, s110_168, s110_169, s110_172, x110_175, x110_176, s110_178, s110_179, x110_182, s110_185, s110_186, x110_189, s110_190, s110_191, x110_194, s110_195, s110_196, s110_197, s110_198, x110_201, s110_202, s110_203, x110_206, s110_207, s110_208, x110_209, x110_212, s110_215, x110_216, x110_217, s110_218, x110_221, h0, hm2, hm3, i3, o3, hI]⟩
    · exact ⟨-3, by simp (disch := (first | assumption | omega | ((repeat (refine mr_FIX_up ?_ (by unfold mr_nst; omega))); assumption))) [x58, s58_0, s58_1, x58_4, s58_7, s58_8, s58_11, s58_12, s58_15, x58_18, x58_21, x58_23, x58_24, x58_25, x58_26, x58_29, x58_30, x58_32, x58_35, x58_36, x58_37, x58_40, x58_41, x58_42, x58_45, x58_47, s58_48, x58_49, s58_50, x58_53, x58_54, x58_55, x58_58, x58_59, s58_60, x58_61, s58_62, s58_65, s58_66, x58_69, x58_70, s58_71, x58_74, x110, s110_0, s110_1, s110_4, s110_5, x110_8, s110_11, s110_12, x110_15, x110_18, x110_19, x110_20, x110_23, x110_24, x110_26, x110_29, x110_30, x110_31, x110_34, x110_35, x110_36, x110_39, x110_41, x110_42, x110_43, s110_45, s110_46, x110_49, s110_52, x110_53, x110_54, x110_55, s110_56, x110_59, x110_60, x110_64, x110_65, s110_68, s110_69, x110_72, x110_74, x110_76, x110_79, x110_81, x110_82, x110_85, s110_88, s110_89, x110_92, s110_93, s110_94, x110_97, x110_99, x110_100, s110_101, s110_102, x110_103, x110_104, x110_106, x110_107, s110_111, s110_112, x110_115, x110_118, s110_120, s110_121, x110_124, s110_126, s110_127, s110_128, x110_131, x110_133, x110_135, x110_136, x110_137, s110_138, x110_139, x110_140, x110_141, x110_144, x110_145, x110_147, x110_150, s110_153, s110_154, x110_157, x110_158, s110_160, x110_161, x110_164, s110_167, s110_168, s110_169, s110_172, x110_175, x110_176, s110_178, s110_179, x110_182, s110_185, s110_186, x110_189, s110_190, s110_191, x110_194, s110_195, s110_196, s110_197, s110_198, x110_201, s110_202, s110_203, x110_206, s110_207, s110_208, x110_209, x110_212, s110_215, x110_216, x110_217, s110_218, x110_221, h0, hm, i3, o3, hI]⟩
  have hm := Decidable.of_not_not hm
  by_cases h0 : M 0 11 = 0
  · have hm2 : M 1 1 = 0 := by omega
    exact ⟨-3, by simp (disch := (first | assumption | omega | ((repeat (refine mr_FIX_up ?_ (by unfold mr_nst; omega))); assumption))) [x58, s58_0, s58_1, x58_4, s58_7, s58_8, s58_11, s58_12, s58_15, x58_18, x58_21, x58_23, x58_24, x58_25, x58_26, x58_29, x58_30, x58_32, x58_35, x58_36, x58_37, x58_40, x58_41, x58_42, x58_45, x58_47, s58_48, x58_49, s58_50, x58_53, x58_54, x58_55, x58_58, x58_59, s58_60, x58_61, s58_62, s58_65, s58_66, x58_69, x58_70, s58_71, x58_74, x110, s110_0, s110_1, s110_4, s110_5, x110_8, s110_11, s110_12, x110_15, x110_18, x110_19, x110_20, x110_23, x110_24, x110_26, x110_29, x110_30, x110_31, x110_34, x110_35, x110_36, x110_39, x110_41, x110_42, x110_43, s110_45, s110_46, x110_49, s110_52, x110_53, x110_54, x110_55, s110_56, x110_59, x110_60, x110_64, x110_65, s110_68, s110_69, x110_72, x110_74, x110_76, x110_79, x110_81, x110_82, x110_85, s110_88, s110_89, x110_92, s110_93, s110_94, x110_97, x110_99, x110_100, s110_101, s110_102, x110_103, x110_104, x110_106, x110_107, s110_111, s110_112, x110_115, x110_118, s110_120, s110_121, x110_124, s110_126, s110_127, s110_128, x110_131, x110_133, x110_135, x110_136, x110_137, s110_138, x110_139, x110_140, x110_141, x110_144, x110_145, x110_147, x110_150, s110_153, s110_154, x110_157, x110_158, s110_160, x110_161, x110_164, s110_167, s110_168, s110_169, s110_172, x110_175, x110_176, s110_178, s110_179, x110_182, s110_185, s110_186, x110_189, s110_190, s110_191, x110_194, s110_195, s110_196, s110_197, s110_198, x110_201, s110_202, s110_203, x110_206, s110_207, s110_208, x110_209, x110_212, s110_215, x110_216, x110_217, s110_218, x110_221, h0, hm2, i3, o3, hI]⟩
  have hm2 : ¬ M 1 1 = 0 := by omega
  by_cases k1 : n < 1
  · exact ⟨-3, by simp (disch := (first | assumption | omega | ((repeat (refine mr_FIX_up ?_ (by unfold mr_nst; omega))); assumption))) [x58, s58_0, s58_1, x58_4, s58_7, s58_8, s58_11, s58_12, s58_15, x58_18, x58_21, x58_23, x58_24, x58_25, x58_26, x58_29, x58_30, x58_32, x58_35, x58_36, x58_37, x58_40, x58_41, x58_42, x58_45, x58_47, s58_48, x58_49, s58_50, x58_53, x58_54, x58_55, x58_58, x58_59, s58_60, x58_61, s58_62, s58_65, s58_66, x58_69, x58_70, s58_71, x58_74, x110, s110_0, s110_1, s110_4, s110_5, x110_8, s110_11, s110_12, x110_15, x110_18, x110_19, x110_20, x110_23, x110_24, x110_26, x110_29, x110_30, x110_31, x110_34, x110_35, x110_36, x110_39, x110_41, x110_42, x110_43, s110_45, s110_46, x110_49, s110_52, x110_53, x110_54, x110_55, s110_56, x110_59, x110_60, x110_64, x110_65, s110_68, s110_69, x110_72, x110_74, x110_76, x110_79, x110_81, x110_82, x110_85, s110_88, s110_89, x110_92, s110_93, s110_94, x110_97, x110_99, x110_100, s110_101, s110_102, x110_103, x110_104, x110_106, x110_107, s110_111, s110_112, x110_115, x110_118, s110_120, s110_121, x110_124, s110_126, s110_127, s110_128, x110_131, x110_133, x110_135, x110_136, x110_137, s110_138, x110_139, x110_140, x110_141, x110_144, x110_145, x110_147, x110_150, s110_153, s110_154, x110_157, x110_158, s110_160, x110_161, x110_164, s110_167, s110_168, s110_169, s110_172, x110_175, x110_176, s110_178, s110_179, x110_182, s110_185, s110_186, x110_189, s110_190, s110_191, x110_194, s110_195, s110_196, s110_197, s110_198, x110_201, s110_202, s110_203, x110_206, s110_207, s110_208, x110_209, x110_212, s110_215, x110_216, x110_217, s110_218, x110_221, hm, hm2, k1, i3, o3, hI]⟩
  by_cases k2 : 20 < n
  · exact ⟨-3, by simp (disch := (first | assumption | omega | ((repeat (refine mr_FIX_up ?_ (by unfold mr_nst; omega))); assumption))) [x58, s58_0, s58_1, x58_4, s58_7, s58_8, s58_11, s58_12, s58_15, x58_18, x58_21, x58_23, x58_24, x58_25, x58_26, x58_29, x58_30, x58_32, x58_35, x58_36, x58_37, x58_40, x58_41, x58_42, x58_45, x58_47, s58_48, x58_49, s58_50, x58_53, x58_54, x58_55, x58_58, x58_59, s58_60, x58_61, s58_62, s58_65, s58_66, x58_69, x58_70, s58_71, x58_74, x110, s110_0, s110_1, s110_4, s110_5, x110_8, s110_11, s110_12, x110_15, x110_18, x110_19, x110_20, x110_23, x110_24, x110_26, x110_29, x110_30, x110_31, x110_34, x110_35, x110_36, x110_39, x110_41, x110_42, x110_43, s110_45, s110_46, x110_49, s110_52, x110_53, x110_54, x110_55, s110_56, x110_59, x110_60, x110_64, x110_65, s110_68, s110_69, x110_72, x110_74, x110_76, x110_79, x110_81, x110_82, x110_85, s110_88, s110_89, x110_92, s110_93, s110_94, x110_97, x110_99, x110_100, s110_101, s110_102, x110_103, x110_104, x110_106, x110_107, s110_111, s110_112, x110_115, x110_118, s110_120, s110_121, x110_124, s110_126, s110_127, s110_128, x110_131, x110_133, x110_135, x110_136, x110_137, s110_138, x110_139, x110_140, x110_141, x110_144, x110_145, x110_147, x110_150, s110_153, s110_154, x110_157, x110_158, s110_160, x110_161, x110_164, s110_167, s110_168, s110_169, s110_172, x110_175, x110_176, s110_178, s110_179, x110_182, s110_185, s110_186, x110_189, s110_190, s110_191, x110_194, s110_195, s110_196, s110_197, s110_198, x110_201, s110_202, s110_203, x110_206, s110_207, s110_208, x110_209, x110_212, s110_215, x110_216, x110_217, s110_218, x110_221, hm, hm2, k1, k2, i3, o3, hI]⟩
  by_cases k3 : s < 1
  · exact ⟨-3, by simp (disch := (first | assumption | omega | ((repeat (refine mr_FIX_up ?_ (by unfold mr_nst; omega))); assumption))) [x58, s58_0, s58_1, x58_4, s58_7, s58_8, s58_11, s58_12, s58_15, x58_18, x58_21, x58_23, x58_24, x58_25, x58_26, x58_29, x58_30, x58_32, x58_35, x58_36, x58_37, x58_40, x58_41, x58_42, x58_45, x58_47, s58_48, x58_49, s58_50, x58_53, x58_54, x58_55, x58_58, x58_59, s58_60, x58_61, s58_62, s58_65, s58_66, x58_69, x58_70, s58_71, x58_74, x110, s110_0, s110_1, s110_4, s110_5, x110_8, s110_11, s110_12, x110_15, x110_18, x110_19, x110_20, x110_23, x110_24, x110_26, x110_29, x110_30, x110_31, x110_34, x110_35, x110_36, x110_39, x110_41, x110_42, x110_43, s110_45, s110_46, x110_49, s110_52, x110_53, x110_54, x110_55, s110_56, x110_59, x110_60, x110_64, x110_65, s110_68, s110_69, x110_72, x110_74, x110_76, x110_79, x110_81, x110_82, x110_85, s110_88, s110_89, x110_92, s110_93, s110_94, x110_97, x110_99, x110_100, s110_101, s110_102, x110_103, x110_104, x110_106, x110_107, s110_111, s110_112, x110_115, x110_118, s110_120, s110_121, x110_124, s110_126, s110_127, s110_128, x110_131, x110_133, x110_135, x110_136, x110_137, s110_138, x110_139, x110_140, x110_141, x110_144, x110_145, x110_147, x110_150, s110_153, s110_154, x110_157, x110_158, s110_160, x110_161, x110_164, s110_167, s110_168, s110_169, s110_172, x110_175, x110_176, s110_178, s110_179, x110_182, s110_185, s110_186, x110_189, s110_190, s110_191, x110_194, s110_195, s110_196, s110_197, s110_198, x110_201, s110_202, s110_203, x110_206, s110_207, s110_208, x110_209, x110_212, s110_215, x110_216, x110_217, s110_218, x110_221, hm, hm2, k1, k2, k3, i3, o3, hI]⟩
  by_cases k4 : ¬ s ≤ 5
  · exact ⟨-3, by simp (disch := (first | assumption | omega | ((repeat (refine mr_FIX_up ?_ (by unfold mr_nst; omega))); assumption))) [x58, s58_0, s58_1, x58_4, s58_7, s58_8, s58_11, s58_12, s58_15, x58_18, x58_21, x58_23, x58_24, x58_25, x58_26, x58_29, x58_30, x58_32, x58_35, x58_36, x58_37, x58_40, x58_41, x58_42, x58_45, x58_47, s58_48, x58_49, s58_50, x58_53, x58_54, x58_55, x58_58, x58_59, s58_60, x58_61, s58_62, s58_65, s58_66, x58_69, x58_70, s58_71, x58_74, x110, s110_0, s110_1, s110_4, s110_5, x110_8, s110_11, s110_12, x110_15, x110_18, x110_19, x110_20, x110_23, x110_24, x110_26, x110_29, x110_30, x110_31, x110_34, x110_35, x110_36, x110_39, x110_41, x110_42, x110_43, s110_45, s110_46, x110_49, s110_52, x110_53, x110_54, x110_55, s110_56, x110_59, x110_60, x110_64, x110_65, s110_68, s110_69, x110_72, x110_74, x110_76, x110_79, x110_81, x110_82, x110_85, s110_88, s110_89, x110_92, s110_93, s110_94, x110_97, x110_99, x110_100, s110_101, s110_102, x110_103, x110_104, x110_106, x110_107, s110_111, s110_112, x110_115, x110_118, s110_120, s110_121, x110_124, s110_126, s110_127, s110_128, x110_131, x110_133, x110_135, x110_136, x110_137, s110_138, x110_139, x110_140, x110_141, x110_144, x110_145, x110_147, x110_150, s110_153, s110_154, x110_157, x110_158, s110_160, x110_161, x110_164, s110_167, s110_168, s110_169, s110_172, x110_175, x110_176, s110_178, s110_179, x110_182, s110_185, s110_186, x110_189, s110_190, s110_191, x110_194, s110_195, s110_196, s110_197, s110_198, x110_201, s110_202, s110_203, x110_206, s110_207, s110_208, x110_209, x110_212, s110_215, x110_216, x110_217, s110_218, x110_221, hm, hm2, k1, k2, k3, k4, i3, o3, hI]⟩
  have k4 := Decidable.of_not_not k4
  obtain ⟨r1, sh1, S, hrun, t, r, rfl, rfl, hG, ht, hz⟩ := mz_cls hI hm h0 (n := n) (s := s) (by omega) (by omega) (by omega) k4
  have hfr2 : mz_fr mz_p2 M S ∧ mr_FIX S := by
    by_cases z : t = 0
    · exact ⟨(hz z).2.1, (hz z).2.2.1⟩
    · exact ⟨mz_fr_i (ht z).2.2 (fun c k h => by unfold mz_p1 at h; unfold mz_p2; omega), (ht z).2.1.1⟩
  have s2 : ∀ x, S (-2) x = M (-2) x := fun x => hfr2.1.1 (-2) x (by decide) (by unfold mz_p2; omega)
  have hS : ∀ c k, 80 ≤ c → S c k = M c k := fun c k h => hfr2.1.1 c k (by omega) (by unfold mz_p2; omega)
  refine ⟨r, some (0, r), mr_SH, S, hrun, rfl, rfl, s2, ?_⟩
  refine mm_march hI hm h0 hfr2.2 hS (by omega) (by omega) (by omega) k4 (fun S2 t' hf hG' ht' => ?_) (fun S2 hF2 hf hG' h22 hv => ?_)
  · obtain rfl := mz_G_u hG hG'
    refine ⟨by rw [(ht ht').1], rfl, fun x => (hf (-2) x (by unfold mz_pn; decide)).trans (s2 x), ?_⟩
    exact mr_keep95 (ht ht').2.1 (p := mz_pn) hf (fun c hc => ⟨by unfold mz_pn at hc; unfold mr_scr; omega, by unfold mz_pn at hc; omega⟩)
  · obtain rfl := mz_G_u hG hG'
    refine ⟨by rw [(hz rfl).1], rfl, fun x => (hf (-2) x (by unfold mz_pe; omega)).trans (s2 x), mz_fin hI hm (hz rfl).2 hF2 hf h22 hv⟩
