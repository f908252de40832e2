/-! reverse -/
set_option maxHeartbeats 1000000 in
theorem mm_entry {M : ma_M} (hI : mr_INV M) {i j : Int} (c1 : 0 ≤ i) (c2 : i < M 0 11) (c3 : 0 ≤ j) (c4 : j < M 1 1) {Q : Option ma_V → ma_S → ma_M → Prop} (cont : ∀ M2 : ma_M, (∀ c i, ¬ (90 ≤ c ∧ c ≤ 94) → M2 c i = M c i) → Q (some (0, mt_c (mt_V M (mt_L (M 50) (mt_e j (-1)))) (M 54 i) 1)) mr_SH M2) : mr_do 97 [(2, 80), (0, i), (0, j)] mr_SH M Q := by
  have hF := hI.1
  have o3 : M 80 9 = M 0 11 := hI.2.1.2.2.2.2
  have i3 : M 80 5 = M 1 1 := hI.2.1.2.1.2.2
  have d1 : ¬ i < 0 := by omega
  have d2 : ¬ M 0 11 ≤ i := by omega
  have d3 : ¬ j < 0 := by omega
  have d4 : ¬ M 1 1 ≤ j := by omega
  simp (disch := (first | assumption | omega | ((repeat (refine mr_FIX_up ?_ (by unfold mr_nst; omega))); assumption))) [x97, s97_0, x97_1, s97_2, x97_5, s97_8, x97_9, s97_10, x97_13, x97_16, x97_18, s97_19, x97_20, x97_21, x97_22, s97_23, x76, x76_0, x76_1, x76_4, s76_5, s76_6, x76_9, x76_12, x76_13, x76_16, x76_17, x75, x75_0, x75_1, x75_4, s75_5, s75_6, x75_9, x75_12, x75_13, x75_16, x75_17, o3, i3, d1, d2, d3, d4]
  refine mr_do_mono (mm_inp hI (i := i) (j := j) (l := -1) (k := 1) c1 c2 (by decide) (by decide) (Q := mt_int Q) (fun M2 hf2 => ⟨_, rfl, cont M2 hf2⟩)) ?_
  rintro _ _ M2 ⟨rfl, rfl, h⟩
  simp only [Option.toList_some, Option.toList_none, List.cons_append, List.nil_append]
  simp (disch := (first | assumption | omega | ((repeat (refine mr_FIX_up ?_ (by unfold mr_nst; omega))); assumption))) only [s97_26, x97_27, x97_28, s97_29]
  refine mr_do_mono h ?_
  rintro _ sh M3 ⟨x, rfl, hx⟩
  simp only [Option.toList_some, Option.toList_none, List.cons_append, List.nil_append]
  simp (disch := (first | assumption | omega | ((repeat (refine mr_FIX_up ?_ (by unfold mr_nst; omega))); assumption))) only [x97_32]
  exact hx
def mw_G (M : ma_M) (V : Int → Int → Int) (g t n : Int) : Prop := (g = 1 ∧ mw_E M V 1 t n) ∨ (g = 0 ∧ ¬ mw_E M V 1 t n)
theorem mw_G_s {M : ma_M} {V : Int → Int → Int} {g t n : Int} (n0 : 0 ≤ n) (h : mw_G M V g t n) : (g = 1 → mw_G M V 1 t (n + 1)) ∧ (g = 0 → (M 55 n ≠ 0 ∧ mx_st V (M 54 n) = t) → mw_G M V 1 t (n + 1)) ∧ (g = 0 → ¬ (M 55 n ≠ 0 ∧ mx_st V (M 54 n) = t) → mw_G M V 0 t (n + 1)) := by
  unfold mw_G at h ⊢
  rw [mw_E_s n0]
  refine ⟨fun z => ?_, fun z w => Or.inl ⟨rfl, Or.inr ⟨Or.inr w.1, w.2⟩⟩, fun z w => ?_⟩
  · rcases h with ⟨_, h⟩ | ⟨h, _⟩
    · exact Or.inl ⟨rfl, Or.inl h⟩
    · rw [z] at h; exact absurd h (by decide)
  · rcases h with ⟨h, _⟩ | ⟨_, h⟩
    · rw [z] at h; exact absurd h (by decide)
    · refine Or.inr ⟨rfl, fun q => q.elim h (fun q => w ⟨?_, q.2⟩)⟩
      rcases q.1 with q | q
      · exact absurd q (by decide)
      · exact q
set_option maxHeartbeats 4000000 in
theorem mm_revl {M : ma_M} (hI : mr_INV M) {j : Int} (c3 : 0 ≤ j) (c4 : j < M 1 1) {V : Int → Int → Int} (hV : V = mt_V M (mt_L (M 50) (mt_e j (-1)))) {Q : Option ma_V → ma_S → ma_M → Prop} (cont : ∀ (M2 : ma_M) (t : Int), (∀ c i, ¬ (90 ≤ c ∧ c ≤ 94) → M2 c i = M c i) → mw_W M V 1 t (M 0 11) → (t ≠ 0 → Q (some (0, t)) mr_SH M2) ∧ (t = 0 → Q (some (0, ms_s (fun i => M 55 i * V (M 54 i) 1) (M 0 11).toNat % 65521)) mr_SH M2)) : ∀ (m : Nat) (i s bent gap z : Int) (a7 : ma_V) (M1 : ma_M), (M 0 11 - i).toNat < m → 0 ≤ i → i ≤ M 0 11 → (∀ c i, ¬ (90 ≤ c ∧ c ≤ 94) → M1 c i = M c i) → 0 ≤ s → s < 65521 → mw_G M V gap (-1) i → mw_G M V bent (-2) i → (gap = 0 → bent = 0 → s = ms_s (fun i => M 55 i * V (M 54 i) 1) i.toNat % 65521) → ma_wp 98 22 [(2, 80), (0, j), (1, s), (3, z), (0, bent), (0, gap), (0, i), a7] [] mr_SH M1 Q := by
  have hN : M 1 0 ≤ 24 := hI.2.1.1.2.1
  have hO : M 0 11 ≤ 5 := hI.2.1.2.2.2.1
  have o3 : M 80 9 = M 0 11 := hI.2.1.2.2.2.2
  have hnum := hI.2.2.2.2.2.1
  have hout := hI.2.2.2.2.2.2.1
  have hLb : mt_Lb M (mt_L (M 50) (mt_e j (-1))) := mt_L_b (mr_pt1 hI 50 (by omega)) (fun u _ _ => mt_e_b _ _ u)
  intro m
  induction m with
  | zero => intro i s bent gap z a7 M1 h; omega
  | succ m ih =>
    intro i s bent gap z a7 M1 hm h0 h1 hf s0 s1 hg hb hs
    have hI1 := mr_k90 hI hf
    have hF1 := hI1.1
    have e9 : M1 80 9 = M 0 11 := (hf 80 9 (by decide)).trans o3
    simp (disch := (first | assumption | omega | ((repeat (refine mr_FIX_up ?_ (by unfold mr_nst; omega))); assumption))) only [x98_22, s98_24, s98_25, x98_28, e9]
    refine ⟨fun h => ?_, fun h => ?_⟩
    · obtain rfl : i = M 0 11 := by omega
      rcases hg with ⟨rfl, hg⟩ | ⟨rfl, hg⟩
      · simp (disch := (first | assumption | omega | ((repeat (refine mr_FIX_up ?_ (by unfold mr_nst; omega))); assumption))) [x98_126, x98_128, x98_131, x98_132, x98_135, x98_137, x98_140, x98_142, x98_145, x98_146, x98_147]
        exact (cont M1 (-1) hf (Or.inl ⟨rfl, hg⟩)).1 (by decide)
      · rcases hb with ⟨rfl, hb⟩ | ⟨rfl, hb⟩
        · simp (disch := (first | assumption | omega | ((repeat (refine mr_FIX_up ?_ (by unfold mr_nst; omega))); assumption))) [x98_126, x98_128, x98_131, x98_132, x98_135, x98_137, x98_140, x98_142, x98_145, x98_146, x98_147]
          exact (cont M1 (-2) hf (Or.inr (Or.inl ⟨rfl, hg, hb⟩))).1 (by decide)
        · simp (disch := (first | assumption | omega | ((repeat (refine mr_FIX_up ?_ (by unfold mr_nst; omega))); assumption))) [x98_126, x98_128, x98_131, x98_132, x98_135, x98_137, x98_140, x98_142, x98_145, x98_146, x98_147, ma_32i]
          rw [hs rfl rfl]
          exact (cont M1 0 hf (Or.inr (Or.inr ⟨rfl, hg, hb⟩))).2 rfl
    · have i5 : 0 ≤ i ∧ i < 5 := by omega
      have ho := hout i h0 (by omega)
      have hw := (hnum i h0 (by omega)).2.2
      have e89 : M1 89 i = M 55 i := (hf 89 i (by decide)).trans hw.1
      have bV := mt_V_b hI hLb 25 (M 54 i) (by omega) ho.2.1 ho.2.2
      rw [← hV] at bV
      have b1 := bV.1 1 (by decide) (by decide)
      have es : (i + 1).toNat = i.toNat + 1 := by omega
      have ei : ((i.toNat : Nat) : Int) = i := by omega
      -- from the value d of the entry on
      have go : ∀ (M2 : ma_M) (d : Int), (∀ c i, ¬ (90 ≤ c ∧ c ≤ 94) → M2 c i = M c i) → ((M 55 i = 0 ∧ d = 0) ∨ (M 55 i ≠ 0 ∧ d = mt_c V (M 54 i) 1)) → ma_wp 98 54 [(2, 80), (0, j), (1, s), (3, z), (0, bent), (0, gap), (0, i), a7] [(0, d)] mr_SH M2 Q := by
        intro M2 d hf2 hd
        have hI2 := mr_k90 hI hf2
        have hF2 := hI2.1
        have e89 : M2 89 i = M 55 i := (hf2 89 i (by decide)).trans hw.1
        have tail : ∀ (s' b' g' : Int), 0 ≤ s' → s' < 65521 → mw_G M V g' (-1) (i + 1) → mw_G M V b' (-2) (i + 1) → (g' = 0 → b' = 0 → s' = ms_s (fun i => M 55 i * V (M 54 i) 1) (i + 1).toNat % 65521) → ma_wp 98 22 [(2, 80), (0, j), (1, s'), (3, 0), (0, b'), (0, g'), (0, i + 1), (0, d)] [] mr_SH M2 Q := fun s' b' g' x1 x2 x3 x4 x5 => ih (i + 1) s' b' g' 0 _ M2 (by omega) (by omega) (by omega) hf2 x1 x2 x3 x4 x5
        have gs := mw_G_s h0 hg
        have bs := mw_G_s h0 hb
        have dst : (M 55 i ≠ 0 ∧ mx_st V (M 54 i) = -1 ∧ d = -1) ∨ (M 55 i ≠ 0 ∧ mx_st V (M 54 i) = -2 ∧ d = -2) ∨ (¬ (M 55 i ≠ 0 ∧ mx_st V (M 54 i) = -1) ∧ ¬ (M 55 i ≠ 0 ∧ mx_st V (M 54 i) = -2) ∧ 0 ≤ d ∧ d < 65521 ∧ M 55 i * d = M 55 i * V (M 54 i) 1) := by
          rcases hd with ⟨w0, rfl⟩ | ⟨w0, hd⟩
          · exact Or.inr (Or.inr ⟨fun z => z.1 w0, fun z => z.1 w0, by decide, by decide, by rw [w0, Int.zero_mul, Int.zero_mul]⟩)
          · rcases mt_c_st (k := 1) bV.2.1 bV.2.2 with ⟨q0, _, _, q1⟩ | ⟨q0, q1, q2⟩
            · rw [q1] at hd
              exact Or.inr (Or.inr ⟨fun z => by rw [q0] at z; exact absurd z.2 (by decide), fun z => by rw [q0] at z; exact absurd z.2 (by decide), by rw [hd]; exact b1.1, by rw [hd]; exact b1.2, by rw [hd]⟩)
            · rw [q1] at hd
              rcases q2 with q2 | q2
              · exact Or.inl ⟨w0, q2, hd.trans q2⟩
              · exact Or.inr (Or.inl ⟨w0, q2, hd.trans q2⟩)
        rcases dst with ⟨w0, q, rfl⟩ | ⟨w0, q, rfl⟩ | ⟨q1, q2, d0, d1, dm⟩
        · -- undefined
          have g1 : mw_G M V 1 (-1) (i + 1) := by
            rcases hg with ⟨g, _⟩ | ⟨g, _⟩
            · exact gs.1 g
            · exact gs.2.1 g ⟨w0, q⟩
          have nb : ¬ (M 55 i ≠ 0 ∧ mx_st V (M 54 i) = -2) := fun z => by rw [q] at z; exact absurd z.2 (by decide)
          rcases hb with ⟨rfl, _⟩ | ⟨rfl, _⟩
          · simp (disch := (first | assumption | omega | ((repeat (refine mr_FIX_up ?_ (by unfold mr_nst; omega))); assumption))) [x98_54, x98_56, x98_58, x98_61, x98_63, x98_64, x98_67, x98_68, x98_71, x98_72, x98_74, x98_76, x98_79, x98_81, x98_83, x98_86, x98_87, x98_90, x98_91, x98_93, x98_95, x98_98, x98_99, x98_102, s98_103, s98_104, x98_107, s98_109, x98_110, x98_112, x98_113, x98_114, x98_115, x98_118, x98_119, x98_120, x98_123, ma_32i]
            have tt := tail s 1 1 s0 s1 g1 (bs.1 rfl) (fun z => absurd z (by decide))
            exact ⟨fun _ => tt, fun _ => tt⟩
          · simp (disch := (first | assumption | omega | ((repeat (refine mr_FIX_up ?_ (by unfold mr_nst; omega))); assumption))) [x98_54, x98_56, x98_58, x98_61, x98_63, x98_64, x98_67, x98_68, x98_71, x98_72, x98_74, x98_76, x98_79, x98_81, x98_83, x98_86, x98_87, x98_90, x98_91, x98_93, x98_95, x98_98, x98_99, x98_102, s98_103, s98_104, x98_107, s98_109, x98_110, x98_112, x98_113, x98_114, x98_115, x98_118, x98_119, x98_120, x98_123, ma_32i]
            have tt := tail s 0 1 s0 s1 g1 (bs.2.2 rfl nb) (fun z => absurd z (by decide))
            exact ⟨fun _ => tt, fun _ => tt⟩
        · -- rough
          have b1' : mw_G M V 1 (-2) (i + 1) := by
            rcases hb with ⟨g, _⟩ | ⟨g, _⟩
            · exact bs.1 g
            · exact bs.2.1 g ⟨w0, q⟩
          have ng : ¬ (M 55 i ≠ 0 ∧ mx_st V (M 54 i) = -1) := fun z => by rw [q] at z; exact absurd z.2 (by decide)
          rcases hg with ⟨rfl, _⟩ | ⟨rfl, _⟩
          · simp (disch := (first | assumption | omega | ((repeat (refine mr_FIX_up ?_ (by unfold mr_nst; omega))); assumption))) [x98_54, x98_56, x98_58, x98_61, x98_63, x98_64, x98_67, x98_68, x98_71, x98_72, x98_74, x98_76, x98_79, x98_81, x98_83, x98_86, x98_87, x98_90, x98_91, x98_93, x98_95, x98_98, x98_99, x98_102, s98_103, s98_104, x98_107, s98_109, x98_110, x98_112, x98_113, x98_114, x98_115, x98_118, x98_119, x98_120, x98_123, ma_32i]
            have tt := tail s 1 1 s0 s1 (gs.1 rfl) b1' (fun z => absurd z (by decide))
            exact ⟨fun _ => tt, fun _ => tt⟩
          · simp (disch := (first | assumption | omega | ((repeat (refine mr_FIX_up ?_ (by unfold mr_nst; omega))); assumption))) [x98_54, x98_56, x98_58, x98_61, x98_63, x98_64, x98_67, x98_68, x98_71, x98_72, x98_74, x98_76, x98_79, x98_81, x98_83, x98_86, x98_87, x98_90, x98_91, x98_93, x98_95, x98_98, x98_99, x98_102, s98_103, s98_104, x98_107, s98_109, x98_110, x98_112, x98_113, x98_114, x98_115, x98_118, x98_119, x98_120, x98_123, ma_32i]
            have tt := tail s 1 0 s0 s1 (gs.2.2 rfl ng) b1' (fun _ z => absurd z (by decide))
            exact ⟨fun _ => tt, fun _ => tt⟩
        · have n1 : ¬ d = -1 := by omega
          have n2 : ¬ d = -2 := by omega
          have m1 := mr_pp hw.2.1 (by omega) d0 (show d ≤ 65521 by omega)
          have fin : ∀ b' g' : Int, (g' = gap ∧ b' = bent) → ma_wp 98 22 [(2, 80), (0, j), (1, (s + M 55 i * d) % 65521), (3, 0), (0, b'), (0, g'), (0, i + 1), (0, d)] [] mr_SH M2 Q := by
            rintro b' g' ⟨rfl, rfl⟩
            refine tail _ _ _ (by omega) (by omega) ?_ ?_ (fun x y => ?_)
            · rcases hg with ⟨g, _⟩ | ⟨g, _⟩
              · rw [g]; exact gs.1 g
              · rw [g]; exact gs.2.2 g q1
            · rcases hb with ⟨g, _⟩ | ⟨g, _⟩
              · rw [g]; exact bs.1 g
              · rw [g]; exact bs.2.2 g q2
            · rw [es, ms_s, hs x y, mt_sm, ei, dm]
          rcases hg with ⟨rfl, _⟩ | ⟨rfl, _⟩ <;> rcases hb with ⟨rfl, _⟩ | ⟨rfl, _⟩
          · simp (disch := (first | assumption | omega | ((repeat (refine mr_FIX_up ?_ (by unfold mr_nst; omega))); assumption))) [x98_54, x98_56, x98_58, x98_61, x98_63, x98_64, x98_67, x98_68, x98_71, x98_72, x98_74, x98_76, x98_79, x98_81, x98_83, x98_86, x98_87, x98_90, x98_91, x98_93, x98_95, x98_98, x98_99, x98_102, s98_103, s98_104, x98_107, s98_109, x98_110, x98_112, x98_113, x98_114, x98_115, x98_118, x98_119, x98_120, x98_123, ma_32i, ma_64i, mr_tm0, d0, e89]
            exact ⟨i5, fin 1 1 ⟨rfl, rfl⟩⟩
          · simp (disch := (first | assumption | omega | ((repeat (refine mr_FIX_up ?_ (by unfold mr_nst; omega))); assumption))) [x98_54, x98_56, x98_58, x98_61, x98_63, x98_64, x98_67, x98_68, x98_71, x98_72, x98_74, x98_76, x98_79, x98_81, x98_83, x98_86, x98_87, x98_90, x98_91, x98_93, x98_95, x98_98, x98_99, x98_102, s98_103, s98_104, x98_107, s98_109, x98_110, x98_112, x98_113, x98_114, x98_115, x98_118, x98_119, x98_120, x98_123, ma_32i, ma_64i, mr_tm0, d0, e89, n2]
            exact ⟨i5, fin 0 1 ⟨rfl, rfl⟩⟩
          · simp (disch := (first | assumption | omega | ((repeat (refine mr_FIX_up ?_ (by unfold mr_nst; omega))); assumption))) [x98_54, x98_56, x98_58, x98_61, x98_63, x98_64, x98_67, x98_68, x98_71, x98_72, x98_74, x98_76, x98_79, x98_81, x98_83, x98_86, x98_87, x98_90, x98_91, x98_93, x98_95, x98_98, x98_99, x98_102, s98_103, s98_104, x98_107, s98_109, x98_110, x98_112, x98_113, x98_114, x98_115, x98_118, x98_119, x98_120, x98_123, ma_32i, ma_64i, mr_tm0, d0, e89, n1]
            exact ⟨i5, fin 1 0 ⟨rfl, rfl⟩⟩
          · simp (disch := (first | assumption | omega | ((repeat (refine mr_FIX_up ?_ (by unfold mr_nst; omega))); assumption))) [x98_54, x98_56, x98_58, x98_61, x98_63, x98_64, x98_67, x98_68, x98_71, x98_72, x98_74, x98_76, x98_79, x98_81, x98_83, x98_86, x98_87, x98_90, x98_91, x98_93, x98_95, x98_98, x98_99, x98_102, s98_103, s98_104, x98_107, s98_109, x98_110, x98_112, x98_113, x98_114, x98_115, x98_118, x98_119, x98_120, x98_123, ma_32i, ma_64i, mr_tm0, d0, e89, n1, n2]
            exact ⟨i5, fin 0 0 ⟨rfl, rfl⟩⟩
      by_cases w0 : M 55 i = 0
      · simp (disch := (first | assumption | omega | ((repeat (refine mr_FIX_up ?_ (by unfold mr_nst; omega))); assumption))) [s98_31, s98_32, x98_35, s98_37, x98_38, x98_39, x98_40, x98_43, x98_44, e89, w0, mm_lc0]
        exact ⟨i5, go M1 0 hf (Or.inl ⟨w0, rfl⟩)⟩
      · simp (disch := (first | assumption | omega | ((repeat (refine mr_FIX_up ?_ (by unfold mr_nst; omega))); assumption))) [s98_31, s98_32, x98_35, s98_37, x98_38, x98_39, x98_40, x98_43, x98_44, s98_47, x98_48, x98_50, s98_51, e89, w0, mm_lc0]
        refine ⟨i5, ?_⟩
        refine mm_entry hI1 h0 (by rw [hf 0 11 (by decide)]; omega) c3 (by rw [hf 1 1 (by decide)]; exact c4) (fun M2 hf2 => ?_)
        have e50 : M1 50 = M 50 := funext (fun x => hf 50 x (by decide))
        have eV : mt_V M1 (mt_L (M1 50) (mt_e j (-1))) = V := by rw [e50, hV]; exact mt_V_M (fun c x hc => hf c x (by omega)) _
        rw [eV, hf 54 i (by decide)]
        simp only [Option.toList_some, Option.toList_none, List.cons_append, List.nil_append]
        exact go M2 _ (fun c x hc => (hf2 c x hc).trans (hf c x hc)) (Or.inr ⟨w0, rfl⟩)
