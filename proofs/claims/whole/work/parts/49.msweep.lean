/-! the reference's sweep -/
theorem mm_lc0 {x y : Int} : ma_lcmp x y = 0 ↔ x = y := by
  unfold ma_lcmp
  split
  · constructor
    · intro h; omega
    · intro h; omega
  · split
    · simp [*]
    · constructor
      · intro h; omega
      · intro h; omega
theorem mm_lclt {x y : Int} : ma_lcmp x y < 0 ↔ x < y := by
  unfold ma_lcmp
  split
  · omega
  · split <;> omega
theorem mm_lcle {x y : Int} : ma_lcmp x y ≤ 0 ↔ x ≤ y := by
  unfold ma_lcmp
  split
  · omega
  · split <;> omega
/-- what a line holds -/
def mt_Lb (M : ma_M) (L : Int → Int → Int) : Prop := ∀ j n, 0 ≤ j → j < M 1 1 → 0 ≤ n → n ≤ 8 → 0 ≤ L j n ∧ L j n < 65521
theorem mt_VE {M : ma_M} (hI : mr_INV M) (L : Int → Int → Int) {v : Int} (h0 : 0 ≤ v) (hv : v < M 1 0) (n : Int) : mt_V M L v n = mt_nv M L (mt_V M L) v n := by
  have hc := hI.2.1
  unfold mr_cnt at hc
  obtain ⟨a, b, c, d, f⟩ := hI.2.2.1 v h0 hv
  refine mt_V_eq h0 (by omega) (fun z => ?_) a.2.2 n
  by_cases h : M 2 v ≤ 5
  · have := b h; omega
  · have := c (by omega); omega
theorem mt_V_b {M : ma_M} (hI : mr_INV M) {L : Int → Int → Int} (hL : mt_Lb M L) : ∀ (m : Nat) (v : Int), v.toNat < m → 0 ≤ v → v < M 1 0 → (∀ n, 0 ≤ n → n ≤ 8 → 0 ≤ mt_V M L v n ∧ mt_V M L v n < 65521) ∧ (mt_V M L v 9 = 0 ∨ mt_V M L v 9 = 1) ∧ (mt_V M L v 10 = 0 ∨ mt_V M L v 10 = 1) := by
  intro m
  induction m with
  | zero => intro v h; omega
  | succ m ih =>
    intro v hm h0 hv
    have hc := hI.2.1
    unfold mr_cnt at hc
    obtain ⟨a, b, c, d, f⟩ := hI.2.2.1 v h0 hv
    simp only [mt_VE hI L h0 hv]
    unfold mt_nv
    by_cases h7 : M 2 v = 7
    · have d := d h7
      refine ⟨fun n n0 n1 => ?_, ?_, ?_⟩
      · rw [if_pos h7, if_pos (by omega)]
        exact hL _ _ d.2.1 d.2.2.1 n0 n1
      · rw [if_pos h7, if_neg (by decide)]; exact Or.inl rfl
      · rw [if_pos h7, if_neg (by decide)]; exact Or.inl rfl
    · by_cases h8 : M 2 v = 8
      · have f := f h8
        refine ⟨fun n n0 n1 => ?_, ?_, ?_⟩
        · rw [if_neg h7, if_pos h8]; split <;> omega
        · rw [if_neg h7, if_pos h8, if_neg (by decide)]; exact Or.inl rfl
        · rw [if_neg h7, if_pos h8, if_neg (by decide)]; exact Or.inl rfl
      · have ab : 0 ≤ M 3 v ∧ M 3 v < v ∧ 0 ≤ M 4 v ∧ M 4 v < v := by
          by_cases h : M 2 v ≤ 5
          · have := b h; omega
          · have := c (by omega); omega
        have ih1 := ih (M 3 v) (by omega) (by omega) (by omega)
        have ih2 := ih (M 4 v) (by omega) (by omega) (by omega)
        by_cases hU : mt_V M L (M 3 v) 9 = 1 ∨ mt_V M L (M 4 v) 9 = 1 ∨ (M 2 v = 3 ∧ mt_V M L (M 4 v) 0 = 0)
        · refine ⟨fun n n0 n1 => ?_, ?_, ?_⟩
          · rw [if_neg h7, if_neg h8, if_pos hU, if_neg (by omega)]; decide
          · rw [if_neg h7, if_neg h8, if_pos hU, if_pos rfl]; exact Or.inr rfl
          · rw [if_neg h7, if_neg h8, if_pos hU, if_neg (by decide)]; exact Or.inl rfl
        · refine ⟨fun n n0 n1 => ?_, ?_, ?_⟩
          · rw [if_neg h7, if_neg h8, if_neg hU, if_neg (by omega), if_neg (by omega)]
            exact mt_op_b n0 (by omega) (ih1.1 n n0 n1) (ih2.1 n n0 n1)
          · rw [if_neg h7, if_neg h8, if_neg hU, if_pos rfl]; exact Or.inl rfl
          · rw [if_neg h7, if_neg h8, if_neg hU, if_neg (by decide), if_pos rfl]
            split
            · exact Or.inr rfl
            · exact Or.inl rfl
def mm_ag (M1 : ma_M) (V : Int → Int → Int) (u : Int) : Prop := (∀ n, 0 ≤ n → n ≤ 8 → M1 91 (9 * u + n) = V u n) ∧ M1 93 u = V u 9 ∧ M1 94 u = V u 10
def mm_fw (M M2 : ma_M) (v : Int) : Prop := (∀ c k, c ≠ 91 → c ≠ 92 → c ≠ 93 → c ≠ 94 → M2 c k = M c k) ∧ (∀ k, ¬ (9 * v ≤ k ∧ k < 9 * v + 9) → M2 91 k = M 91 k) ∧ ∀ u, u ≠ v → M2 93 u = M 93 u ∧ M2 94 u = M 94 u
theorem mm_fw_F {M M2 : ma_M} {v : Int} (hF : mr_FIX M) (h : mm_fw M M2 v) : mr_FIX M2 := md_fr hF (p := fun c => c = 91 ∨ c = 92 ∨ c = 93 ∨ c = 94) (fun c k hc => h.1 c k (by omega) (by omega) (by omega) (by omega)) (fun c hc => by omega)
theorem mm_fw_r {M M2 M3 : ma_M} {v : Int} (h : mm_fw M M2 v) (h2 : mm_fr M2 M3 v) : mm_fw M M3 v := ⟨fun c k h1 h3 h4 h5 => (h2.1 c k h1 h3).trans (h.1 c k h1 h3 h4 h5), fun k hk => (h2.2 k hk).trans (h.2.1 k hk), fun u hu => ⟨(h2.1 93 u (by decide) (by decide)).trans (h.2.2 u hu).1, (h2.1 94 u (by decide) (by decide)).trans (h.2.2 u hu).2⟩⟩
theorem mm_ag_fw {M M2 : ma_M} {V : Int → Int → Int} {v u : Int} (h : mm_fw M M2 v) (hu : u ≠ v) (ha : mm_ag M V u) : mm_ag M2 V u := ⟨fun n n0 n1 => (h.2.1 _ (by omega)).trans (ha.1 n n0 n1), (h.2.2 u hu).1.trans ha.2.1, (h.2.2 u hu).2.trans ha.2.2⟩
theorem mm_fw_up93 {M M2 : ma_M} {v x : Int} (h : mm_fw M M2 v) : mm_fw M (ma_up M2 93 v x) v := ⟨fun c k h1 h3 h4 h5 => (ma_up_ne h4).trans (h.1 c k h1 h3 h4 h5), fun k hk => (ma_up_ne (by decide)).trans (h.2.1 k hk), fun u hu => ⟨(ma_up_ne2 hu).trans (h.2.2 u hu).1, (ma_up_ne (by decide)).trans (h.2.2 u hu).2⟩⟩
theorem mm_fw_up94 {M M2 : ma_M} {v x : Int} (h : mm_fw M M2 v) : mm_fw M (ma_up M2 94 v x) v := ⟨fun c k h1 h3 h4 h5 => (ma_up_ne h5).trans (h.1 c k h1 h3 h4 h5), fun k hk => (ma_up_ne (by decide)).trans (h.2.1 k hk), fun u hu => ⟨(ma_up_ne (by decide)).trans (h.2.2 u hu).1, (ma_up_ne2 hu).trans (h.2.2 u hu).2⟩⟩
theorem mm_fw_0 (M : ma_M) (v : Int) : mm_fw M M v := ⟨fun _ _ _ _ _ _ => rfl, fun _ _ => rfl, fun _ _ => ⟨rfl, rfl⟩⟩
/-- the flag undefined -/
theorem mm_wA {M1 : ma_M} (hF1 : mr_FIX M1) {v k a b : Int} (v0 : 0 ≤ v) (v1 : v < 24) (a0 : 0 ≤ a) (a1 : a < 24) (b0 : 0 ≤ b) (b1 : b < 24) (ha : M1 93 a = 0 ∨ M1 93 a = 1) (hb : M1 93 b = 0 ∨ M1 93 b = 1) {Q : Option ma_V → ma_S → ma_M → Prop} (cont : ∀ U : Int, (U = 1 ∧ (M1 93 a = 1 ∨ M1 93 b = 1 ∨ (k = 3 ∧ M1 91 (9 * b) = 0))) ∨ (U = 0 ∧ ¬ (M1 93 a = 1 ∨ M1 93 b = 1 ∨ (k = 3 ∧ M1 91 (9 * b) = 0))) → ma_wp 91 82 [(2, 80), (0, v), (0, k), (0, a), (0, b), (3, 0), (3, 0), (3, 0), (3, 0), (3, 0), (3, 0)] [] mr_SH (ma_up M1 93 v U) Q) : ma_wp 91 32 [(2, 80), (0, v), (0, k), (0, a), (0, b), (3, 0), (3, 0), (3, 0), (3, 0), (3, 0), (3, 0)] [] mr_SH M1 Q := by
  rcases ha with ha | ha
  · rcases hb with hb | hb
    · by_cases h3 : k = 3
      · by_cases h4 : M1 91 (9 * b) = 0
        · simp (disch := (first | assumption | omega | ((repeat (refine mr_FIX_up ?_ (by unfold mr_nst; omega))); assumption))) [s91_32, s91_33, x91_36, s91_37, s91_38, x91_41, s91_42, x91_43, s91_46, s91_47, x91_50, s91_52, x91_53, x91_56, x91_57, x91_58, s91_61, s91_62, x91_65, x91_67, x91_69, s91_70, x91_71, x91_72, x91_73, x91_76, x91_77, x91_80, s91_81, ma_32i, mm_lc0, ha, hb, h3, h4]
          have := cont 1 (Or.inl ⟨rfl, Or.inr (Or.inr ⟨h3, h4⟩)⟩)
          rw [h3] at this
          exact ⟨by omega, by omega, by omega, by omega, this⟩
        · simp (disch := (first | assumption | omega | ((repeat (refine mr_FIX_up ?_ (by unfold mr_nst; omega))); assumption))) [s91_32, s91_33, x91_36, s91_37, s91_38, x91_41, s91_42, x91_43, s91_46, s91_47, x91_50, s91_52, x91_53, x91_56, x91_57, x91_58, s91_61, s91_62, x91_65, x91_67, x91_69, s91_70, x91_71, x91_72, x91_73, x91_76, x91_77, x91_80, s91_81, ma_32i, mm_lc0, ha, hb, h3, h4]
          have := cont 0 (Or.inr ⟨rfl, fun z => by omega⟩)
          rw [h3] at this
          exact ⟨by omega, by omega, by omega, by omega, this⟩
      · simp (disch := (first | assumption | omega | ((repeat (refine mr_FIX_up ?_ (by unfold mr_nst; omega))); assumption))) [s91_32, s91_33, x91_36, s91_37, s91_38, x91_41, s91_42, x91_43, s91_46, s91_47, x91_50, s91_52, x91_53, x91_56, x91_57, x91_58, s91_61, s91_62, x91_65, x91_67, x91_69, s91_70, x91_71, x91_72, x91_73, x91_76, x91_77, x91_80, s91_81, ma_32i, mm_lc0, ha, hb, h3]
        exact ⟨by omega, by omega, by omega, cont 0 (Or.inr ⟨rfl, fun z => by omega⟩)⟩
    · simp (disch := (first | assumption | omega | ((repeat (refine mr_FIX_up ?_ (by unfold mr_nst; omega))); assumption))) [s91_32, s91_33, x91_36, s91_37, s91_38, x91_41, s91_42, x91_43, s91_46, s91_47, x91_50, s91_52, x91_53, x91_56, x91_57, x91_58, s91_61, s91_62, x91_65, x91_67, x91_69, s91_70, x91_71, x91_72, x91_73, x91_76, x91_77, x91_80, s91_81, ma_32i, mm_lc0, ha, hb]
      exact ⟨by omega, by omega, by omega, cont 1 (Or.inl ⟨rfl, by omega⟩)⟩
  · simp (disch := (first | assumption | omega | ((repeat (refine mr_FIX_up ?_ (by unfold mr_nst; omega))); assumption))) [s91_32, s91_33, x91_36, s91_37, s91_38, x91_41, s91_42, x91_43, s91_46, s91_47, x91_50, s91_52, x91_53, x91_56, x91_57, x91_58, s91_61, s91_62, x91_65, x91_67, x91_69, s91_70, x91_71, x91_72, x91_73, x91_76, x91_77, x91_80, s91_81, ma_32i, mm_lc0, ha]
    exact ⟨by omega, by omega, cont 1 (Or.inl ⟨rfl, by omega⟩)⟩
theorem mm_rb_ag {M1 : ma_M} {V : Int → Int → Int} {u : Int} (h : mm_ag M1 V u) (hb : ∀ n, 0 ≤ n → n ≤ 8 → 0 ≤ V u n ∧ V u n < 65521) : mm_rb M1 u := fun i i0 i1 => by
  rw [h.1 i i0 i1]
  exact hb i i0 i1
/-- the flag rough -/
theorem mm_wC {M1 : ma_M} (hF1 : mr_FIX M1) {v k a b : Int} (v0 : 0 ≤ v) (v1 : v < 24) (a0 : 0 ≤ a) (a1 : a < 24) (b0 : 0 ≤ b) (b1 : b < 24) (ha : M1 94 a = 0 ∨ M1 94 a = 1) (hb : M1 94 b = 0 ∨ M1 94 b = 1) {Q : Option ma_V → ma_S → ma_M → Prop} (cont : ∀ ch R : Int, ((ch = 1 ∧ (k = 4 ∨ k = 5)) ∨ (ch = 0 ∧ ¬ (k = 4 ∨ k = 5))) → (R = 1 ∧ (M1 94 a = 1 ∨ M1 94 b = 1 ∨ ((k = 4 ∨ k = 5) ∧ M1 91 (9 * a) = M1 91 (9 * b)))) ∨ (R = 0 ∧ ¬ (M1 94 a = 1 ∨ M1 94 b = 1 ∨ ((k = 4 ∨ k = 5) ∧ M1 91 (9 * a) = M1 91 (9 * b)))) → ma_wp 91 188 [(2, 80), (0, v), (0, k), (0, a), (0, b), (0, ch), (1, M1 91 (9 * a)), (3, 0), (1, M1 91 (9 * b)), (3, 0), (3, 0)] [] mr_SH (ma_up M1 94 v R) Q) : ma_wp 91 105 [(2, 80), (0, v), (0, k), (0, a), (0, b), (3, 0), (3, 0), (3, 0), (3, 0), (3, 0), (3, 0)] [] mr_SH M1 Q := by
  have st : ∀ ch : Int, ((ch = 1 ∧ (k = 4 ∨ k = 5)) ∨ (ch = 0 ∧ ¬ (k = 4 ∨ k = 5))) → ma_wp 91 122 [(2, 80), (0, v), (0, k), (0, a), (0, b), (0, ch), (3, 0), (3, 0), (3, 0), (3, 0), (3, 0)] [] mr_SH M1 Q := by
    intro ch hch
    rcases ha with ha | ha
    · rcases hb with hb | hb
      · rcases hch with ⟨rfl, hk⟩ | ⟨rfl, hk⟩
        · by_cases h4 : M1 91 (9 * a) = M1 91 (9 * b)
          · simp (disch := (first | assumption | omega | ((repeat (refine mr_FIX_up ?_ (by unfold mr_nst; omega))); assumption))) only [s91_122, s91_123, x91_126, x91_128, x91_129, s91_130, x91_131, s91_133, s91_134, x91_137, x91_139, x91_141, s91_142, x91_143, s91_145, s91_146, x91_149, s91_150, s91_151, x91_154, s91_155, x91_156, s91_159, s91_160, x91_163, s91_165, x91_166, x91_169, x91_171, x91_174, x91_176, x91_178, x91_179, x91_182, x91_183, x91_186, s91_187, ma_32i, mm_lc0, ha, hb]
            have := cont 1 1 (Or.inl ⟨rfl, hk⟩) (Or.inl ⟨rfl, Or.inr (Or.inr ⟨hk, h4⟩)⟩)
            simp [h4]
            rw [h4] at this
            exact ⟨by omega, by omega, by omega, by omega, by omega, this⟩
          · have := cont 1 0 (Or.inl ⟨rfl, hk⟩) (Or.inr ⟨rfl, fun z => by omega⟩)
            simp (disch := (first | assumption | omega | ((repeat (refine mr_FIX_up ?_ (by unfold mr_nst; omega))); assumption))) [s91_122, s91_123, x91_126, x91_128, x91_129, s91_130, x91_131, s91_133, s91_134, x91_137, x91_139, x91_141, s91_142, x91_143, s91_145, s91_146, x91_149, s91_150, s91_151, x91_154, s91_155, x91_156, s91_159, s91_160, x91_163, s91_165, x91_166, x91_169, x91_171, x91_174, x91_176, x91_178, x91_179, x91_182, x91_183, x91_186, s91_187, ma_32i, mm_lc0, ha, hb, h4]
            exact ⟨by omega, by omega, by omega, by omega, by omega, this⟩
        · have := cont 0 0 (Or.inr ⟨rfl, hk⟩) (Or.inr ⟨rfl, fun z => by omega⟩)
          simp (disch := (first | assumption | omega | ((repeat (refine mr_FIX_up ?_ (by unfold mr_nst; omega))); assumption))) [s91_122, s91_123, x91_126, x91_128, x91_129, s91_130, x91_131, s91_133, s91_134, x91_137, x91_139, x91_141, s91_142, x91_143, s91_145, s91_146, x91_149, s91_150, s91_151, x91_154, s91_155, x91_156, s91_159, s91_160, x91_163, s91_165, x91_166, x91_169, x91_171, x91_174, x91_176, x91_178, x91_179, x91_182, x91_183, x91_186, s91_187, ma_32i, mm_lc0, ha, hb]
          exact ⟨by omega, by omega, by omega, by omega, by omega, this⟩
      · have := cont ch 1 hch (Or.inl ⟨rfl, Or.inr (Or.inl hb)⟩)
        simp (disch := (first | assumption | omega | ((repeat (refine mr_FIX_up ?_ (by unfold mr_nst; omega))); assumption))) [s91_122, s91_123, x91_126, x91_128, x91_129, s91_130, x91_131, s91_133, s91_134, x91_137, x91_139, x91_141, s91_142, x91_143, s91_145, s91_146, x91_149, s91_150, s91_151, x91_154, s91_155, x91_156, s91_159, s91_160, x91_163, s91_165, x91_166, x91_169, x91_171, x91_174, x91_176, x91_178, x91_179, x91_182, x91_183, x91_186, s91_187, ma_32i, mm_lc0, ha, hb]
        exact ⟨by omega, by omega, by omega, by omega, by omega, this⟩
    · have := cont ch 1 hch (Or.inl ⟨rfl, Or.inl ha⟩)
      simp (disch := (first | assumption | omega | ((repeat (refine mr_FIX_up ?_ (by unfold mr_nst; omega))); assumption))) [s91_122, s91_123, x91_126, x91_128, x91_129, s91_130, x91_131, s91_133, s91_134, x91_137, x91_139, x91_141, s91_142, x91_143, s91_145, s91_146, x91_149, s91_150, s91_151, x91_154, s91_155, x91_156, s91_159, s91_160, x91_163, s91_165, x91_166, x91_169, x91_171, x91_174, x91_176, x91_178, x91_179, x91_182, x91_183, x91_186, s91_187, ma_32i, mm_lc0, ha]
      exact ⟨by omega, by omega, by omega, by omega, this⟩
  by_cases h4 : k = 4
  · have := st 1 (Or.inl ⟨rfl, Or.inl h4⟩)
    rw [h4] at this
    simp (disch := (first | assumption | omega | ((repeat (refine mr_FIX_up ?_ (by unfold mr_nst; omega))); assumption))) [x91_105, x91_106, x91_107, x91_110, x91_111, x91_112, x91_115, x91_116, x91_119, x91_120, h4]
    exact this
  · by_cases h5 : k = 5
    · have := st 1 (Or.inl ⟨rfl, Or.inr h5⟩)
      rw [h5] at this
      simp (disch := (first | assumption | omega | ((repeat (refine mr_FIX_up ?_ (by unfold mr_nst; omega))); assumption))) [x91_105, x91_106, x91_107, x91_110, x91_111, x91_112, x91_115, x91_116, x91_119, x91_120, h5]
      exact this
    · simp (disch := (first | assumption | omega | ((repeat (refine mr_FIX_up ?_ (by unfold mr_nst; omega))); assumption))) [x91_105, x91_106, x91_107, x91_110, x91_111, x91_112, x91_115, x91_116, x91_119, x91_120, h4, h5]
      exact st 0 (Or.inr ⟨rfl, by omega⟩)
/-- the loop of POWER -/
theorem mm_wP {M1 : ma_M} (hF1 : mr_FIX M1) {v k a b ch x y z1 z2 e : Int} (v0 : 0 ≤ v) (v1 : v < 24) (a0 : 0 ≤ a) (a1 : a < 24) (hav : a ≠ v) (ha : mm_rb M1 a) (he : M1 83 v = e) (e9 : e ≤ 9) {Q : Option ma_V → ma_S → ma_M → Prop} (cont : ∀ M2 : ma_M, mm_fr M1 M2 v → (∀ n, 0 ≤ n → n ≤ 8 → M2 91 (9 * v + n) = mt_pw (mm_row M1 a) e.toNat n) → Q none mr_SH M2) : ∀ (m : Nat) (i : Int) (M2 : ma_M), (e - i).toNat < m → 0 ≤ i → i ≤ e → mm_fr M1 M2 v → (∀ n, 0 ≤ n → n ≤ 8 → M2 91 (9 * v + n) = mt_pw (mm_row M1 a) i.toNat n) → ma_wp 91 285 [(2, 80), (0, v), (0, k), (0, a), (0, b), (0, ch), (1, x), (3, z1), (1, y), (3, z2), (0, i)] [] mr_SH M2 Q := by
  intro m
  induction m with
  | zero => intro i M2 h; omega
  | succ m ih =>
    intro i M2 hm h0 h1 hf hr
    have hF2 := mm_fr_F hF1 hf
    have e1 : M2 83 v = e := (hf.1 83 v (by decide) (by decide)).trans he
    simp (disch := (first | assumption | omega | ((repeat (refine mr_FIX_up ?_ (by unfold mr_nst; omega))); assumption))) only [x91_285, s91_287, s91_288, x91_291, s91_292, x91_293, e1]
    refine ⟨by omega, fun h => ?_, fun h => ?_⟩
    · have ei : i = e := by omega
      subst ei
      simp (disch := (first | assumption | omega | ((repeat (refine mr_FIX_up ?_ (by unfold mr_nst; omega))); assumption))) only [x91_308, x91_393]
      exact cont M2 hf hr
    · simp (disch := (first | assumption | omega | ((repeat (refine mr_FIX_up ?_ (by unfold mr_nst; omega))); assumption))) only [s91_296, x91_297, x91_298, s91_299]
      have hra : ∀ n, 0 ≤ n → n ≤ 8 → mm_row M2 a n = mm_row M1 a n := fun n n0 n1 => mm_fr_row hf hav n0 n1
      refine mm_times hF2 v0 v1 a0 a1 (fun n n0 n1 => by rw [hr n n0 n1]; exact mt_pw_b _ _ _) (fun n n0 n1 => by rw [mm_fr_row hf hav n0 n1]; exact ha n n0 n1) (fun M3 hf3 hr3 => ?_)
      simp only [Option.toList_some, Option.toList_none, List.cons_append, List.nil_append]
      simp (disch := (first | assumption | omega | ((repeat (refine mr_FIX_up ?_ (by unfold mr_nst; omega))); assumption))) only [x91_302, x91_305, ma_32i]
      refine ih (i + 1) M3 (by omega) (by omega) (by omega) (mm_fr_t hf hf3) (fun n n0 n1 => ?_)
      have e2 : (i + 1).toNat = i.toNat + 1 := by omega
      rw [hr3 n n0 n1, e2, mt_pw]
      exact mt_mul_congr n0 (fun j j0 j1 => hr j j0 (by omega)) (fun j j0 j1 => hra j j0 (by omega))
theorem mt_sp (s t : Int) : (s + (65521 - t)) % 65521 = (s - t) % 65521 := by omega
/-- the loop of ADD and SUB -/
theorem mm_wS {M1 : ma_M} (hF1 : mr_FIX M1) {v k a b ch x y z1 z2 : Int} (hk : k = 0 ∨ k = 1) (v0 : 0 ≤ v) (v1 : v < 24) (a0 : 0 ≤ a) (a1 : a < 24) (hav : a ≠ v) (b0 : 0 ≤ b) (b1 : b < 24) (hbv : b ≠ v) (ha : mm_rb M1 a) (hb : mm_rb M1 b) {Q : Option ma_V → ma_S → ma_M → Prop} (cont : ∀ M2 : ma_M, mm_fr M1 M2 v → (∀ n, 0 ≤ n → n ≤ 8 → M2 91 (9 * v + n) = (if k = 0 then mm_row M1 a n + mm_row M1 b n else mm_row M1 a n - mm_row M1 b n) % 65521) → Q none mr_SH M2) : ∀ (m : Nat) (i : Int) (M2 : ma_M), (9 - i).toNat < m → 0 ≤ i → i ≤ 9 → mm_fr M1 M2 v → (∀ n, 0 ≤ n → n < i → M2 91 (9 * v + n) = (if k = 0 then mm_row M1 a n + mm_row M1 b n else mm_row M1 a n - mm_row M1 b n) % 65521) → ma_wp 91 314 [(2, 80), (0, v), (0, k), (0, a), (0, b), (0, ch), (1, x), (3, z1), (1, y), (3, z2), (0, i)] [] mr_SH M2 Q := by
  intro m
  induction m with
  | zero => intro i M2 h; omega
  | succ m ih =>
    intro i M2 hm h0 h1 hf hr
    have hF2 := mm_fr_F hF1 hf
    simp (disch := (first | assumption | omega | ((repeat (refine mr_FIX_up ?_ (by unfold mr_nst; omega))); assumption))) only [x91_314, x91_316, x91_318]
    refine ⟨fun h => ?_, fun h => ?_⟩
    · simp (disch := (first | assumption | omega | ((repeat (refine mr_FIX_up ?_ (by unfold mr_nst; omega))); assumption))) only [x91_393]
      exact cont M2 hf (fun n n0 n1 => hr n n0 (by omega))
    · have e1 : M2 91 (9 * a + i) = M1 91 (9 * a + i) := mm_fr_row hf hav h0 (by omega)
      have e2 : M2 91 (9 * b + i) = M1 91 (9 * b + i) := mm_fr_row hf hbv h0 (by omega)
      have ba := ha i h0 (by omega)
      have bb := hb i h0 (by omega)
      have nx : ∀ X : Int, X = (if k = 0 then mm_row M1 a i + mm_row M1 b i else mm_row M1 a i - mm_row M1 b i) % 65521 → ma_wp 91 314 [(2, 80), (0, v), (0, k), (0, a), (0, b), (0, ch), (1, x), (3, z1), (1, y), (3, z2), (0, i + 1)] [] mr_SH (ma_up M2 91 (9 * v + i) X) Q := by
        intro X hX
        refine ih (i + 1) _ (by omega) (by omega) (by omega) (mm_fr_up hf (by omega) (by omega)) (fun n n0 n1 => ?_)
        by_cases e : n = i
        · subst e
          rw [ma_up_s, hX]
        · rw [ma_up_ne2 (by omega)]
          exact hr n n0 (by omega)
      rcases hk with rfl | rfl
      · simp (disch := (first | assumption | omega | ((repeat (refine mr_FIX_up ?_ (by unfold mr_nst; omega))); assumption))) only [s91_321, s91_322, x91_325, x91_327, x91_328, x91_329, x91_331, s91_332, s91_333, x91_336, x91_338, x91_339, x91_340, x91_342, s91_343, x91_344, x91_345, s91_348, s91_349, x91_352, x91_354, x91_356, x91_357, x91_359, s91_360, x91_361, x91_364, s91_367, s91_368, x91_371, x91_373, x91_375, x91_376, x91_378, s91_379, x91_380, x91_381, x91_382, x91_385, s91_386, x91_387, x91_390, ma_32i, ma_64i, mr_tm0, mr_P0, true_and, e1, e2]
        refine ⟨by omega, fun z => absurd trivial z, fun _ => ⟨by omega, by omega, nx _ ?_⟩⟩
        rw [if_pos rfl]
        rfl
      · simp (disch := (first | assumption | omega | ((repeat (refine mr_FIX_up ?_ (by unfold mr_nst; omega))); assumption))) only [s91_321, s91_322, x91_325, x91_327, x91_328, x91_329, x91_331, s91_332, s91_333, x91_336, x91_338, x91_339, x91_340, x91_342, s91_343, x91_344, x91_345, s91_348, s91_349, x91_352, x91_354, x91_356, x91_357, x91_359, s91_360, x91_361, x91_364, s91_367, s91_368, x91_371, x91_373, x91_375, x91_376, x91_378, s91_379, x91_380, x91_381, x91_382, x91_385, s91_386, x91_387, x91_390, ma_32i, ma_64i, mr_tm0, mr_P0, true_and, e1, e2]
        refine ⟨by omega, fun _ => ⟨by omega, by omega, nx _ ?_⟩, fun z => absurd (by decide) z⟩
        rw [if_neg (by decide), mt_sp]
        rfl
set_option maxHeartbeats 1000000 in
theorem mm_wD {M1 : ma_M} (hF1 : mr_FIX M1) {v k a b ch : Int} (hk0 : 0 ≤ k) (hk6 : k ≤ 6) (v0 : 0 ≤ v) (v1 : v < 24) (a0 : 0 ≤ a) (a1 : a < 24) (hav : a ≠ v) (b0 : 0 ≤ b) (b1 : b < 24) (hbv : b ≠ v) (ha : mm_rb M1 a) (hb : mm_rb M1 b) (hch : (ch = 1 ∧ (k = 4 ∨ k = 5)) ∨ (ch = 0 ∧ ¬ (k = 4 ∨ k = 5))) {e : Int} (he : k = 6 → M1 83 v = e ∧ 0 ≤ e ∧ e ≤ 9) {Q : Option ma_V → ma_S → ma_M → Prop} (cont : ∀ M2 : ma_M, mm_fr M1 M2 v → (∀ n, 0 ≤ n → n ≤ 8 → M2 91 (9 * v + n) = mt_op k e.toNat (mm_row M1 a) (mm_row M1 b) n) → Q none mr_SH M2) : ma_wp 91 188 [(2, 80), (0, v), (0, k), (0, a), (0, b), (0, ch), (1, M1 91 (9 * a)), (3, 0), (1, M1 91 (9 * b)), (3, 0), (3, 0)] [] mr_SH M1 Q := by
  have r0 : ∀ u, mm_row M1 u 0 = M1 91 (9 * u) := fun u => by unfold mm_row; rw [Int.add_zero]
  have : k = 0 ∨ k = 1 ∨ k = 2 ∨ k = 3 ∨ k = 4 ∨ k = 5 ∨ k = 6 := by omega
  rcases this with rfl | rfl | rfl | rfl | rfl | rfl | rfl
  · obtain rfl : ch = 0 := by omega
    simp (disch := (first | assumption | omega | ((repeat (refine mr_FIX_up ?_ (by unfold mr_nst; omega))); assumption))) [x91_188, x91_190, x91_233, x91_234, x91_235, x91_249, x91_250, x91_251, x91_270, x91_271, x91_273, x91_311, x91_312]
    exact mm_wS hF1 (Or.inl rfl) v0 v1 a0 a1 hav b0 b1 hbv ha hb (fun M2 hf hr => cont M2 hf (fun n n0 n1 => (hr n n0 n1).trans (by simp [mt_op]))) 10 0 M1 (by decide) (by decide) (by decide) (mm_fr_r M1 v) (fun n n0 n1 => by omega)
  · obtain rfl : ch = 0 := by omega
    simp (disch := (first | assumption | omega | ((repeat (refine mr_FIX_up ?_ (by unfold mr_nst; omega))); assumption))) [x91_188, x91_190, x91_233, x91_234, x91_235, x91_249, x91_250, x91_251, x91_270, x91_271, x91_273, x91_311, x91_312]
    exact mm_wS hF1 (Or.inr rfl) v0 v1 a0 a1 hav b0 b1 hbv ha hb (fun M2 hf hr => cont M2 hf (fun n n0 n1 => (hr n n0 n1).trans (by simp [mt_op]))) 10 0 M1 (by decide) (by decide) (by decide) (mm_fr_r M1 v) (fun n n0 n1 => by omega)
  · obtain rfl : ch = 0 := by omega
    simp (disch := (first | assumption | omega | ((repeat (refine mr_FIX_up ?_ (by unfold mr_nst; omega))); assumption))) [x91_188, x91_190, x91_233, x91_234, x91_235, x91_249, x91_250, x91_251, s91_254, x91_255, x91_256, s91_257]
    refine mm_copy hF1 v0 v1 a0 a1 hav (fun M2 hf hr => ?_)
    have hF2 := mm_fr_F hF1 hf
    simp only [Option.toList_some, Option.toList_none, List.cons_append, List.nil_append]
    simp (disch := (first | assumption | omega | ((repeat (refine mr_FIX_up ?_ (by unfold mr_nst; omega))); assumption))) only [s91_260, x91_261, x91_262, s91_264]
    refine mm_times hF2 v0 v1 b0 b1 (fun n n0 n1 => by rw [hr n n0 n1]; exact ha n n0 n1) (fun n n0 n1 => by rw [mm_fr_row hf hbv n0 n1]; exact hb n n0 n1) (fun M3 hf3 hr3 => ?_)
    simp only [Option.toList_some, Option.toList_none, List.cons_append, List.nil_append]
    simp (disch := (first | assumption | omega | ((repeat (refine mr_FIX_up ?_ (by unfold mr_nst; omega))); assumption))) only [x91_267, x91_393]
    refine cont M3 (mm_fr_t hf hf3) (fun n n0 n1 => ?_)
    rw [hr3 n n0 n1]
    have : mt_op 2 e.toNat (mm_row M1 a) (mm_row M1 b) n = mt_mul (mm_row M1 a) (mm_row M1 b) n := by simp [mt_op]
    rw [this]
    exact mt_mul_congr n0 (fun j j0 j1 => hr j j0 (by omega)) (fun j j0 j1 => mm_fr_row hf hbv j0 (by omega))
  · obtain rfl : ch = 0 := by omega
    simp (disch := (first | assumption | omega | ((repeat (refine mr_FIX_up ?_ (by unfold mr_nst; omega))); assumption))) [x91_188, x91_190, x91_233, x91_234, x91_235, s91_238, x91_239, x91_240, x91_241, s91_243]
    refine mm_divide hF1 v0 v1 a0 a1 hav b0 b1 hbv ha hb (fun M2 hf hr => ?_)
    simp only [Option.toList_some, Option.toList_none, List.cons_append, List.nil_append]
    simp (disch := (first | assumption | omega | ((repeat (refine mr_FIX_up ?_ (by unfold mr_nst; omega))); assumption))) only [x91_246, x91_393]
    refine cont M2 hf (fun n n0 n1 => (hr n n0 n1).trans (by simp [mt_op]))
  · obtain rfl : ch = 1 := by omega
    by_cases h : M1 91 (9 * a) < M1 91 (9 * b)
    · simp (disch := (first | assumption | omega | ((repeat (refine mr_FIX_up ?_ (by unfold mr_nst; omega))); assumption))) [x91_188, x91_190, s91_193, x91_194, x91_195, x91_196, x91_197, x91_200, x91_202, x91_204, x91_205, x91_208, x91_209, x91_210, x91_213, x91_215, x91_217, x91_218, x91_221, x91_222, x91_225, s91_227, mm_lclt, mm_lcle, h]
      refine mm_copy hF1 v0 v1 a0 a1 hav (fun M2 hf hr => ?_)
      simp only [Option.toList_some, Option.toList_none, List.cons_append, List.nil_append]
      simp (disch := (first | assumption | omega | ((repeat (refine mr_FIX_up ?_ (by unfold mr_nst; omega))); assumption))) only [x91_230, x91_393]
      exact cont M2 hf (fun n n0 n1 => (hr n n0 n1).trans (by simp [mt_op, r0, h]; rfl))
    · simp (disch := (first | assumption | omega | ((repeat (refine mr_FIX_up ?_ (by unfold mr_nst; omega))); assumption))) [x91_188, x91_190, s91_193, x91_194, x91_195, x91_196, x91_197, x91_200, x91_202, x91_204, x91_205, x91_208, x91_209, x91_210, x91_213, x91_215, x91_217, x91_218, x91_221, x91_222, x91_225, s91_227, mm_lclt, mm_lcle, h]
      refine mm_copy hF1 v0 v1 b0 b1 hbv (fun M2 hf hr => ?_)
      simp only [Option.toList_some, Option.toList_none, List.cons_append, List.nil_append]
      simp (disch := (first | assumption | omega | ((repeat (refine mr_FIX_up ?_ (by unfold mr_nst; omega))); assumption))) only [x91_230, x91_393]
      exact cont M2 hf (fun n n0 n1 => (hr n n0 n1).trans (by simp [mt_op, r0, h]; rfl))
  · obtain rfl : ch = 1 := by omega
    by_cases h : M1 91 (9 * b) < M1 91 (9 * a)
    · have h2 : ¬ M1 91 (9 * a) ≤ M1 91 (9 * b) := by omega
      simp (disch := (first | assumption | omega | ((repeat (refine mr_FIX_up ?_ (by unfold mr_nst; omega))); assumption))) [x91_188, x91_190, s91_193, x91_194, x91_195, x91_196, x91_197, x91_200, x91_202, x91_204, x91_205, x91_208, x91_209, x91_210, x91_213, x91_215, x91_217, x91_218, x91_221, x91_222, x91_225, s91_227, mm_lclt, mm_lcle, h2]
      refine mm_copy hF1 v0 v1 a0 a1 hav (fun M2 hf hr => ?_)
      simp only [Option.toList_some, Option.toList_none, List.cons_append, List.nil_append]
      simp (disch := (first | assumption | omega | ((repeat (refine mr_FIX_up ?_ (by unfold mr_nst; omega))); assumption))) only [x91_230, x91_393]
      exact cont M2 hf (fun n n0 n1 => (hr n n0 n1).trans (by simp [mt_op, r0, h]; rfl))
    · have h2 : M1 91 (9 * a) ≤ M1 91 (9 * b) := by omega
      simp (disch := (first | assumption | omega | ((repeat (refine mr_FIX_up ?_ (by unfold mr_nst; omega))); assumption))) [x91_188, x91_190, s91_193, x91_194, x91_195, x91_196, x91_197, x91_200, x91_202, x91_204, x91_205, x91_208, x91_209, x91_210, x91_213, x91_215, x91_217, x91_218, x91_221, x91_222, x91_225, s91_227, mm_lclt, mm_lcle, h2]
      refine mm_copy hF1 v0 v1 b0 b1 hbv (fun M2 hf hr => ?_)
      simp only [Option.toList_some, Option.toList_none, List.cons_append, List.nil_append]
      simp (disch := (first | assumption | omega | ((repeat (refine mr_FIX_up ?_ (by unfold mr_nst; omega))); assumption))) only [x91_230, x91_393]
      exact cont M2 hf (fun n n0 n1 => (hr n n0 n1).trans (by simp [mt_op, r0, h]; rfl))
  · obtain rfl : ch = 0 := by omega
    obtain ⟨he1, he2, he3⟩ := he rfl
    simp (disch := (first | assumption | omega | ((repeat (refine mr_FIX_up ?_ (by unfold mr_nst; omega))); assumption))) [x91_188, x91_190, x91_233, x91_234, x91_235, x91_249, x91_250, x91_251, x91_270, x91_271, x91_273, s91_276, x91_277, x91_278, s91_279]
    refine mm_one hF1 v0 v1 (fun M2 hf hr => ?_)
    have hF2 := mm_fr_F hF1 hf
    simp only [Option.toList_some, Option.toList_none, List.cons_append, List.nil_append]
    simp (disch := (first | assumption | omega | ((repeat (refine mr_FIX_up ?_ (by unfold mr_nst; omega))); assumption))) only [x91_282, x91_283]
    exact mm_wP hF1 v0 v1 a0 a1 hav ha he1 he3 (fun M3 hf3 hr3 => cont M3 hf3 (fun n n0 n1 => (hr3 n n0 n1).trans (by simp [mt_op]))) (e.toNat + 1) 0 M2 (by omega) (by omega) (by omega) hf (fun n n0 n1 => (hr n n0 n1).trans rfl)
