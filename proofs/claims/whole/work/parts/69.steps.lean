/-! the reference's table of steps -/
def mi_B (M1 : ma_M) (s l c : Int) : Prop := ∀ l' c', 1 ≤ l' → 1 ≤ c' → c' ≤ s → (l' < l ∨ (l' = l ∧ c' < c)) → M1 99 (6 * l' + c') = mi_T c' l'
theorem mm_st3 {M : ma_M} (hF : mr_FIX M) {n s l c : Int} (n20 : n ≤ 20) (s5 : s ≤ 5) (l2 : 2 ≤ l) (ln : l ≤ n) (c2 : 2 ≤ c) (cs : c ≤ s) (hB : mi_B M s l c) {Q : Option ma_V → ma_S → ma_M → Prop} (cont : ∀ (k : Int) (a7 : ma_V), ma_wp 109 104 [(2, 80), (0, n), (0, s), (0, l), (0, c), (0, mi_T c l), (0, k), a7] [] mr_SH M Q) : ∀ (m : Nat) (k t : Int) (a7 : ma_V), (l - k).toNat < m → 1 ≤ k → k ≤ l → (k = 1 ∨ (2 ≤ k ∧ t = mr_mn (mi_f c l) (k - 1).toNat)) → ma_wp 109 28 [(2, 80), (0, n), (0, s), (0, l), (0, c), (0, t), (0, k), a7] [] mr_SH M Q := by
  intro m
  induction m with
  | zero => intro k t a7 h; omega
  | succ m ih =>
    intro k t a7 hm h0 h1 ht
    simp (disch := (first | assumption | omega | ((repeat (refine mr_FIX_up ?_ (by unfold mr_nst; omega))); assumption))) only [x109_28, x109_30, x109_31]
    refine ⟨fun h => ?_, fun h => ?_⟩
    · obtain rfl : k = l := by omega
      have : t = mi_T c k := by
        rcases ht with z | ⟨_, z⟩
        · omega
        · rw [z, mi_Tsn c2 l2]
      rw [this]
      exact cont k a7
    · have c1 : ¬ c ≤ 1 := by omega
      simp (disch := (first | assumption | omega | ((repeat (refine mr_FIX_up ?_ (by unfold mr_nst; omega))); assumption))) only [x109_34, x109_36, x109_37]
      refine ⟨fun z => absurd z c1, fun _ => ?_⟩
      have ea : M 99 (6 * (l - k) + c - 1) = mi_T (c - 1) (l - k) := by
        have := hB (l - k) (c - 1) (by omega) (by omega) (by omega) (Or.inl (by omega))
        rw [show 6 * (l - k) + c - 1 = 6 * (l - k) + (c - 1) by omega]
        exact this
      have eb : M 99 (6 * k + c) = mi_T c k := hB k c h0 (by omega) cs (Or.inl (by omega))
      have ba := mi_Tb (s := c - 1) (n := l - k) (by omega) (by omega) (by omega)
      have bb := mi_Tb (s := c) (n := k) (by omega) (by omega) (by omega)
      have ef : mi_f c l k.toNat = k + mi_T (c - 1) (l - k) + mi_T c k := by
        unfold mi_f
        rw [show ((k.toNat : Nat) : Int) = k by omega]
      simp (disch := (first | assumption | omega | ((repeat (refine mr_FIX_up ?_ (by unfold mr_nst; omega))); assumption))) only [x109_40, s109_42, s109_43, x109_46, x109_48, x109_49, x109_51, x109_52, x109_53, x109_55, x109_56, x109_57, s109_58, x109_59, s109_60, s109_61, x109_64, x109_66, x109_68, x109_69, x109_71, s109_72, x109_73, x109_74, x109_76, x109_78, x109_79, ma_32i, ea, eb]
      refine ⟨by omega, by omega, fun z => ?_, fun z => ?_⟩
      · simp (disch := (first | assumption | omega | ((repeat (refine mr_FIX_up ?_ (by unfold mr_nst; omega))); assumption))) only [x109_89, x109_91, x109_96, x109_98, x109_101, ma_32i]
        refine ih (k + 1) _ _ (by omega) (by omega) (by omega) (Or.inr ⟨by omega, ?_⟩)
        rw [← ef, z]
        rfl
      · simp (disch := (first | assumption | omega | ((repeat (refine mr_FIX_up ?_ (by unfold mr_nst; omega))); assumption))) only [x109_82, x109_84, x109_86]
        obtain ⟨k2, rfl⟩ : 2 ≤ k ∧ t = mr_mn (mi_f c l) (k - 1).toNat := by
          rcases ht with w | w
          · exact absurd w z
          · exact w
        have e1 := mi_mn (f := mi_f c l) (n := (k - 1).toNat) (by omega)
        rw [show (k - 1).toNat + 1 = k.toNat by omega, ef] at e1
        refine ⟨fun w => ?_, fun w => ?_⟩
        · simp (disch := (first | assumption | omega | ((repeat (refine mr_FIX_up ?_ (by unfold mr_nst; omega))); assumption))) only [x109_94, x109_96, x109_98, x109_101, ma_32i]
          refine ih (k + 1) _ _ (by omega) (by omega) (by omega) (Or.inr ⟨by omega, ?_⟩)
          rw [show (k + 1 - 1).toNat = k.toNat by omega, e1, if_neg (by omega)]
        · simp (disch := (first | assumption | omega | ((repeat (refine mr_FIX_up ?_ (by unfold mr_nst; omega))); assumption))) only [x109_89, x109_91, x109_96, x109_98, x109_101, ma_32i]
          refine ih (k + 1) _ _ (by omega) (by omega) (by omega) (Or.inr ⟨by omega, ?_⟩)
          rw [show (k + 1 - 1).toNat = k.toNat by omega, e1, if_pos (by omega)]
set_option maxHeartbeats 1000000 in
theorem mm_st2 {M : ma_M} (hF : mr_FIX M) {n s l : Int} (n20 : n ≤ 20) (s5 : s ≤ 5) (l1 : 1 ≤ l) (ln : l ≤ n) {Q : Option ma_V → ma_S → ma_M → Prop} (cont : ∀ (M1 : ma_M) (a4 a5 a6 a7 : ma_V), (∀ c k, c ≠ 99 → M1 c k = M c k) → mi_B M1 s (l + 1) 1 → ma_wp 109 2 [(2, 80), (0, n), (0, s), (0, l + 1), a4, a5, a6, a7] [] mr_SH M1 Q) : ∀ (m : Nat) (c : Int) (M1 : ma_M) (a5 a6 a7 : ma_V), (s + 1 - c).toNat < m → 1 ≤ c → c ≤ s + 1 → (∀ c k, c ≠ 99 → M1 c k = M c k) → mi_B M1 s l c → ma_wp 109 10 [(2, 80), (0, n), (0, s), (0, l), (0, c), a5, a6, a7] [] mr_SH M1 Q := by
  intro m
  induction m with
  | zero => intro c M1 a5 a6 a7 h; omega
  | succ m ih =>
    intro c M1 a5 a6 a7 hm h0 h1 hf hB
    have hF1 : mr_FIX M1 := md_fr hF (p := fun c => c = 99) (fun c k hc => hf c k hc) (fun c hc => by omega)
    simp (disch := (first | assumption | omega | ((repeat (refine mr_FIX_up ?_ (by unfold mr_nst; omega))); assumption))) only [x109_10, x109_12, x109_13]
    refine ⟨fun h => ?_, fun h => ?_⟩
    · simp (disch := (first | assumption | omega | ((repeat (refine mr_FIX_up ?_ (by unfold mr_nst; omega))); assumption))) only [x109_124, x109_127, ma_32i]
      refine cont M1 _ _ _ _ hf (fun l' c' a b d e => hB l' c' a b d ?_)
      omega
    · have bn := mi_bn l1 (show l ≤ 20 by omega)
      have nx : ∀ (k : Int) (a7 : ma_V), ma_wp 109 104 [(2, 80), (0, n), (0, s), (0, l), (0, c), (0, mi_T c l), (0, k), a7] [] mr_SH M1 Q := by
        intro k a7
        simp (disch := (first | assumption | omega | ((repeat (refine mr_FIX_up ?_ (by unfold mr_nst; omega))); assumption))) only [s109_104, s109_105, x109_108, x109_110, x109_111, x109_112, x109_114, x109_115, s109_117, x109_118, x109_121, ma_32i]
        refine ⟨by omega, ih (c + 1) _ _ _ _ (by omega) (by omega) (by omega) (fun c k hc => (ma_up_ne hc).trans (hf c k hc)) (fun l' c' a b d e => ?_)⟩
        by_cases ee : 6 * l' + c' = 6 * l + c
        · have : l' = l ∧ c' = c := by omega
          rw [this.1, this.2, ma_up_s]
        · rw [ma_up_ne2 ee]
          refine hB l' c' a b d ?_
          omega
      simp (disch := (first | assumption | omega | ((repeat (refine mr_FIX_up ?_ (by unfold mr_nst; omega))); assumption))) only [x109_16, x109_17, x109_18, x109_19, x109_20, x109_21, x109_22, x109_23, x109_25, x109_26, ma_32i, mi_td, mr_20, true_and]
      by_cases c1 : c = 1
      · subst c1
        rw [← mi_T11 l1]
        simp (disch := (first | assumption | omega | ((repeat (refine mr_FIX_up ?_ (by unfold mr_nst; omega))); assumption))) only [x109_28, x109_30, x109_31, x109_34, x109_36, x109_37]
        exact ⟨fun _ => nx 1 _, fun _ => ⟨fun _ => nx 1 _, fun z => absurd (Int.le_refl 1) z⟩⟩
      · by_cases e1 : l = 1
        · have z0 : l * (l - 1) / 2 = mi_T c l := by
            rw [e1, mi_Ts1 (by omega)]
            rfl
          rw [z0]
          simp (disch := (first | assumption | omega | ((repeat (refine mr_FIX_up ?_ (by unfold mr_nst; omega))); assumption))) only [x109_28, x109_30, x109_31]
          exact ⟨fun _ => nx 1 _, fun z => absurd (by omega) z⟩
        · exact mm_st3 hF1 n20 s5 (by omega) ln (by omega) (by omega) hB nx 21 1 _ _ (by omega) (by omega) (by omega) (Or.inl rfl)
theorem mm_st1 {M : ma_M} (hF : mr_FIX M) {n s : Int} (n1 : 1 ≤ n) (n20 : n ≤ 20) (s1 : 1 ≤ s) (s5 : s ≤ 5) {Q : Option ma_V → ma_S → ma_M → Prop} (cont : ∀ M1 : ma_M, (∀ c k, c ≠ 99 → M1 c k = M c k) → Q (some (0, mi_T s n)) mr_SH M1) : ∀ (m : Nat) (l : Int) (M1 : ma_M) (a4 a5 a6 a7 : ma_V), (n + 1 - l).toNat < m → 1 ≤ l → l ≤ n + 1 → (∀ c k, c ≠ 99 → M1 c k = M c k) → mi_B M1 s l 1 → ma_wp 109 2 [(2, 80), (0, n), (0, s), (0, l), a4, a5, a6, a7] [] mr_SH M1 Q := by
  intro m
  induction m with
  | zero => intro l M1 a4 a5 a6 a7 h; omega
  | succ m ih =>
    intro l M1 a4 a5 a6 a7 hm h0 h1 hf hB
    have hF1 : mr_FIX M1 := md_fr hF (p := fun c => c = 99) (fun c k hc => hf c k hc) (fun c hc => by omega)
    simp (disch := (first | assumption | omega | ((repeat (refine mr_FIX_up ?_ (by unfold mr_nst; omega))); assumption))) only [x109_2, x109_3, x109_4]
    refine ⟨fun h => ?_, fun h => ?_⟩
    · have e : M1 99 (6 * n + s) = mi_T s n := hB n s n1 s1 (Int.le_refl s) (Or.inl (by omega))
      simp (disch := (first | assumption | omega | ((repeat (refine mr_FIX_up ?_ (by unfold mr_nst; omega))); assumption))) only [s109_130, s109_131, x109_134, x109_136, x109_137, x109_138, x109_139, s109_140, x109_141, ma_32i, e]
      exact ⟨by omega, cont M1 hf⟩
    · simp (disch := (first | assumption | omega | ((repeat (refine mr_FIX_up ?_ (by unfold mr_nst; omega))); assumption))) only [x109_7, x109_8]
      exact mm_st2 hF n20 s5 h0 (by omega) (fun M2 a4 a5 a6 a7 hf2 hB2 => ih (l + 1) M2 a4 a5 a6 a7 (by omega) (by omega) (by omega) hf2 hB2) (s.toNat + 1) 1 M1 _ _ _ (by omega) (by omega) (by omega) hf hB
theorem mm_steps {M : ma_M} (hF : mr_FIX M) {n s : Int} (n1 : 1 ≤ n) (n20 : n ≤ 20) (s1 : 1 ≤ s) (s5 : s ≤ 5) {Q : Option ma_V → ma_S → ma_M → Prop} (cont : ∀ M1 : ma_M, (∀ c k, c ≠ 99 → M1 c k = M c k) → Q (some (0, mi_T s n)) mr_SH M1) : mr_do 109 [(2, 80), (0, n), (0, s)] mr_SH M Q := by
  simp (disch := (first | assumption | omega | ((repeat (refine mr_FIX_up ?_ (by unfold mr_nst; omega))); assumption))) only [x109, x109_0, x109_1]
  exact mm_st1 hF n1 n20 s1 s5 cont (n.toNat + 1) 1 M _ _ _ _ (by omega) (by omega) (by omega) (fun _ _ _ => rfl) (fun l' c' a b d e => by omega)
