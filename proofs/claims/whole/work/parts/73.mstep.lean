/-! the reference's step -/
set_option maxHeartbeats 1000000 in
theorem mm_stp2 {B : ma_M} (hFB : mr_FIX B) {i o g b : Int} (i0 : 0 ≤ i) (i5 : i < 5) (e88 : B 88 i = o) (o0 : 0 ≤ o) (o1 : o < 24) {Q : Option ma_V → ma_S → ma_M → Prop} (cont : ∀ S : ma_M, (∀ c x, c ≠ 90 → S c x = B c x) → (∀ x, ¬ (9 * i ≤ x ∧ x < 9 * i + 9) → S 90 x = B 90 x) → (∀ n, 0 ≤ n → n ≤ 8 → S 90 (9 * i + n) = B 91 (9 * o + n)) → ma_wp 108 111 [(2, 80), (0, g), (0, b), (0, i), (0, 9)] [] mr_SH S Q) : ∀ (m : Nat) (n : Int) (S : ma_M), (9 - n).toNat < m → 0 ≤ n → n ≤ 9 → (∀ c x, c ≠ 90 → S c x = B c x) → (∀ x, ¬ (9 * i ≤ x ∧ x < 9 * i + 9) → S 90 x = B 90 x) → (∀ x, 0 ≤ x → x < n → S 90 (9 * i + x) = B 91 (9 * o + x)) → ma_wp 108 69 [(2, 80), (0, g), (0, b), (0, i), (0, n)] [] mr_SH S Q := by
  intro m
  induction m with
  | zero => intro n S h; omega
  | succ m ih =>
    intro n S hm h0 h1 hfr hot hv
    have hF1 : mr_FIX S := md_fr hFB (p := fun c => c = 90) (fun c x hc => hfr c x hc) (fun c hc => by omega)
    simp (disch := (first | assumption | omega | ((repeat (refine mr_FIX_up ?_ (by unfold mr_nst; omega))); assumption))) only [x108_69, x108_71, x108_73]
    refine ⟨fun h => ?_, fun h => ?_⟩
    · obtain rfl : n = 9 := by omega
      exact cont S hfr hot (fun n a b => hv n a (by omega))
    · have e2 : S 88 i = o := (hfr 88 i (by decide)).trans e88
      have e3 : S 91 (9 * o + n) = B 91 (9 * o + n) := hfr 91 _ (by decide)
      have b1 : 0 ≤ 9 * o + n ∧ 9 * o + n < 216 := by omega
      have b2 : 0 ≤ 9 * i + n ∧ 9 * i + n < 45 := by omega
      have b3 : 0 ≤ i ∧ i < 5 := ⟨i0, i5⟩
      simp (disch := (first | assumption | omega | ((repeat (refine mr_FIX_up ?_ (by unfold mr_nst; omega))); assumption))) [s108_76, s108_77, x108_80, x108_82, x108_83, x108_84, x108_86, s108_87, s108_88, x108_91, s108_93, s108_94, x108_97, s108_98, x108_99, x108_100, x108_102, s108_103, s108_104, x108_105, x108_108, ma_32i, e2, e3]
      refine ⟨b3, b1, b2, ih (n + 1) _ (by omega) (by omega) (by omega) (fun c x hc => (ma_up_ne hc).trans (hfr c x hc)) (fun x hx => ?_) (fun x x0 x1 => ?_)⟩
      · rw [ma_up_ne2 (by omega)]; exact hot x hx
      · by_cases e : x = n
        · subst e; rw [ma_up_s]
        · rw [ma_up_ne2 (by omega)]; exact hv x x0 (by omega)
/-- whether one of the first outputs has a flag -/
def mm_fl (M : ma_M) (V : Int → Int → Int) (f g n : Int) : Prop := (g = 1 ∧ ∃ i, 0 ≤ i ∧ i < n ∧ V (M 54 i) f = 1) ∨ (g = 0 ∧ ∀ i, 0 ≤ i → i < n → V (M 54 i) f = 0)
theorem mm_fl1 {M : ma_M} {V : Int → Int → Int} {f n : Int} (h : mm_fl M V f 1 n) : mm_fl M V f 1 (n + 1) := by
  rcases h with ⟨_, i, a, b, c⟩ | ⟨h, _⟩
  · exact Or.inl ⟨rfl, i, a, by omega, c⟩
  · exact absurd h (by decide)
theorem mm_fl2 {M : ma_M} {V : Int → Int → Int} {f n : Int} (n0 : 0 ≤ n) (h : V (M 54 n) f = 1) : mm_fl M V f 1 (n + 1) := Or.inl ⟨rfl, n, n0, by omega, h⟩
theorem mm_fl3 {M : ma_M} {V : Int → Int → Int} {f n : Int} (h : mm_fl M V f 0 n) (h1 : V (M 54 n) f = 0) : mm_fl M V f 0 (n + 1) := by
  rcases h with ⟨h, _⟩ | ⟨_, h⟩
  · exact absurd h (by decide)
  · refine Or.inr ⟨rfl, fun i a b => ?_⟩
    by_cases e : i = n
    · subst e; exact h1
    · exact h i a (by omega)
theorem mm_fl_W {M : ma_M} {V : Int → Int → Int} {g b t n : Int} (hg : mm_fl M V 9 g n) (hb : mm_fl M V 10 b n) (h1 : g = 1 → t = -1) (h2 : g = 0 → b = 1 → t = -2) (h3 : g = 0 → b = 0 → t = 0) : mw_W M V 0 t n := by
  unfold mw_W mw_E mx_st
  rcases hg with ⟨rfl, i, a, c, d⟩ | ⟨rfl, hg⟩
  · exact Or.inl ⟨h1 rfl, i, a, c, Or.inl rfl, if_pos d⟩
  · have no : ¬ ∃ i, 0 ≤ i ∧ i < n ∧ ((0 : Int) = 0 ∨ M 55 i ≠ 0) ∧ (if V (M 54 i) 9 = 1 then (-1 : Int) else if V (M 54 i) 10 = 1 then -2 else 0) = -1 := fun ⟨i, a, c, _, e⟩ => by
      rw [hg i a c, if_neg (by decide)] at e
      split at e <;> omega
    rcases hb with ⟨rfl, i, a, c, d⟩ | ⟨rfl, hb⟩
    · exact Or.inr (Or.inl ⟨h2 rfl rfl, no, i, a, c, Or.inl rfl, by rw [hg i a c, if_neg (by decide), if_pos d]⟩)
    · refine Or.inr (Or.inr ⟨h3 rfl rfl, no, fun ⟨i, a, c, _, e⟩ => ?_⟩)
      rw [hg i a c, hb i a c, if_neg (by decide), if_neg (by decide)] at e
      exact absurd e (by decide)
set_option maxHeartbeats 2000000 in
theorem mm_stp1 {M B : ma_M} (hI : mr_INV M) (hFB : mr_FIX B) (hB : ∀ c k, 80 ≤ c → c ≤ 89 → B c k = M c k) {V : Int → Int → Int} (hV : ∀ u, 0 ≤ u → u < M 1 0 → (V u 9 = 0 ∨ V u 9 = 1) ∧ (V u 10 = 0 ∨ V u 10 = 1)) (hag : ∀ u, 0 ≤ u → u < M 1 0 → mm_ag B V u) {Q : Option ma_V → ma_S → ma_M → Prop} (cont : ∀ (S : ma_M) (t : Int), (∀ c x, c ≠ 90 → S c x = B c x) → mw_W M V 0 t (M 0 11) → (∀ i n, 0 ≤ i → i < M 0 11 → 0 ≤ n → n ≤ 8 → S 90 (9 * i + n) = V (M 54 i) n) → Q (some (0, t)) mr_SH S) : ∀ (m : Nat) (i g b : Int) (S : ma_M) (a4 : ma_V), (M 0 11 - i).toNat < m → 0 ≤ i → i ≤ M 0 11 → (∀ c x, c ≠ 90 → S c x = B c x) → mm_fl M V 9 g i → mm_fl M V 10 b i → (∀ l n, 0 ≤ l → l < i → 0 ≤ n → n ≤ 8 → S 90 (9 * l + n) = V (M 54 l) n) → ma_wp 108 10 [(2, 80), (0, g), (0, b), (0, i), a4] [] mr_SH S Q := by
  have hO : 0 ≤ M 0 11 ∧ M 0 11 ≤ 5 := ⟨hI.2.1.2.2.1, hI.2.1.2.2.2.1⟩
  intro m
  induction m with
  | zero => intro i g b S a4 h; omega
  | succ m ih =>
    intro i g b S a4 hm h0 h1 hfr hg hb hv
    have hF1 : mr_FIX S := md_fr hFB (p := fun c => c = 90) (fun c x hc => hfr c x hc) (fun c hc => by omega)
    have e9 : S 80 9 = M 0 11 := (hfr 80 9 (by decide)).trans ((hB 80 9 (by decide) (by decide)).trans hI.2.1.2.2.2.2)
    simp (disch := (first | assumption | omega | ((repeat (refine mr_FIX_up ?_ (by unfold mr_nst; omega))); assumption))) only [x108_10, s108_11, s108_12, x108_15, e9]
    refine ⟨fun h => ?_, fun h => ?_⟩
    · obtain rfl : i = M 0 11 := by omega
      have g01 : g = 0 ∨ g = 1 := by rcases hg with ⟨e, _⟩ | ⟨e, _⟩ <;> omega
      have b01 : b = 0 ∨ b = 1 := by rcases hb with ⟨e, _⟩ | ⟨e, _⟩ <;> omega
      rcases g01 with rfl | rfl
      · rcases b01 with rfl | rfl
        · simp (disch := (first | assumption | omega | ((repeat (refine mr_FIX_up ?_ (by unfold mr_nst; omega))); assumption))) [x108_117, x108_118, x108_121, x108_122, x108_125, x108_126, x108_129, x108_131, x108_134, x108_135]
          exact cont S 0 hfr (mm_fl_W hg hb (fun z => absurd z (by decide)) (fun _ z => absurd z (by decide)) (fun _ _ => rfl)) hv
        · simp (disch := (first | assumption | omega | ((repeat (refine mr_FIX_up ?_ (by unfold mr_nst; omega))); assumption))) [x108_117, x108_118, x108_121, x108_122, x108_125, x108_126, x108_129, x108_131, x108_134, x108_135]
          exact cont S (-2) hfr (mm_fl_W hg hb (fun z => absurd z (by decide)) (fun _ _ => rfl) (fun _ z => absurd z (by decide))) hv
      · simp (disch := (first | assumption | omega | ((repeat (refine mr_FIX_up ?_ (by unfold mr_nst; omega))); assumption))) [x108_117, x108_118, x108_121, x108_122, x108_125, x108_126, x108_129, x108_131, x108_134, x108_135]
        exact cont S (-1) hfr (mm_fl_W hg hb (fun _ => rfl) (fun z => absurd z (by decide)) (fun z => absurd z (by decide))) hv
    · have ho := mz_o hI h0 (show i < M 0 11 by omega)
      have e88b : B 88 i = M 54 i := (hB 88 i (by decide) (by decide)).trans (hI.2.2.2.2.2.2.1 i h0 (by omega)).1
      have e88 : S 88 i = M 54 i := (hfr 88 i (by decide)).trans e88b
      have ag := hag _ ho.1 ho.2.1
      have e93 : S 93 (M 54 i) = V (M 54 i) 9 := (hfr 93 _ (by decide)).trans ag.2.1
      have e94 : S 94 (M 54 i) = V (M 54 i) 10 := (hfr 94 _ (by decide)).trans ag.2.2
      have i5 : 0 ≤ i ∧ i < 5 := by omega
      have v24 : 0 ≤ M 54 i ∧ M 54 i < 24 := ⟨ho.1, ho.2.2.2⟩
      have nx : ∀ (g' b' : Int), mm_fl M V 9 g' (i + 1) → mm_fl M V 10 b' (i + 1) → ma_wp 108 69 [(2, 80), (0, g'), (0, b'), (0, i), (0, 0)] [] mr_SH S Q := by
        intro g' b' hg' hb'
        refine mm_stp2 hF1 i5.1 i5.2 e88 v24.1 v24.2 (fun S2 hf2 hot hv2 => ?_) 10 0 S (by decide) (by decide) (by decide) (fun _ _ _ => rfl) (fun _ _ => rfl) (fun x a b => by omega)
        simp (disch := (first | assumption | omega | ((repeat (refine mr_FIX_up ?_ (by unfold mr_nst; omega))); assumption))) only [x108_111, x108_114, ma_32i]
        refine ih (i + 1) g' b' S2 _ (by omega) (by omega) (by omega) (fun c x hc => (hf2 c x hc).trans (hfr c x hc)) hg' hb' (fun l n l0 l1 n0 n1 => ?_)
        by_cases e : l = i
        · subst e
          rw [hv2 n n0 n1, hfr 91 _ (by decide)]
          exact ag.1 n n0 n1
        · rw [hot _ (by omega)]
          exact hv l n l0 (by omega) n0 n1
      have nb : ∀ (g' : Int), mm_fl M V 9 g' (i + 1) → ma_wp 108 42 [(2, 80), (0, g'), (0, b), (0, i), a4] [] mr_SH S Q := by
        intro g' hg'
        have b01 : b = 0 ∨ b = 1 := by rcases hb with ⟨e, _⟩ | ⟨e, _⟩ <;> omega
        rcases b01 with rfl | rfl
        · rcases (hV _ ho.1 ho.2.1).2 with q | q
          · have := nx g' 0 hg' (mm_fl3 hb q)
            simp (disch := (first | assumption | omega | ((repeat (refine mr_FIX_up ?_ (by unfold mr_nst; omega))); assumption))) [x108_42, x108_43, s108_46, s108_47, s108_50, s108_51, x108_54, s108_55, s108_56, x108_57, x108_60, x108_61, x108_64, x108_65, x108_66, x108_67, e88, e94, q]
            exact ⟨i5, v24, this⟩
          · have := nx g' 1 hg' (mm_fl2 h0 q)
            simp (disch := (first | assumption | omega | ((repeat (refine mr_FIX_up ?_ (by unfold mr_nst; omega))); assumption))) [x108_42, x108_43, s108_46, s108_47, s108_50, s108_51, x108_54, s108_55, s108_56, x108_57, x108_60, x108_61, x108_64, x108_65, x108_66, x108_67, e88, e94, q]
            exact ⟨i5, v24, this⟩
        · have := nx g' 1 hg' (mm_fl1 hb)
          simp (disch := (first | assumption | omega | ((repeat (refine mr_FIX_up ?_ (by unfold mr_nst; omega))); assumption))) [x108_42, x108_43, s108_46, s108_47, s108_50, s108_51, x108_54, s108_55, s108_56, x108_57, x108_60, x108_61, x108_64, x108_65, x108_66, x108_67]
          exact this
      have g01 : g = 0 ∨ g = 1 := by rcases hg with ⟨e, _⟩ | ⟨e, _⟩ <;> omega
      rcases g01 with rfl | rfl
      · rcases (hV _ ho.1 ho.2.1).1 with q | q
        · have := nb 0 (mm_fl3 hg q)
          simp (disch := (first | assumption | omega | ((repeat (refine mr_FIX_up ?_ (by unfold mr_nst; omega))); assumption))) [x108_18, x108_19, s108_22, s108_23, s108_26, s108_27, x108_30, s108_31, s108_32, x108_33, x108_36, x108_37, x108_40, x108_41, e88, e93, q]
          exact ⟨i5, v24, this⟩
        · have := nb 1 (mm_fl2 h0 q)
          simp (disch := (first | assumption | omega | ((repeat (refine mr_FIX_up ?_ (by unfold mr_nst; omega))); assumption))) [x108_18, x108_19, s108_22, s108_23, s108_26, s108_27, x108_30, s108_31, s108_32, x108_33, x108_36, x108_37, x108_40, x108_41, e88, e93, q]
          exact ⟨i5, v24, this⟩
      · have := nb 1 (mm_fl1 hg)
        simp (disch := (first | assumption | omega | ((repeat (refine mr_FIX_up ?_ (by unfold mr_nst; omega))); assumption))) [x108_18, x108_19, s108_22, s108_23, s108_26, s108_27, x108_30, s108_31, s108_32, x108_33, x108_36, x108_37, x108_40, x108_41]
        exact this
theorem mm_step {M S : ma_M} (hI : mr_INV M) (hFS : mr_FIX S) (hS : ∀ c k, 80 ≤ c → c ≤ 89 → S c k = M c k) {L : Int → Int → Int} (hL : mt_Lb M L) (hLM : ∀ j n, 0 ≤ j → j < M 1 1 → 0 ≤ n → n ≤ 8 → S 90 (9 * j + n) = L j n) {Q : Option ma_V → ma_S → ma_M → Prop} (cont : ∀ (S2 : ma_M) (t : Int), (∀ c x, ¬ (90 ≤ c ∧ c ≤ 94) → S2 c x = S c x) → mw_W M (mt_V M L) 0 t (M 0 11) → (∀ i n, 0 ≤ i → i < M 0 11 → 0 ≤ n → n ≤ 8 → S2 90 (9 * i + n) = mt_V M L (M 54 i) n) → Q (some (0, t)) mr_SH S2) : mr_do 108 [(2, 80)] mr_SH S Q := by
  have hO : 0 ≤ M 0 11 ∧ M 0 11 ≤ 5 := ⟨hI.2.1.2.2.1, hI.2.1.2.2.2.1⟩
  simp (disch := (first | assumption | omega | ((repeat (refine mr_FIX_up ?_ (by unfold mr_nst; omega))); assumption))) only [x108, s108_0, s108_1]
  refine mm_sweepS hI hFS hS hL hLM (fun S1 hf1 hag => ?_)
  simp only [Option.toList_some, Option.toList_none, List.cons_append, List.nil_append]
  simp (disch := (first | assumption | omega | ((repeat (refine mr_FIX_up ?_ (by unfold mr_nst; omega))); assumption))) only [x108_4, x108_5, x108_6, x108_7, x108_8, x108_9]
  refine mm_stp1 hI (mm_fs_F hFS hf1) (fun c k a b => (hf1 c k (by omega) (by omega) (by omega) (by omega)).trans (hS c k a b)) (fun u u0 u1 => (mt_V_b hI hL (u.toNat + 1) u (by omega) u0 u1).2) hag (fun S2 t hf2 hW hv => cont S2 t (fun c x hc => (hf2 c x (by omega)).trans (hf1 c x (by omega) (by omega) (by omega) (by omega))) hW hv) 6 0 0 0 S1 _ (by omega) (by decide) hO.1 (fun _ _ _ => rfl) (Or.inr ⟨rfl, fun i a b => by omega⟩) (Or.inr ⟨rfl, fun i a b => by omega⟩) (fun l n a b => by omega)
