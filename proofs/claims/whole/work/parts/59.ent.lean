/-! entry -/
def mt_e (j k : Int) : Int → Int := fun u => (if u = j then 1 else 0) + (if u = k then 1 else 0)
theorem mt_e_b (j k u : Int) : 0 ≤ mt_e j k u ∧ mt_e j k u < 65521 := by
  unfold mt_e
  split <;> split <;> decide
/-- aim along inputs, then a coefficient -/
theorem mm_inp {M : ma_M} (hI : mr_INV M) {i j l k : Int} (hi0 : 0 ≤ i) (hi : i < M 0 11) (k0 : 0 ≤ k) (k1 : k ≤ 8) {Q : Option ma_V → ma_S → ma_M → Prop} (cont : ∀ M2 : ma_M, (∀ c i, ¬ (90 ≤ c ∧ c ≤ 94) → M2 c i = M c i) → Q (some (0, mt_c (mt_V M (mt_L (M 50) (mt_e j l))) (M 54 i) k)) mr_SH M2) : mr_do 85 [(2, 80), (0, 0), (0, j), (0, l)] mr_SH M (fun r sh M => r = none ∧ sh = mr_SH ∧ mr_do 93 [(2, 80), (0, i), (0, k)] sh M Q) := by
  refine mm_aim hI (D := mt_e j l) (Or.inl rfl) (fun u _ _ => (if_neg (by decide)).symm) (fun M1 hf1 hL1 => ?_)
  have hI1 := mm_kept hI hf1
  have e11 : M1 1 1 = M 1 1 := hf1 1 1 (by decide)
  have e54 : M1 54 i = M 54 i := hf1 54 i (by decide)
  have eV : mt_V M1 (mt_L (M 50) (mt_e j l)) = mt_V M (mt_L (M 50) (mt_e j l)) := mt_V_M (fun c i hc => hf1 c i (by omega)) _
  refine ⟨rfl, rfl, ?_⟩
  refine mm_coef hI1 (L := mt_L (M 50) (mt_e j l)) (mt_L_b (by rw [e11]; exact mr_pt1 hI 50 (by omega)) (fun u _ _ => mt_e_b j l u)) (fun j n j0 j1 => hL1 j n j0 (by omega)) hi0 (by rw [hf1 0 11 (by decide)]; exact hi) k0 k1 (fun M2 hf2 => ?_)
  rw [e54, eV]
  exact cont M2 (fun c i hc => (hf2 c i (by omega) (by omega) (by omega) (by omega)).trans (hf1 c i (by omega)))
/-- frame of a sweep along seeds -/
def mx_fd (M M2 : ma_M) : Prop := ∀ c k, ¬ (10 ≤ c ∧ c ≤ 34) → c ≠ 52 → M2 c k = M c k
theorem mx_clear {M : ma_M} (hI : mr_INV M) {Q : Option ma_V → ma_S → ma_M → Prop} (cont : ∀ M2 : ma_M, (∀ c k, c ≠ 52 → M2 c k = M c k) → (∀ k, 0 ≤ k → k < 5 → M2 52 k = 0) → Q none mr_SH M2) : mr_do 64 [(2, 0)] mr_SH M Q := by
  have hF := hI.1
  simp (disch := (first | assumption | omega | ((repeat (refine mr_FIX_up ?_ (by unfold mr_nst; omega))); assumption))) only [x64, s64_0, s64_1, x64_4, x64_5]
  refine mx_fill (r := 52) (n := 5) ⟨by decide, ml_52⟩ (by decide) (by decide) (fun M2 hf hz => ?_)
  simp only [Option.toList_some, Option.toList_none, List.cons_append, List.nil_append]
  simp (disch := (first | assumption | omega | ((repeat (refine mr_FIX_up ?_ (by unfold mr_nst; omega))); assumption))) only [x64_8]
  exact cont M2 (fun c k hc => hf c k (fun z => hc z.1)) hz
theorem mr_k52 {M M2 : ma_M} (hI : mr_INV M) (h : ∀ c k, c ≠ 52 → M2 c k = M c k) : mr_INV M2 := mr_keep95 hI (p := fun c => c = 52) (fun c k hc => h c k hc) (fun c hc => ⟨by unfold mr_scr; omega, by omega⟩)
/-- a coefficient along the seeds -/
theorem mx_seed {M M1 : ma_M} (hI : mr_INV M) (hf1 : ∀ c k, c ≠ 52 → M1 c k = M c k) {i k : Int} {D : Int → Int} (hD : ∀ u, 0 ≤ u → u < 5 → M1 52 u = D u ∧ 0 ≤ D u ∧ D u < 65521) (hi0 : 0 ≤ i) (hi : i < M 0 11) (k0 : 0 ≤ k) (k1 : k ≤ 8) {Q : Option ma_V → ma_S → ma_M → Prop} (cont : ∀ M2 : ma_M, mx_fd M M2 → mr_INV M2 → M2 34 (M 54 i) = mx_st (mt_V M (mt_L (M 50) D)) (M 54 i) → Q (some (0, mt_c (mt_V M (mt_L (M 50) D)) (M 54 i) k)) mr_SH M2) : mr_do 62 [(2, 0), (0, i), (2, 52), (0, k)] mr_SH M1 Q := by
  have hI1 := mr_k52 hI hf1
  have e11 : M1 1 1 = M 1 1 := hf1 1 1 (by decide)
  have h5 : M 1 1 ≤ 5 := hI.2.1.2.1.2.1
  have e50 : M1 50 = M 50 := funext (fun x => hf1 50 x (by decide))
  have e54 : M1 54 i = M 54 i := hf1 54 i (by decide)
  have e10 : M1 1 0 = M 1 0 := hf1 1 0 (by decide)
  have ho := hI.2.2.2.2.2.2.1 i hi0 hi
  have eV : ∀ L, mt_V M1 L = mt_V M L := fun L => mt_V_M (fun c i hc => hf1 c i (by omega)) L
  have hLL : ∀ u n, 0 ≤ u → u < M 1 1 → 0 ≤ n → n ≤ k → mt_L (M 50) (M1 52) u n = mt_L (M 50) D u n := fun u n u0 u1 _ _ => by
    unfold mt_L
    rw [(hD u u0 (by omega)).1]
  refine mx_coef hI1 ⟨by decide, ml_52⟩ (by decide) (fun u u0 u1 => by rw [(hD u u0 (by omega)).1]; exact (hD u u0 (by omega)).2) hi0 (by rw [hf1 0 11 (by decide)]; exact hi) k0 k1 (fun M2 hf2 hag => ?_)
  have hI2 := mx_fr_I hI1 hf2
  have g := (hag (M 54 i) ho.2.1 (by rw [e10]; exact ho.2.2)).1
  rw [e50, eV] at g
  rw [e54, e50, eV, mt_c_cg hI k0 k1 hLL ho.2.1 ho.2.2]
  refine cont M2 (fun c x hc hc2 => (hf2.1 c x hc).trans (hf1 c x hc2)) hI2 ?_
  rw [g]
  obtain ⟨_, q2, q3⟩ := mt_V_cg hI k0 k1 hLL ((M 54 i).toNat + 1) (M 54 i) (by omega) ho.2.1 ho.2.2
  unfold mx_st
  rw [q2, q3]
theorem mx_byin {M : ma_M} (hI : mr_INV M) {i j k : Int} (hi0 : 0 ≤ i) (hi : i < M 0 11) (j0 : 0 ≤ j) (j1 : j < M 1 1) (k0 : 0 ≤ k) (k1 : k ≤ 8) {Q : Option ma_V → ma_S → ma_M → Prop} (cont : ∀ M2 : ma_M, mx_fd M M2 → mr_INV M2 → Q (some (0, mt_c (mt_V M (mt_L (M 50) (mt_e j (-1)))) (M 54 i) k)) mr_SH M2) : mr_do 63 [(2, 0), (0, i), (0, j), (0, k)] mr_SH M Q := by
  have hF := hI.1
  have h5 : M 1 1 ≤ 5 := hI.2.1.2.1.2.1
  simp (disch := (first | assumption | omega | ((repeat (refine mr_FIX_up ?_ (by unfold mr_nst; omega))); assumption))) only [x63, s63_0, s63_1]
  refine mx_clear hI (fun M1 hf1 hz => ?_)
  have hI1 := mr_k52 hI hf1
  have hF1 := hI1.1
  have hF2 : mr_FIX (ma_up M1 52 j 1) := mr_FIX_up hF1 (by unfold mr_nst; omega)
  simp only [Option.toList_some, Option.toList_none, List.cons_append, List.nil_append]
  simp (disch := (first | assumption | omega | ((repeat (refine mr_FIX_up ?_ (by unfold mr_nst; omega))); assumption))) only [s63_4, s63_5, x63_8, x63_9, s63_10, s63_11, x63_12, s63_13, s63_14, x63_17, s63_18]
  refine ⟨by omega, ?_⟩
  refine mx_seed hI (M1 := ma_up M1 52 j 1) (D := mt_e j (-1)) (fun c x hc => (ma_up_ne hc).trans (hf1 c x hc)) (fun u u0 u1 => ⟨?_, mt_e_b _ _ _⟩) hi0 hi k0 k1 (fun M2 hf2 hI2 _ => ?_)
  · unfold mt_e
    rw [if_neg (show ¬ u = -1 by omega)]
    by_cases e : u = j
    · subst e; rw [ma_up_s, if_pos rfl]; rfl
    · rw [ma_up_ne2 e, if_neg e, hz u u0 u1]; rfl
  · simp only [Option.toList_some, Option.toList_none, List.cons_append, List.nil_append]
    simp (disch := (first | assumption | omega | ((repeat (refine mr_FIX_up ?_ (by unfold mr_nst; omega))); assumption))) only [x63_21]
    exact cont M2 hf2 hI2
set_option maxHeartbeats 2000000 in
theorem mp_entry : mr_p2 56 97 := by
  intro M i j hI ha hb
  obtain ⟨hF, ⟨⟨n1, n2, n3⟩, ⟨i1, i2, i3⟩, ⟨o1, o2, o3⟩⟩, -⟩ := id hI
  unfold mr_pair
  by_cases c1 : i < 0
  · exact ⟨-3, by simp (disch := (first | assumption | omega | ((repeat (refine mr_FIX_up ?_ (by unfold mr_nst; omega))); assumption))) [x56, s56_0, x56_1, s56_2, x56_5, s56_8, s56_9, x56_12, s56_13, x56_16, x56_19, x56_21, s56_22, x56_23, x56_24, x56_25, s56_26, x56_29, x61, x61_0, x61_1, x61_4, s61_5, s61_6, x61_9, x61_12, x61_13, x61_16, x61_17, x97, s97_0, x97_1, s97_2, x97_5, s97_8, x97_9, s97_10, x97_13, x97_16, x97_18, s97_19, x97_20, x97_21, x97_22, s97_23, s97_26, x97_27, x97_28, s97_29, x97_32, x76, x76_0, x76_1, x76_4, s76_5, s76_6, x76_9, x76_12, x76_13, x76_16, x76_17, o3, c1, hI]⟩
  · by_cases c2 : M 0 11 ≤ i
    · have c2b : ¬ i < M 0 11 := by omega
      exact ⟨-3, by simp (disch := (first | assumption | omega | ((repeat (refine mr_FIX_up ?_ (by unfold mr_nst; omega))); assumption))) [x56, s56_0, x56_1, s56_2, x56_5, s56_8, s56_9, x56_12, s56_13, x56_16, x56_19, x56_21, s56_22, x56_23, x56_24, x56_25, s56_26, x56_29, x61, x61_0, x61_1, x61_4, s61_5, s61_6, x61_9, x61_12, x61_13, x61_16, x61_17, x97, s97_0, x97_1, s97_2, x97_5, s97_8, x97_9, s97_10, x97_13, x97_16, x97_18, s97_19, x97_20, x97_21, x97_22, s97_23, s97_26, x97_27, x97_28, s97_29, x97_32, x76, x76_0, x76_1, x76_4, s76_5, s76_6, x76_9, x76_12, x76_13, x76_16, x76_17, o3, c1, c2, c2b, hI]⟩
    · have c2b : i < M 0 11 := by omega
      by_cases c3 : j < 0
      · exact ⟨-3, by simp (disch := (first | assumption | omega | ((repeat (refine mr_FIX_up ?_ (by unfold mr_nst; omega))); assumption))) [x56, s56_0, x56_1, s56_2, x56_5, s56_8, s56_9, x56_12, s56_13, x56_16, x56_19, x56_21, s56_22, x56_23, x56_24, x56_25, s56_26, x56_29, x61, x61_0, x61_1, x61_4, s61_5, s61_6, x61_9, x61_12, x61_13, x61_16, x61_17, x6, x6_0, x6_1, x6_4, s6_5, s6_6, x6_9, x6_12, x6_13, x6_16, x6_17, x97, s97_0, x97_1, s97_2, x97_5, s97_8, x97_9, s97_10, x97_13, x97_16, x97_18, s97_19, x97_20, x97_21, x97_22, s97_23, s97_26, x97_27, x97_28, s97_29, x97_32, x76, x76_0, x76_1, x76_4, s76_5, s76_6, x76_9, x76_12, x76_13, x76_16, x76_17, x75, x75_0, x75_1, x75_4, s75_5, s75_6, x75_9, x75_12, x75_13, x75_16, x75_17, o3, c1, c2, c2b, c3, hI]⟩
      · by_cases c4 : M 1 1 ≤ j
        · have c4b : ¬ j < M 1 1 := by omega
          exact ⟨-3, by simp (disch := (first | assumption | omega | ((repeat (refine mr_FIX_up ?_ (by unfold mr_nst; omega))); assumption))) [x56, s56_0, x56_1, s56_2, x56_5, s56_8, s56_9, x56_12, s56_13, x56_16, x56_19, x56_21, s56_22, x56_23, x56_24, x56_25, s56_26, x56_29, x61, x61_0, x61_1, x61_4, s61_5, s61_6, x61_9, x61_12, x61_13, x61_16, x61_17, x6, x6_0, x6_1, x6_4, s6_5, s6_6, x6_9, x6_12, x6_13, x6_16, x6_17, x97, s97_0, x97_1, s97_2, x97_5, s97_8, x97_9, s97_10, x97_13, x97_16, x97_18, s97_19, x97_20, x97_21, x97_22, s97_23, s97_26, x97_27, x97_28, s97_29, x97_32, x76, x76_0, x76_1, x76_4, s76_5, s76_6, x76_9, x76_12, x76_13, x76_16, x76_17, x75, x75_0, x75_1, x75_4, s75_5, s75_6, x75_9, x75_12, x75_13, x75_16, x75_17, o3, i3, c1, c2, c2b, c3, c4, c4b, hI]⟩
        · have c4b : j < M 1 1 := by omega
          refine ⟨mt_c (mt_V M (mt_L (M 50) (mt_e j (-1)))) (M 54 i) 1, ?_⟩
          simp (disch := (first | assumption | omega | ((repeat (refine mr_FIX_up ?_ (by unfold mr_nst; omega))); assumption))) [x56, s56_0, x56_1, s56_2, x56_5, s56_8, s56_9, x56_12, s56_13, x56_16, x56_19, x56_21, s56_22, x56_23, x56_24, x56_25, s56_26, x61, x61_0, x61_1, x61_4, s61_5, s61_6, x61_9, x61_12, x61_13, x61_16, x61_17, x6, x6_0, x6_1, x6_4, s6_5, s6_6, x6_9, x6_12, x6_13, x6_16, x6_17, c1, c2, c3, c4]
          refine mx_byin hI (by omega) c2b (by omega) c4b (by decide) (by decide) (fun M1 hf1 hI1 => ?_)
          have hF1 := hI1.1
          have e9 : M1 80 9 = M 0 11 := (hf1 80 9 (by decide) (by decide)).trans o3
          have e5 : M1 80 5 = M 1 1 := (hf1 80 5 (by decide) (by decide)).trans i3
          have e0 : M1 0 11 = M 0 11 := hf1 0 11 (by decide) (by decide)
          have e54 : M1 54 i = M 54 i := hf1 54 i (by decide) (by decide)
          have e50 : M1 50 = M 50 := funext (fun x => hf1 50 x (by decide) (by decide))
          have eV : mt_V M1 (mt_L (M1 50) (mt_e j (-1))) = mt_V M (mt_L (M 50) (mt_e j (-1))) := by rw [e50]; exact mt_V_M (fun c i hc => hf1 c i (by omega) (by omega)) _
          simp only [Option.toList_some, Option.toList_none, List.cons_append, List.nil_append]
          simp (disch := (first | assumption | omega | ((repeat (refine mr_FIX_up ?_ (by unfold mr_nst; omega))); assumption))) only [x56_29]
          refine ⟨trivial, trivial, fun x => hf1 (-2) x (by decide) (by decide), ?_⟩
          simp (disch := (first | assumption | omega | ((repeat (refine mr_FIX_up ?_ (by unfold mr_nst; omega))); assumption))) [x97, s97_0, x97_1, s97_2, x97_5, s97_8, x97_9, s97_10, x97_13, x97_16, x97_18, s97_19, x97_20, x97_21, x97_22, s97_23, x76, x76_0, x76_1, x76_4, s76_5, s76_6, x76_9, x76_12, x76_13, x76_16, x76_17, x75, x75_0, x75_1, x75_4, s75_5, s75_6, x75_9, x75_12, x75_13, x75_16, x75_17, e9, e5, c1, c2, c3, c4]
          refine mr_do_mono (mm_inp hI1 (i := i) (j := j) (l := -1) (k := 1) (by omega) (by omega) (by decide) (by decide) (Q := mt_int (fun r2 sh2 M2 => r2 = some (0, mt_c (mt_V M (mt_L (M 50) (mt_e j (-1)))) (M 54 i) 1) ∧ sh2 = mr_SH ∧ (∀ (x : Int), M2 (-2) x = M (-2) x) ∧ mr_INV M2)) (fun M2 hf2 => ⟨_, rfl, ?_⟩)) ?_
          · rw [eV, e54]
            exact ⟨rfl, rfl, fun x => (hf2 (-2) x (by decide)).trans (hf1 (-2) x (by decide) (by decide)), mr_k90 hI1 hf2⟩
          · rintro _ _ M2 ⟨rfl, rfl, h⟩
            simp only [Option.toList_some, Option.toList_none, List.cons_append, List.nil_append]
            simp (disch := (first | assumption | omega | ((repeat (refine mr_FIX_up ?_ (by unfold mr_nst; omega))); assumption))) only [s97_26, x97_27, x97_28, s97_29]
            refine mr_do_mono h ?_
            rintro _ sh M3 ⟨x, rfl, hx⟩
            simp only [Option.toList_some, Option.toList_none, List.cons_append, List.nil_append]
            simp (disch := (first | assumption | omega | ((repeat (refine mr_FIX_up ?_ (by unfold mr_nst; omega))); assumption))) only [x97_32]
            exact hx
