/-! aim -/
theorem mm_aim1 {M : ma_M} (hF : mr_FIX M) {d j k : Int} {Q : Option ma_V → ma_S → ma_M → Prop} (cont : ∀ M2 : ma_M, (∀ c i, c ≠ 90 → M2 c i = M c i) → (∀ x, 0 ≤ x → x < 45 → M2 90 x = 0) → ma_wp 85 24 [(2, 80), (0, d), (0, j), (0, k), (0, 45)] [] mr_SH M2 Q) : ∀ (m : Nat) (i : Int) (M1 : ma_M), (45 - i).toNat < m → 0 ≤ i → i ≤ 45 → (∀ c i, c ≠ 90 → M1 c i = M c i) → (∀ x, 0 ≤ x → x < i → M1 90 x = 0) → ma_wp 85 3 [(2, 80), (0, d), (0, j), (0, k), (0, i)] [] mr_SH M1 Q := by
  intro m
  induction m with
  | zero => intro i M1 h; omega
  | succ m ih =>
    intro i M1 hm h0 h1 hf hz
    have hF1 : mr_FIX M1 := md_fr hF (p := fun c => c = 90) (fun c k h => hf c k h) (fun c h => by omega)
    simp (disch := (first | assumption | omega | ((repeat (refine mr_FIX_up ?_ (by unfold mr_nst; omega))); assumption))) only [x85_3, x85_5, x85_7]
    refine ⟨fun h => ?_, fun h => ?_⟩
    · obtain rfl : i = 45 := by omega
      exact cont M1 hf hz
    · simp (disch := (first | assumption | omega | ((repeat (refine mr_FIX_up ?_ (by unfold mr_nst; omega))); assumption))) only [s85_10, s85_11, x85_14, x85_16, s85_17, x85_18, x85_21, ma_32i]
      refine ⟨by omega, ih (i + 1) _ (by omega) (by omega) (by omega) (fun c k hc => (ma_up_ne hc).trans (hf c k hc)) (fun x x0 x1 => ?_)⟩
      by_cases e : x = i
      · subst e; rw [ma_up_s]
      · rw [ma_up_ne2 e]; exact hz x x0 (by omega)
set_option maxHeartbeats 1000000 in
theorem mm_aim2 {M : ma_M} (hF : mr_FIX M) (h5 : M 80 5 ≤ 5) {d j k : Int} {D p : Int → Int} (hd : d = 0 ∨ d = 1) (hp : ∀ u, 0 ≤ u → u < M 80 5 → p u = M 86 u) (hD : ∀ u, 0 ≤ u → u < M 80 5 → D u = if d = 1 then M 87 u else (if u = j then 1 else 0) + (if u = k then 1 else 0)) {Q : Option ma_V → ma_S → ma_M → Prop} (cont : ∀ M2 : ma_M, (∀ c i, c ≠ 90 → M2 c i = M c i) → (∀ u n, 0 ≤ u → u < M 80 5 → 0 ≤ n → n ≤ 8 → M2 90 (9 * u + n) = mt_L p D u n) → Q none mr_SH M2) : ∀ (m : Nat) (i : Int) (M1 : ma_M), (M 80 5 - i).toNat < m → 0 ≤ i → (∀ c i, c ≠ 90 → M1 c i = M c i) → (∀ u n, 0 ≤ u → u < i → 0 ≤ n → n ≤ 8 → M1 90 (9 * u + n) = mt_L p D u n) → (∀ x, 9 * i ≤ x → x < 45 → M1 90 x = 0) → ma_wp 85 27 [(2, 80), (0, d), (0, j), (0, k), (0, i)] [] mr_SH M1 Q := by
  intro m
  induction m with
  | zero => intro i M1 h; omega
  | succ m ih =>
    intro i M1 hm h0 hf hv hz
    have hF1 : mr_FIX M1 := md_fr hF (p := fun c => c = 90) (fun c k h => hf c k h) (fun c h => by omega)
    have e80 : M1 80 5 = M 80 5 := hf 80 5 (by decide)
    simp (disch := (first | assumption | omega | ((repeat (refine mr_FIX_up ?_ (by unfold mr_nst; omega))); assumption))) only [x85_27, s85_29, s85_30, x85_33, e80]
    refine ⟨fun h => ?_, fun h => ?_⟩
    · simp (disch := (first | assumption | omega | ((repeat (refine mr_FIX_up ?_ (by unfold mr_nst; omega))); assumption))) only [x85_108]
      exact cont M1 hf (fun u n u0 u1 => hv u n u0 (by omega))
    · have e86 : M1 86 i = p i := (hf 86 i (by decide)).trans (hp i h0 (by omega)).symm
      have hDi := hD i h0 (by omega)
      have hF2 : mr_FIX (ma_up M1 90 (9 * i) (p i)) := mr_FIX_up hF1 (by unfold mr_nst; omega)
      have e87 : ma_up M1 90 (9 * i) (p i) 87 i = M 87 i := (ma_up_ne (by decide)).trans (hf 87 i (by decide))
      have nx : ma_wp 85 27 [(2, 80), (0, d), (0, j), (0, k), (0, i + 1)] [] mr_SH (ma_up (ma_up M1 90 (9 * i) (p i)) 90 (9 * i + 1) (D i)) Q := by
        refine ih (i + 1) _ (by omega) (by omega) (fun c k hc => (ma_up_ne hc).trans ((ma_up_ne hc).trans (hf c k hc))) (fun u n u0 u1 n0 n1 => ?_) (fun x x0 x1 => ?_)
        · by_cases e : u = i
          · subst e
            unfold mt_L
            by_cases en : n = 1
            · subst en; rw [ma_up_s, if_neg (by decide), if_pos rfl]
            · rw [ma_up_ne2 (by omega)]
              by_cases en0 : n = 0
              · subst en0
                rw [Int.add_zero, ma_up_s, if_pos rfl]
              · rw [ma_up_ne2 (by omega), if_neg en0, if_neg en]
                exact hz _ (by omega) (by omega)
          · rw [ma_up_ne2 (by omega), ma_up_ne2 (by omega)]
            exact hv u n u0 (by omega) n0 n1
        · rw [ma_up_ne2 (by omega), ma_up_ne2 (by omega)]
          exact hz x (by omega) x1
      rcases hd with rfl | rfl
      · rw [if_neg (by decide)] at hDi
        by_cases ej : i = j
        · by_cases ek : i = k
          · rw [if_pos ej, if_pos ek] at hDi
            rw [hDi] at nx
            simp (disch := (first | assumption | omega | ((repeat (refine mr_FIX_up ?_ (by unfold mr_nst; omega))); assumption))) only [s85_36, s85_37, x85_40, x85_42, x85_44, s85_45, s85_46, x85_49, s85_51, s85_52, s85_53, s85_54, x85_57, x85_59, x85_61, x85_62, x85_63, x85_64, x85_65, x85_78, x85_80, x85_81, x85_84, x85_85, x85_88, x85_89, x85_91, x85_92, x85_95, x85_96, x85_99, x85_100, s85_101, x85_102, x85_105, ma_32i, ma_64i, e86]
            refine ⟨by omega, by omega, fun _ => ⟨fun z => absurd ej z, fun _ => ⟨fun z => absurd ek z, fun _ => ⟨by omega, nx⟩⟩⟩, fun z => absurd trivial z⟩
          · rw [if_pos ej, if_neg ek] at hDi
            rw [hDi] at nx
            simp (disch := (first | assumption | omega | ((repeat (refine mr_FIX_up ?_ (by unfold mr_nst; omega))); assumption))) only [s85_36, s85_37, x85_40, x85_42, x85_44, s85_45, s85_46, x85_49, s85_51, s85_52, s85_53, s85_54, x85_57, x85_59, x85_61, x85_62, x85_63, x85_64, x85_65, x85_78, x85_80, x85_81, x85_84, x85_85, x85_88, x85_89, x85_91, x85_92, x85_95, x85_96, x85_99, x85_100, s85_101, x85_102, x85_105, ma_32i, ma_64i, e86]
            refine ⟨by omega, by omega, fun _ => ⟨fun z => absurd ej z, fun _ => ⟨fun _ => ⟨by omega, nx⟩, fun z => absurd ek z⟩⟩, fun z => absurd trivial z⟩
        · by_cases ek : i = k
          · rw [if_neg ej, if_pos ek] at hDi
            rw [hDi] at nx
            simp (disch := (first | assumption | omega | ((repeat (refine mr_FIX_up ?_ (by unfold mr_nst; omega))); assumption))) only [s85_36, s85_37, x85_40, x85_42, x85_44, s85_45, s85_46, x85_49, s85_51, s85_52, s85_53, s85_54, x85_57, x85_59, x85_61, x85_62, x85_63, x85_64, x85_65, x85_78, x85_80, x85_81, x85_84, x85_85, x85_88, x85_89, x85_91, x85_92, x85_95, x85_96, x85_99, x85_100, s85_101, x85_102, x85_105, ma_32i, ma_64i, e86]
            refine ⟨by omega, by omega, fun _ => ⟨fun _ => ⟨fun z => absurd ek z, fun _ => ⟨by omega, nx⟩⟩, fun z => absurd ej z⟩, fun z => absurd trivial z⟩
          · rw [if_neg ej, if_neg ek] at hDi
            rw [hDi] at nx
            simp (disch := (first | assumption | omega | ((repeat (refine mr_FIX_up ?_ (by unfold mr_nst; omega))); assumption))) only [s85_36, s85_37, x85_40, x85_42, x85_44, s85_45, s85_46, x85_49, s85_51, s85_52, s85_53, s85_54, x85_57, x85_59, x85_61, x85_62, x85_63, x85_64, x85_65, x85_78, x85_80, x85_81, x85_84, x85_85, x85_88, x85_89, x85_91, x85_92, x85_95, x85_96, x85_99, x85_100, s85_101, x85_102, x85_105, ma_32i, ma_64i, e86]
            refine ⟨by omega, by omega, fun _ => ⟨fun _ => ⟨fun _ => ⟨by omega, nx⟩, fun z => absurd ek z⟩, fun z => absurd ej z⟩, fun z => absurd trivial z⟩
      · rw [if_pos rfl] at hDi
        rw [hDi] at nx
        simp (disch := (first | assumption | omega | ((repeat (refine mr_FIX_up ?_ (by unfold mr_nst; omega))); assumption))) only [s85_36, s85_37, x85_40, x85_42, x85_44, s85_45, s85_46, x85_49, s85_51, s85_52, s85_53, s85_54, x85_57, x85_59, x85_61, x85_62, x85_63, x85_64, x85_65, s85_68, s85_69, x85_72, s85_74, x85_75, s85_101, x85_102, x85_105, ma_32i, ma_64i, e86, e87]
        refine ⟨by omega, by omega, fun z => absurd z (by decide), fun _ => ⟨by omega, by omega, nx⟩⟩
theorem mm_aimS {M S : ma_M} (hI : mr_INV M) (hFS : mr_FIX S) (hS : ∀ c k, 80 ≤ c → c ≤ 89 → S c k = M c k) {d j k : Int} {D : Int → Int} (hd : d = 0 ∨ d = 1) (hD : ∀ u, 0 ≤ u → u < M 1 1 → D u = if d = 1 then M 51 u else (if u = j then 1 else 0) + (if u = k then 1 else 0)) {Q : Option ma_V → ma_S → ma_M → Prop} (cont : ∀ M2 : ma_M, (∀ c i, c ≠ 90 → M2 c i = S c i) → (∀ u n, 0 ≤ u → u < M 1 1 → 0 ≤ n → n ≤ 8 → M2 90 (9 * u + n) = mt_L (M 50) D u n) → Q none mr_SH M2) : mr_do 85 [(2, 80), (0, d), (0, j), (0, k)] mr_SH S Q := by
  obtain ⟨hF, ⟨⟨n1, n2, n3⟩, ⟨i1, i2, i3⟩, ⟨o1, o2, o3⟩⟩, hnd, hfr, hin, hnum, hout, hmar, hsn⟩ := id hI
  simp (disch := (first | assumption | omega | ((repeat (refine mr_FIX_up ?_ (by unfold mr_nst; omega))); assumption))) only [x85, x85_0, x85_1]
  refine mm_aim1 hFS (fun M1 hf1 hz => ?_) 46 0 S (by decide) (by decide) (by decide) (fun _ _ _ => rfl) (fun x x0 x1 => by omega)
  have hF1 : mr_FIX M1 := md_fr hFS (p := fun c => c = 90) (fun c k h => hf1 c k h) (fun c h => by omega)
  have e80 : M1 80 5 = M 1 1 := (hf1 80 5 (by decide)).trans ((hS 80 5 (by decide) (by decide)).trans i3)
  simp (disch := (first | assumption | omega | ((repeat (refine mr_FIX_up ?_ (by unfold mr_nst; omega))); assumption))) only [x85_24, x85_25]
  refine mm_aim2 (D := D) (p := M 50) hF1 (by omega) hd (fun u u0 u1 => ?_) (fun u u0 u1 => ?_) (fun M2 hf2 hv => cont M2 (fun c i hc => (hf2 c i hc).trans (hf1 c i hc)) (fun u n u0 u1 => hv u n u0 (by omega))) ((M 1 1).toNat + 1) 0 M1 (by omega) (by omega) (fun _ _ _ => rfl) (fun u n u0 u1 => by omega) (fun x x0 x1 => hz x (by omega) x1)
  · rw [hf1 86 u (by decide), hS 86 u (by decide) (by decide)]
    exact ((hnum u u0 (by omega)).1.1).symm
  · rw [hD u u0 (by omega), hf1 87 u (by decide), hS 87 u (by decide) (by decide), (hnum u u0 (by omega)).2.1.1]
theorem mm_aim {M : ma_M} (hI : mr_INV M) {d j k : Int} {D : Int → Int} (hd : d = 0 ∨ d = 1) (hD : ∀ u, 0 ≤ u → u < M 1 1 → D u = if d = 1 then M 51 u else (if u = j then 1 else 0) + (if u = k then 1 else 0)) {Q : Option ma_V → ma_S → ma_M → Prop} (cont : ∀ M2 : ma_M, (∀ c i, c ≠ 90 → M2 c i = M c i) → (∀ u n, 0 ≤ u → u < M 1 1 → 0 ≤ n → n ≤ 8 → M2 90 (9 * u + n) = mt_L (M 50) D u n) → Q none mr_SH M2) : mr_do 85 [(2, 80), (0, d), (0, j), (0, k)] mr_SH M Q :=
  mm_aimS hI hI.1 (fun _ _ _ _ => rfl) hd hD cont
/-! coefficients -/
def mt_c (V : Int → Int → Int) (v k : Int) : Int := if V v 9 = 1 then -1 else if V v 10 = 1 then -2 else V v k
theorem mm_kept {M M2 : ma_M} (hI : mr_INV M) (h : ∀ c i, c ≠ 90 → M2 c i = M c i) : mr_INV M2 := mr_keep95 hI (p := fun c => c = 90) (fun c k hc => h c k hc) (fun c hc => ⟨by unfold mr_scr; omega, by omega⟩)
set_option maxHeartbeats 1000000 in
theorem mm_coef {M : ma_M} (hI : mr_INV M) {L : Int → Int → Int} (hL : mt_Lb M L) (hLM : ∀ j n, 0 ≤ j → j < M 1 1 → 0 ≤ n → n ≤ 8 → M 90 (9 * j + n) = L j n) {i k : Int} (hi0 : 0 ≤ i) (hi : i < M 0 11) (k0 : 0 ≤ k) (k1 : k ≤ 8) {Q : Option ma_V → ma_S → ma_M → Prop} (cont : ∀ M2 : ma_M, mm_fs M M2 → Q (some (0, mt_c (mt_V M L) (M 54 i) k)) mr_SH M2) : mr_do 93 [(2, 80), (0, i), (0, k)] mr_SH M Q := by
  have hN : M 1 0 ≤ 24 := hI.2.1.1.2.1
  have hO : M 0 11 ≤ 5 := hI.2.1.2.2.2.1
  have ho := hI.2.2.2.2.2.2.1 i hi0 hi
  simp (disch := (first | assumption | omega | ((repeat (refine mr_FIX_up ?_ (by unfold mr_nst; omega))); assumption))) only [x93, s93_0, s93_1]
  refine mm_sweep hI hL hLM (fun M2 hf hag => ?_)
  have hF2 := mm_fs_F hI.1 hf
  have e88 : M2 88 i = M 54 i := (hf 88 i (by decide) (by decide) (by decide) (by decide)).trans ho.1
  have g := hag (M 54 i) ho.2.1 ho.2.2
  have bV := mt_V_b hI hL 25 (M 54 i) (by omega) ho.2.1 ho.2.2
  have fin := cont M2 hf
  unfold mt_c at fin
  have bk := bV.1 k k0 k1
  have gk := g.1 k k0 k1
  simp only [Option.toList_some, Option.toList_none, List.cons_append, List.nil_append]
  have i5 : 0 ≤ i ∧ i < 5 := ⟨hi0, by omega⟩
  have v24 : 0 ≤ M 54 i ∧ M 54 i < 24 := ⟨ho.2.1, by omega⟩
  have v216 : 0 ≤ 9 * M 54 i + k ∧ 9 * M 54 i + k < 216 := by omega
  rcases bV.2.1 with h9 | h9
  · rw [if_neg (by rw [h9]; decide)] at fin
    rcases bV.2.2 with h10 | h10
    · rw [if_neg (by rw [h10]; decide)] at fin
      simp (disch := (first | assumption | omega | ((repeat (refine mr_FIX_up ?_ (by unfold mr_nst; omega))); assumption))) [s93_4, s93_5, x93_8, s93_9, x93_10, s93_11, s93_12, x93_15, s93_16, x93_17, x93_20, x93_21, s93_24, s93_25, x93_28, s93_29, x93_30, x93_33, x93_35, s93_38, s93_39, x93_42, x93_44, x93_45, x93_46, x93_47, s93_48, x93_49, x93_50, e88, g.2.1, g.2.2, h9, h10, ma_32i, gk]
      exact ⟨i5, v24, v216, fin⟩
    · rw [if_pos h10] at fin
      simp (disch := (first | assumption | omega | ((repeat (refine mr_FIX_up ?_ (by unfold mr_nst; omega))); assumption))) [s93_4, s93_5, x93_8, s93_9, x93_10, s93_11, s93_12, x93_15, s93_16, x93_17, x93_20, x93_21, s93_24, s93_25, x93_28, s93_29, x93_30, x93_33, x93_35, s93_38, s93_39, x93_42, x93_44, x93_45, x93_46, x93_47, s93_48, x93_49, x93_50, e88, g.2.1, g.2.2, h9, h10]
      exact ⟨i5, v24, fin⟩
  · rw [if_pos h9] at fin
    simp (disch := (first | assumption | omega | ((repeat (refine mr_FIX_up ?_ (by unfold mr_nst; omega))); assumption))) [s93_4, s93_5, x93_8, s93_9, x93_10, s93_11, s93_12, x93_15, s93_16, x93_17, x93_20, x93_21, s93_24, s93_25, x93_28, s93_29, x93_30, x93_33, x93_35, s93_38, s93_39, x93_42, x93_44, x93_45, x93_46, x93_47, s93_48, x93_49, x93_50, e88, g.2.1, h9]
    exact ⟨i5, v24, fin⟩
set_option maxHeartbeats 1000000 in
theorem mx_coef {M : ma_M} (hI : mr_INV M) {i al k : Int} (hal : mx_ar al 5) (hal1 : ¬ (10 ≤ al ∧ al ≤ 34)) (hd : ∀ j, 0 ≤ j → j < M 1 1 → 0 ≤ M al j ∧ M al j < 65521) (hi0 : 0 ≤ i) (hi : i < M 0 11) (k0 : 0 ≤ k) (k1 : k ≤ 8) {Q : Option ma_V → ma_S → ma_M → Prop} (cont : ∀ M2 : ma_M, mx_fr M M2 (M 1 0) → (∀ u, 0 ≤ u → u < M 1 0 → mx_ag M2 (mt_V M (mt_L (M 50) (M al))) k u) → Q (some (0, mt_c (mt_V M (mt_L (M 50) (M al))) (M 54 i) k)) mr_SH M2) : mr_do 62 [(2, 0), (0, i), (2, al), (0, k)] mr_SH M Q := by
  have hN : M 1 0 ≤ 24 := hI.2.1.1.2.1
  have hO : M 0 11 ≤ 5 := hI.2.1.2.2.2.1
  have hI5 : M 1 1 ≤ 5 := hI.2.1.2.1.2.1
  have ho := hI.2.2.2.2.2.2.1 i hi0 hi
  have hnum := hI.2.2.2.2.2.1
  have hF := hI.1
  have tal := mx_t hal.1
  have hp : ∀ j, 0 ≤ j → j < M 1 1 → 0 ≤ M 50 j ∧ M 50 j < 65521 := fun j j0 j1 => (hnum j j0 (by omega)).1.2
  simp (disch := (first | assumption | omega | ((repeat (refine mr_FIX_up ?_ (by unfold mr_nst; omega))); assumption))) only [x62, s62_0, s62_1, s62_4, s62_5, s62_8, s62_9, x62_12, x62_13, s62_14, tal, true_and]
  refine mx_run hI ⟨by decide, ml_50⟩ hal (by decide) hal1 k0 k1 hp hd (fun M2 hf hag => ?_)
  have hF2 := mx_fr_F hI.1 hf
  have e54 : M2 54 i = M 54 i := hf.1 54 i (by decide)
  have g := hag (M 54 i) ho.2.1 ho.2.2
  have bV := mt_V_b hI (mt_L_b hp hd) 25 (M 54 i) (by omega) ho.2.1 ho.2.2
  have fin := cont M2 hf hag
  unfold mt_c at fin
  unfold mx_ag mx_st at g
  have lr := ml_rows ho.2.1 (show M 54 i < 24 by omega)
  have i5 : 0 ≤ i ∧ i < 5 := ⟨hi0, by omega⟩
  have v24 : 0 ≤ M 54 i ∧ M 54 i < 24 := ⟨ho.2.1, by omega⟩
  have k9 : 0 ≤ k ∧ k < 9 := by omega
  simp only [Option.toList_some, Option.toList_none, List.cons_append, List.nil_append]
  rcases bV.2.1 with h9 | h9
  · rw [if_neg (by rw [h9]; decide)] at fin g
    rcases bV.2.2 with h10 | h10
    · rw [if_neg (by rw [h10]; decide)] at fin g
      have gk := (g.2 h9).2.2 h10 k k0 (Int.le_refl k)
      simp (disch := (first | assumption | omega | ((repeat (refine mr_FIX_up ?_ (by unfold mr_nst; omega))); assumption))) [s62_17, s62_18, x62_21, s62_22, x62_23, s62_25, s62_26, s62_29, x62_32, s62_34, x62_35, s62_38, s62_39, s62_42, x62_45, s62_47, x62_48, x62_49, x62_50, s62_53, s62_54, s62_57, x62_60, s62_62, x62_63, e54, g.1, gk, lr]
      exact ⟨i5, v24, k9, fin⟩
    · rw [if_pos h10] at fin g
      simp (disch := (first | assumption | omega | ((repeat (refine mr_FIX_up ?_ (by unfold mr_nst; omega))); assumption))) [s62_17, s62_18, x62_21, s62_22, x62_23, s62_25, s62_26, s62_29, x62_32, s62_34, x62_35, s62_38, s62_39, s62_42, x62_45, s62_47, x62_48, x62_49, x62_50, s62_53, s62_54, s62_57, x62_60, s62_62, x62_63, e54, g.1]
      exact ⟨i5, v24, fin⟩
  · rw [if_pos h9] at fin g
    simp (disch := (first | assumption | omega | ((repeat (refine mr_FIX_up ?_ (by unfold mr_nst; omega))); assumption))) [s62_17, s62_18, x62_21, s62_22, x62_23, s62_25, s62_26, s62_29, x62_32, s62_34, x62_35, s62_38, s62_39, s62_42, x62_45, s62_47, x62_48, x62_49, x62_50, s62_53, s62_54, s62_57, x62_60, s62_62, x62_63, e54, g.1]
    exact ⟨i5, v24, fin⟩
