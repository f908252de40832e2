/-- lines that agree up to an order give tables that agree up to it -/
theorem mt_V_cg {M : ma_M} (hI : mr_INV M) {L L' : Int → Int → Int} {m : Int} (m0 : 0 ≤ m) (m1 : m ≤ 8) (h : ∀ j n, 0 ≤ j → j < M 1 1 → 0 ≤ n → n ≤ m → L j n = L' j n) : ∀ (q : Nat) (v : Int), v.toNat < q → 0 ≤ v → v < M 1 0 → (∀ n, 0 ≤ n → n ≤ m → mt_V M L v n = mt_V M L' v n) ∧ mt_V M L v 9 = mt_V M L' v 9 ∧ mt_V M L v 10 = mt_V M L' v 10 := by
  intro q
  induction q with
  | zero => intro v hq; omega
  | succ q ih =>
    intro v hq h0 hv
    have hV := fun n => mt_VE hI L h0 hv n
    have hV' := fun n => mt_VE hI L' h0 hv n
    have hnd := hI.2.2.1 v h0 hv
    have hk8 : M 2 v ≤ 8 := hnd.1.2.2
    by_cases hop : M 2 v ≤ 6
    · obtain ⟨hk0, ha0, hb0, -⟩ := mt_opn_of hI h0 hv hop
      have iha := ih (M 3 v) (by omega) ha0.1 (by omega)
      have ihb := ih (M 4 v) (by omega) hb0.1 (by omega)
      by_cases hU : mt_V M L (M 3 v) 9 = 1 ∨ mt_V M L (M 4 v) 9 = 1 ∨ (M 2 v = 3 ∧ mt_V M L (M 4 v) 0 = 0)
      · have hU' : mt_V M L' (M 3 v) 9 = 1 ∨ mt_V M L' (M 4 v) 9 = 1 ∨ (M 2 v = 3 ∧ mt_V M L' (M 4 v) 0 = 0) := by
          rw [← iha.2.1, ← ihb.2.1, ← ihb.1 0 (by decide) m0]; exact hU
        refine ⟨fun n n0 n1 => ?_, ?_, ?_⟩
        · rw [hV n, hV' n, mt_nvU hop hU, mt_nvU hop hU']
        · rw [hV 9, hV' 9, mt_nvU hop hU, mt_nvU hop hU']
        · rw [hV 10, hV' 10, mt_nvU hop hU, mt_nvU hop hU']
      · have hU' : ¬ (mt_V M L' (M 3 v) 9 = 1 ∨ mt_V M L' (M 4 v) 9 = 1 ∨ (M 2 v = 3 ∧ mt_V M L' (M 4 v) 0 = 0)) := by
          rw [← iha.2.1, ← ihb.2.1, ← ihb.1 0 (by decide) m0]; exact hU
        refine ⟨fun n n0 n1 => ?_, ?_, ?_⟩
        · rw [hV n, hV' n, mt_nvO hop hU (by omega), mt_nvO hop hU' (by omega)]
          exact mt_op_congr n0 n1 (by omega) iha.1 ihb.1
        · rw [hV 9, hV' 9, mt_nv9 hop hU, mt_nv9 hop hU']
        · rw [hV 10, hV' 10, mt_nv10 hop hU, mt_nv10 hop hU', iha.2.2, ihb.2.2, iha.1 0 (by decide) m0, ihb.1 0 (by decide) m0]
    · by_cases h8 : M 2 v = 8
      · exact ⟨fun n n0 n1 => by rw [hV n, hV' n, mt_nv8 h8, mt_nv8 h8], by rw [hV 9, hV' 9, mt_nv8 h8, mt_nv8 h8], by rw [hV 10, hV' 10, mt_nv8 h8, mt_nv8 h8]⟩
      · have h7 : M 2 v = 7 := by omega
        have d := hnd.2.2.2.1 h7
        refine ⟨fun n n0 n1 => ?_, ?_, ?_⟩
        · rw [hV n, hV' n, mt_nv7 h7, mt_nv7 h7, if_pos (by omega), if_pos (by omega)]
          exact h _ n d.2.1 d.2.2.1 n0 n1
        · rw [hV 9, hV' 9, mt_nv7 h7, mt_nv7 h7, if_neg (by decide), if_neg (by decide)]
        · rw [hV 10, hV' 10, mt_nv7 h7, mt_nv7 h7, if_neg (by decide), if_neg (by decide)]
theorem mt_c_cg {M : ma_M} (hI : mr_INV M) {L L' : Int → Int → Int} {k v : Int} (k0 : 0 ≤ k) (k1 : k ≤ 8) (h : ∀ j n, 0 ≤ j → j < M 1 1 → 0 ≤ n → n ≤ k → L j n = L' j n) (h0 : 0 ≤ v) (hv : v < M 1 0) : mt_c (mt_V M L) v k = mt_c (mt_V M L') v k := by
  obtain ⟨a, b, c⟩ := mt_V_cg hI k0 k1 h (v.toNat + 1) v (by omega) h0 hv
  unfold mt_c
  rw [b, c, a k k0 (Int.le_refl k)]
theorem mr_pt {M : ma_M} (hI : mr_INV M) (c : Int) (hc : c = 50 ∨ c = 51 ∨ c = 55) : ∀ j, 0 ≤ j → j < 5 → 0 ≤ M c j ∧ M c j < 65521 := fun j j0 j1 => by
  have := hI.2.2.2.2.2.1 j j0 j1
  rcases hc with rfl | rfl | rfl
  · exact this.1.2
  · exact this.2.1.2
  · exact this.2.2.2
theorem mr_pt1 {M : ma_M} (hI : mr_INV M) (c : Int) (hc : c = 50 ∨ c = 51 ∨ c = 55) : ∀ j, 0 ≤ j → j < M 1 1 → 0 ≤ M c j ∧ M c j < 65521 := fun j j0 j1 => mr_pt hI c hc j j0 (by have : M 1 1 ≤ 5 := hI.2.1.2.1.2.1; omega)
/-- aim along the direction, then a coefficient -/
theorem mm_dir {M : ma_M} (hI : mr_INV M) {i k : Int} (hi0 : 0 ≤ i) (hi : i < M 0 11) (k0 : 0 ≤ k) (k1 : k ≤ 8) {Q : Option ma_V → ma_S → ma_M → Prop} (cont : ∀ M2 : ma_M, (∀ c i, ¬ (90 ≤ c ∧ c ≤ 94) → M2 c i = M c i) → Q (some (0, mt_c (mt_V M (mt_L (M 50) (M 51))) (M 54 i) k)) mr_SH M2) : mr_do 85 [(2, 80), (0, 1), (0, -1), (0, -1)] mr_SH M (fun r sh M => r = none ∧ sh = mr_SH ∧ mr_do 93 [(2, 80), (0, i), (0, k)] sh M Q) := by
  refine mm_aim hI (D := M 51) (Or.inr rfl) (fun u _ _ => (if_pos rfl).symm) (fun M1 hf1 hL1 => ?_)
  have hI1 := mm_kept hI hf1
  have e11 : M1 1 1 = M 1 1 := hf1 1 1 (by decide)
  have e54 : M1 54 i = M 54 i := hf1 54 i (by decide)
  have eV : mt_V M1 (mt_L (M 50) (M 51)) = mt_V M (mt_L (M 50) (M 51)) := mt_V_M (fun c i hc => hf1 c i (by omega)) _
  refine ⟨rfl, rfl, ?_⟩
  refine mm_coef hI1 (L := mt_L (M 50) (M 51)) (mt_L_b (by rw [e11]; exact mr_pt1 hI 50 (by omega)) (by rw [e11]; exact mr_pt1 hI 51 (by omega))) (fun j n j0 j1 => hL1 j n j0 (by omega)) hi0 (by rw [hf1 0 11 (by decide)]; exact hi) k0 k1 (fun M2 hf2 => ?_)
  rw [e54, eV]
  exact cont M2 (fun c i hc => (hf2 c i (by omega) (by omega) (by omega) (by omega)).trans (hf1 c i (by omega)))
theorem mr_k90 {M M2 : ma_M} (hI : mr_INV M) (h : ∀ c i, ¬ (90 ≤ c ∧ c ≤ 94) → M2 c i = M c i) : mr_INV M2 := mr_keep95 hI (p := fun c => 90 ≤ c ∧ c ≤ 94) h (fun c hc => ⟨by unfold mr_scr; omega, by omega⟩)
/-- a coefficient of the program, then the reference's -/
theorem mr_V1 {M M1 : ma_M} (hf : ∀ c k, ¬ (10 ≤ c ∧ c ≤ 34) → M1 c k = M c k) : mt_V M1 (mt_L (M1 50) (M1 51)) = mt_V M (mt_L (M 50) (M 51)) := by
  have e50 : M1 50 = M 50 := funext (fun x => hf 50 x (by decide))
  have e51 : M1 51 = M 51 := funext (fun x => hf 51 x (by decide))
  rw [e50, e51]
  exact mt_V_M (fun c i hc => hf c i (by omega)) _
set_option maxHeartbeats 2000000 in
theorem mp_taylor : mr_p2 51 96 := by
  intro M i k hI ha hb
  obtain ⟨hF, ⟨⟨n1, n2, n3⟩, ⟨i1, i2, i3⟩, ⟨o1, o2, o3⟩⟩, -⟩ := id hI
  unfold mr_pair
  by_cases c1 : i < 0
  · exact ⟨-3, by simp (disch := (first | assumption | omega | ((repeat (refine mr_FIX_up ?_ (by unfold mr_nst; omega))); assumption))) [x51, s51_0, x51_1, s51_2, x51_5, x51_8, x51_9, x51_12, x51_13, x51_15, x51_18, x51_20, s51_21, x51_22, s51_23, s51_24, x51_27, s51_28, x51_31, x61, x61_0, x61_1, x61_4, s61_5, s61_6, x61_9, x61_12, x61_13, x61_16, x61_17, x96, s96_0, x96_1, s96_2, x96_5, x96_8, x96_9, x96_12, x96_13, x96_15, x96_18, x96_20, s96_21, x96_22, x96_23, x96_24, s96_25, s96_28, x96_29, x96_30, s96_31, x96_34, x76, x76_0, x76_1, x76_4, s76_5, s76_6, x76_9, x76_12, x76_13, x76_16, x76_17, o3, c1, hI]⟩
  · by_cases c2 : M 0 11 ≤ i
    · have c2b : ¬ i < M 0 11 := by omega
      exact ⟨-3, by simp (disch := (first | assumption | omega | ((repeat (refine mr_FIX_up ?_ (by unfold mr_nst; omega))); assumption))) [x51, s51_0, x51_1, s51_2, x51_5, x51_8, x51_9, x51_12, x51_13, x51_15, x51_18, x51_20, s51_21, x51_22, s51_23, s51_24, x51_27, s51_28, x51_31, x61, x61_0, x61_1, x61_4, s61_5, s61_6, x61_9, x61_12, x61_13, x61_16, x61_17, x96, s96_0, x96_1, s96_2, x96_5, x96_8, x96_9, x96_12, x96_13, x96_15, x96_18, x96_20, s96_21, x96_22, x96_23, x96_24, s96_25, s96_28, x96_29, x96_30, s96_31, x96_34, x76, x76_0, x76_1, x76_4, s76_5, s76_6, x76_9, x76_12, x76_13, x76_16, x76_17, o3, c1, c2, c2b, hI]⟩
    · have c2b : i < M 0 11 := by omega
      by_cases c3 : k < 0
      · exact ⟨-3, by simp (disch := (first | assumption | omega | ((repeat (refine mr_FIX_up ?_ (by unfold mr_nst; omega))); assumption))) [x51, s51_0, x51_1, s51_2, x51_5, x51_8, x51_9, x51_12, x51_13, x51_15, x51_18, x51_20, s51_21, x51_22, s51_23, s51_24, x51_27, s51_28, x51_31, x61, x61_0, x61_1, x61_4, s61_5, s61_6, x61_9, x61_12, x61_13, x61_16, x61_17, x96, s96_0, x96_1, s96_2, x96_5, x96_8, x96_9, x96_12, x96_13, x96_15, x96_18, x96_20, s96_21, x96_22, x96_23, x96_24, s96_25, s96_28, x96_29, x96_30, s96_31, x96_34, x76, x76_0, x76_1, x76_4, s76_5, s76_6, x76_9, x76_12, x76_13, x76_16, x76_17, o3, c1, c2, c2b, c3, hI]⟩
      · by_cases c4 : 8 < k
        · have c4b : ¬ k ≤ 8 := by omega
          exact ⟨-3, by simp (disch := (first | assumption | omega | ((repeat (refine mr_FIX_up ?_ (by unfold mr_nst; omega))); assumption))) [x51, s51_0, x51_1, s51_2, x51_5, x51_8, x51_9, x51_12, x51_13, x51_15, x51_18, x51_20, s51_21, x51_22, s51_23, s51_24, x51_27, s51_28, x51_31, x61, x61_0, x61_1, x61_4, s61_5, s61_6, x61_9, x61_12, x61_13, x61_16, x61_17, x96, s96_0, x96_1, s96_2, x96_5, x96_8, x96_9, x96_12, x96_13, x96_15, x96_18, x96_20, s96_21, x96_22, x96_23, x96_24, s96_25, s96_28, x96_29, x96_30, s96_31, x96_34, x76, x76_0, x76_1, x76_4, s76_5, s76_6, x76_9, x76_12, x76_13, x76_16, x76_17, o3, c1, c2, c2b, c3, c4, c4b, hI]⟩
        · have c4b : k ≤ 8 := by omega
          refine ⟨mt_c (mt_V M (mt_L (M 50) (M 51))) (M 54 i) k, ?_⟩
          simp (disch := (first | assumption | omega | ((repeat (refine mr_FIX_up ?_ (by unfold mr_nst; omega))); assumption))) only [x51, s51_0, x51_1, s51_2, x51_5, x61, x61_0, x61_1, x61_4, s61_5, s61_6, x61_9, x61_12, x61_13, x61_16, x61_17, c1, c2]
          simp (disch := (first | assumption | omega | ((repeat (refine mr_FIX_up ?_ (by unfold mr_nst; omega))); assumption))) [x51_5, x51_8, x51_9, x51_12, x51_13, x51_15, x51_18, x51_20, s51_21, x51_22, s51_23, s51_24, x51_27, s51_28, x61, x61_0, x61_1, x61_4, s61_5, s61_6, x61_9, x61_12, x61_13, x61_16, x61_17, c1, c2, c3, c4b]
          refine mx_coef hI ⟨by decide, ml_51⟩ (by decide) (mr_pt1 hI 51 (by omega)) (by omega) c2b (by omega) c4b (fun M1 hf1 hag1 => ?_)
          have hI1 := mx_fr_I hI hf1
          have hF1 := hI1.1
          have e9 : M1 80 9 = M 0 11 := (hf1.1 80 9 (by decide)).trans o3
          have e0 : M1 0 11 = M 0 11 := hf1.1 0 11 (by decide)
          have e54 : M1 54 i = M 54 i := hf1.1 54 i (by decide)
          simp only [Option.toList_some, Option.toList_none, List.cons_append, List.nil_append]
          simp (disch := (first | assumption | omega | ((repeat (refine mr_FIX_up ?_ (by unfold mr_nst; omega))); assumption))) only [x51_31]
          refine ⟨trivial, trivial, fun x => hf1.1 (-2) x (by decide), ?_⟩
          simp (disch := (first | assumption | omega | ((repeat (refine mr_FIX_up ?_ (by unfold mr_nst; omega))); assumption))) [x96, s96_0, x96_1, s96_2, x96_5, x96_8, x96_9, x96_12, x96_13, x96_15, x96_18, x96_20, s96_21, x96_22, x96_23, x96_24, s96_25, x76, x76_0, x76_1, x76_4, s76_5, s76_6, x76_9, x76_12, x76_13, x76_16, x76_17, e9, c1, c2, c3, c4b]
          refine mr_do_mono (mm_dir hI1 (i := i) (k := k) (by omega) (by omega) (by omega) c4b (Q := fun r2 sh2 M2 => r2 = some (0, mt_c (mt_V M (mt_L (M 50) (M 51))) (M 54 i) k) ∧ sh2 = mr_SH ∧ (∀ (x : Int), M2 (-2) x = M (-2) x) ∧ mr_INV M2) (fun M2 hf2 => ?_)) ?_
          · rw [mr_V1 hf1.1, e54]
            exact ⟨rfl, rfl, fun x => (hf2 (-2) x (by decide)).trans (hf1.1 (-2) x (by decide)), mr_k90 hI1 hf2⟩
          · rintro _ _ M2 ⟨rfl, rfl, h⟩
            simp only [Option.toList_some, Option.toList_none, List.cons_append, List.nil_append]
            simp (disch := (first | assumption | omega | ((repeat (refine mr_FIX_up ?_ (by unfold mr_nst; omega))); assumption))) only [s96_28, x96_29, x96_30, s96_31]
            refine mr_do_mono h ?_
            rintro _ _ M3 ⟨rfl, rfl, h⟩
            simp only [Option.toList_some, Option.toList_none, List.cons_append, List.nil_append]
            simp (disch := (first | assumption | omega | ((repeat (refine mr_FIX_up ?_ (by unfold mr_nst; omega))); assumption))) only [x96_34]
            exact ⟨trivial, trivial, h⟩
