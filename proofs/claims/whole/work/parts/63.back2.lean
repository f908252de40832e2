set_option maxHeartbeats 1000000 in
theorem mx_brunl {M B : ma_M} (hI : mr_INV M) {L : Int → Int → Int} (hL : mt_Lb M L) (hFB : mr_FIX B) (hB : ∀ c k, (1 ≤ c ∧ c ≤ 5) → B c k = M c k) (hrow : ∀ u, 0 ≤ u → u < M 1 0 → mt_V M L u 9 = 0 → B (10 + u) 0 = mt_V M L u 0) {K : (Int → mq_F) → mq_F} {Q : Option ma_V → ma_S → ma_M → Prop} (cont : ∀ S2 : ma_M, (∀ c k, c ≠ 36 → S2 c k = B c k) → mb_ok M (mt_V M L) (S2 36) → (∀ D, mb_der M (mt_V M L) D → mb_Phi M D (S2 36) (-1) = K D) → Q none mr_SH S2) : ∀ (m : Nat) (v : Int) (S : ma_M), (v + 1).toNat < m → -1 ≤ v → v < M 1 0 → (∀ c k, c ≠ 36 → S c k = B c k) → mb_ok M (mt_V M L) (S 36) → (∀ D, mb_der M (mt_V M L) D → mb_Phi M D (S 36) v = K D) → ma_wp 27 7 [(2, 35), (2, 1), (2, 8), (0, v)] [] mr_SH S Q := by
  have hN : M 1 0 ≤ 24 := hI.2.1.1.2.1
  intro m
  induction m with
  | zero => intro v S h; omega
  | succ m ih =>
    intro v S hm h0 h1 hf hok hK
    have hF : mr_FIX S := md_fr hFB (p := fun c => c = 36) (fun c k hc => hf c k hc) (fun c hc => by omega)
    simp (disch := (first | assumption | omega | ((repeat (refine mr_FIX_up ?_ (by unfold mr_nst; omega))); assumption))) only [x27_7, x27_8]
    refine ⟨fun h => ?_, fun h => ?_⟩
    · obtain rfl : v = -1 := by omega
      simp (disch := (first | assumption | omega | ((repeat (refine mr_FIX_up ?_ (by unfold mr_nst; omega))); assumption))) only [x27_41]
      exact cont S hf hok hK
    · have v0 : 0 ≤ v := by omega
      have v24 : 0 ≤ v ∧ v < 24 := by omega
      have nx : ∀ S2 : ma_M, (∀ c k, c ≠ 36 → S2 c k = B c k) → mb_ok M (mt_V M L) (S2 36) → (∀ D, mb_der M (mt_V M L) D → mb_Phi M D (S2 36) (v - 1) = K D) → ma_wp 27 35 [(2, 35), (2, 1), (2, 8), (0, v)] [] mr_SH S2 Q := by
        intro S2 h2 h3 h4
        simp (disch := (first | assumption | omega | ((repeat (refine mr_FIX_up ?_ (by unfold mr_nst; omega))); assumption))) only [x27_35, x27_38, ma_32i]
        exact ih (v + -1) S2 (by omega) (by omega) (by omega) h2 h3 h4
      simp (disch := (first | assumption | omega | ((repeat (refine mr_FIX_up ?_ (by unfold mr_nst; omega))); assumption))) only [s27_11, s27_12, x27_15, s27_16, x27_17, mx_t v24, true_and]
      refine ⟨fun z => ?_, fun z => ?_⟩
      · refine nx S hf hok (fun D hD => ?_)
        by_cases hop : M 2 v ≤ 6
        · rw [(mb_down v0 h1).1 hop, z, mq_0, hK D hD]
          grind
        · rw [(mb_down v0 h1).2 (by omega), hK D hD]
      · simp (disch := (first | assumption | omega | ((repeat (refine mr_FIX_up ?_ (by unfold mr_nst; omega))); assumption))) only [s27_20, x27_21, s27_22]
        have e2 : S 2 v = M 2 v := (hf 2 v (by decide)).trans (hB 2 v (by decide))
        rw [mx_isOp hF v0 v24.2, e2]
        simp only [Option.toList_some, Option.toList_none, List.cons_append, List.nil_append]
        by_cases hop : M 2 v ≤ 6
        · rw [if_pos hop]
          have sv := (hok v v0 h1).2 z
          obtain ⟨sa, sb, tie, -⟩ := mb_sm hI hL v0 h1 hop sv.1 sv.2
          have hopn := mt_opn_of hI v0 h1 hop
          have ha := hopn.2.1
          have hb := hopn.2.2.1
          have bV : ∀ u, 0 ≤ u → u < M 1 0 → 0 ≤ mt_V M L u 0 ∧ mt_V M L u 0 < 65521 := fun u u0 u1 => (mt_V_b hI hL 25 u (by omega) u0 u1).1 0 (by decide) (by decide)
          have rr : ∀ u, 0 ≤ u → u < M 1 0 → mt_V M L u 9 = 0 → S (10 + u) 0 = mt_V M L u 0 ∧ 0 ≤ mt_V M L u 0 ∧ mt_V M L u 0 < 65521 := fun u u0 u1 h => ⟨(hf _ 0 (by omega)).trans (hrow u u0 u1 h), bV u u0 u1⟩
          simp (disch := (first | assumption | omega | ((repeat (refine mr_FIX_up ?_ (by unfold mr_nst; omega))); assumption))) [x27_25, s27_28, s27_29, s27_30, x27_31, s27_32]
          refine mx_handOn hF v0 h1 hN hopn e2 ((hf 3 v (by decide)).trans (hB 3 v (by decide))) ((hf 4 v (by decide)).trans (hB 4 v (by decide))) ((hf 5 v (by decide)).trans (hB 5 v (by decide))) hok sv sa sb (rr v v0 h1 sv.1) (rr _ ha.1 (by omega) sa.1) (rr _ hb.1 (by omega) sb.1) tie (fun S2 hr => ?_)
          obtain ⟨r1, r2, r3, r4⟩ := hr
          simp only [Option.toList_some, Option.toList_none, List.cons_append, List.nil_append]
          refine nx S2 (fun c k hc => (r1 c k hc).trans (hf c k hc)) r2 (fun D hD => ?_)
          rw [(mb_down v0 h1).1 hop, r3, r4 D hD, hK D hD]
          grind
        · rw [if_neg hop]
          simp (disch := (first | assumption | omega | ((repeat (refine mr_FIX_up ?_ (by unfold mr_nst; omega))); assumption))) [x27_25]
          refine nx S hf hok (fun D hD => ?_)
          rw [(mb_down v0 h1).2 (by omega), hK D hD]
theorem mb_ok_give' {M S : ma_M} {V : Int → Int → Int} {a p : Int} (h : mb_ok M V (S 36)) (ha : p ≠ 0 → V a 9 = 0 ∧ V a 10 = 0) : mb_ok M V (ma_up S 36 a ((S 36 a + p) % 65521) 36) := fun u u0 u1 => by
  by_cases e : u = a
  · subst e
    rw [ma_up_s]
    by_cases hp : p = 0
    · have := h u u0 u1
      rw [hp, Int.add_zero, Int.emod_eq_of_lt this.1.1 this.1.2]
      exact this
    · exact ⟨by omega, fun _ => ha hp⟩
  · rw [ma_up_ne2 e]
    exact h u u0 u1
/-- handBack -/
theorem mb_Phi0 {M : ma_M} {D : Int → mq_F} {s : Int → Int} {v : Int} (h : ∀ u, 0 ≤ u → u < M 1 0 → s u = 0) (h0 : 0 ≤ M 1 0) : mb_Phi M D s v = 0 := by
  unfold mb_Phi
  rw [mf_congr (g := fun _ => 0) _ (fun u u0 u1 => ?_), mf_zero]
  split
  · rw [h u u0 (by omega), mq_0]; grind
  · rfl
set_option maxHeartbeats 1000000 in
theorem mx_hbl {M B : ma_M} (hI : mr_INV M) {L : Int → Int → Int} (hL : mt_Lb M L) (hFB : mr_FIX B) (hB : ∀ c k, (1 ≤ c ∧ c ≤ 5) ∨ c = 54 ∨ (c = 0 ∧ k = 11) → B c k = M c k) (hrow : ∀ u, 0 ≤ u → u < M 1 0 → mt_V M L u 9 = 0 → B (10 + u) 0 = mt_V M L u 0) {r : Int} (hr : mx_ar r 5) (hr1 : r ≠ 36) (hw : ∀ i, 0 ≤ i → i < M 0 11 → (0 ≤ B r i ∧ B r i < 65521) ∧ (B r i ≠ 0 → mt_V M L (M 54 i) 9 = 0 ∧ mt_V M L (M 54 i) 10 = 0)) {Q : Option ma_V → ma_S → ma_M → Prop} (cont : ∀ S2 : ma_M, (∀ c k, c ≠ 36 → S2 c k = B c k) → mb_ok M (mt_V M L) (S2 36) → (∀ D, mb_der M (mt_V M L) D → mb_Phi M D (S2 36) (-1) = mf_s (fun i => mq (B r i) * D (M 54 i)) (M 0 11).toNat) → Q none mr_SH S2) : ∀ (m : Nat) (i : Int) (S : ma_M), (M 0 11 - i).toNat < m → 0 ≤ i → i ≤ M 0 11 → (∀ c k, c ≠ 36 → S c k = B c k) → mb_ok M (mt_V M L) (S 36) → (∀ D, mb_der M (mt_V M L) D → mb_Phi M D (S 36) (M 1 0 - 1) = mf_s (fun i => mq (B r i) * D (M 54 i)) i.toNat) → ma_wp 66 9 [(2, 0), (2, r), (0, i)] [] mr_SH S Q := by
  have hN : M 1 0 ≤ 24 := hI.2.1.1.2.1
  have hN0 : 0 ≤ M 1 0 := hI.2.1.1.1
  have hO : M 0 11 ≤ 5 := hI.2.1.2.2.2.1
  have hout := hI.2.2.2.2.2.2.1
  have tr := mx_t hr.1
  have l5 := hr.2
  intro m
  induction m with
  | zero => intro i S h; omega
  | succ m ih =>
    intro i S hm h0 h1 hf hok hK
    have hF : mr_FIX S := md_fr hFB (p := fun c => c = 36) (fun c k hc => hf c k hc) (fun c hc => by omega)
    have e11 : S 0 11 = M 0 11 := (hf 0 11 (by decide)).trans (hB 0 11 (by decide))
    simp (disch := (first | assumption | omega | ((repeat (refine mr_FIX_up ?_ (by unfold mr_nst; omega))); assumption))) only [x66_9, s66_10, s66_11, x66_14, e11]
    refine ⟨fun h => ?_, fun h => ?_⟩
    · obtain rfl : i = M 0 11 := by omega
      have e10 : S 1 0 = M 1 0 := (hf 1 0 (by decide)).trans (hB 1 0 (by decide))
      simp (disch := (first | assumption | omega | ((repeat (refine mr_FIX_up ?_ (by unfold mr_nst; omega))); assumption))) only [s66_39, s66_40, s66_43, s66_44, s66_47, s66_48, s66_51, x27, s27_0, s27_1, x27_4, x27_5, x27_6, e10, ma_32i]
      refine mx_brunl hI hL hFB (fun c k hc => hB c k (by omega)) hrow (K := fun D => mf_s (fun i => mq (B r i) * D (M 54 i)) (M 0 11).toNat) (fun S2 h2 h3 h4 => ?_) 25 (M 1 0 - 1) S (by omega) (by omega) (by omega) hf hok hK
      simp only [Option.toList_some, Option.toList_none, List.cons_append, List.nil_append]
      simp (disch := (first | assumption | omega | ((repeat (refine mr_FIX_up ?_ (by unfold mr_nst; omega))); assumption))) only [x66_54]
      exact cont S2 h2 h3 h4
    · have ho := hout i h0 (by omega)
      have hwi := hw i h0 (by omega)
      have i5 : 0 ≤ i ∧ i < 5 := by omega
      have e54 : S 54 i = M 54 i := (hf 54 i (by decide)).trans (hB 54 i (Or.inr (Or.inl rfl)))
      have er : S r i = B r i := hf r i hr1
      obtain ⟨s0, s1⟩ := (hok (M 54 i) ho.2.1 ho.2.2).1
      simp (disch := (first | assumption | omega | ((repeat (refine mr_FIX_up ?_ (by unfold mr_nst; omega))); assumption))) only [s66_17, s66_18, s66_21, s66_22, x66_25, s66_26, x66_27, x66_28, x66_29, s66_30, mx_t i5, true_and, tr, l5, e54, er]
      rw [mx_give hF ho.2.1 (by omega) s0 s1 (by omega) (by omega)]
      simp only [Option.toList_some, Option.toList_none, List.cons_append, List.nil_append]
      simp (disch := (first | assumption | omega | ((repeat (refine mr_FIX_up ?_ (by unfold mr_nst; omega))); assumption))) only [x66_33, x66_36, ma_32i]
      refine ih (i + 1) _ (by omega) (by omega) (by omega) (fun c k hc => (ma_up_ne hc).trans (hf c k hc)) (mb_ok_give' hok hwi.2) (fun D hD => ?_)
      rw [mb_give (M := M) (D := D) (s := S 36) (v := M 1 0 - 1) (p := B r i) ho.2.1 ho.2.2 (by omega) (fun u hu => ma_up_ne2 hu) ma_up_s, hK D hD, show (i + 1).toNat = i.toNat + 1 by omega, mf_s, show ((i.toNat : Nat) : Int) = i by omega]
theorem mx_handBack {M B : ma_M} (hI : mr_INV M) {L : Int → Int → Int} (hL : mt_Lb M L) (hFB : mr_FIX B) (hB : ∀ c k, (1 ≤ c ∧ c ≤ 5) ∨ c = 54 ∨ (c = 0 ∧ k = 11) → B c k = M c k) (hrow : ∀ u, 0 ≤ u → u < M 1 0 → mt_V M L u 9 = 0 → B (10 + u) 0 = mt_V M L u 0) {r : Int} (hr : mx_ar r 5) (hr1 : r ≠ 36) (hw : ∀ i, 0 ≤ i → i < M 0 11 → (0 ≤ B r i ∧ B r i < 65521) ∧ (B r i ≠ 0 → mt_V M L (M 54 i) 9 = 0 ∧ mt_V M L (M 54 i) 10 = 0)) {Q : Option ma_V → ma_S → ma_M → Prop} (cont : ∀ S2 : ma_M, (∀ c k, c ≠ 36 → S2 c k = B c k) → mb_ok M (mt_V M L) (S2 36) → (∀ D, mb_der M (mt_V M L) D → mb_Phi M D (S2 36) (-1) = mf_s (fun i => mq (B r i) * D (M 54 i)) (M 0 11).toNat) → Q none mr_SH S2) : mr_do 66 [(2, 0), (2, r)] mr_SH B Q := by
  have hN : M 1 0 ≤ 24 := hI.2.1.1.2.1
  have hN0 : 0 ≤ M 1 0 := hI.2.1.1.1
  have hO : 0 ≤ M 0 11 := hI.2.1.2.2.1
  simp (disch := (first | assumption | omega | ((repeat (refine mr_FIX_up ?_ (by unfold mr_nst; omega))); assumption))) only [x66, s66_0, s66_1, s66_4, x25, s25_0, s25_1, x25_4, x25_5]
  refine mx_fill (r := 36) (n := 24) ⟨by decide, ml_36⟩ (by decide) (by decide) (fun S hf hz => ?_)
  simp only [Option.toList_some, Option.toList_none, List.cons_append, List.nil_append]
  simp (disch := (first | assumption | omega | ((repeat (refine mr_FIX_up ?_ (by unfold mr_nst; omega))); assumption))) only [x25_8, Option.toList_some, Option.toList_none, List.cons_append, List.nil_append, x66_7, x66_8]
  have hz' : ∀ u, 0 ≤ u → u < M 1 0 → S 36 u = 0 := fun u u0 u1 => hz u u0 (by omega)
  refine mx_hbl hI hL hFB hB hrow hr hr1 hw cont ((M 0 11).toNat + 1) 0 S (by omega) (by omega) hO (fun c k hc => hf c k (fun z => hc z.1)) (fun u u0 u1 => ?_) (fun D _ => mb_Phi0 hz' hN0)
  rw [hz' u u0 u1]
  exact ⟨by decide, fun z => absurd rfl z⟩
/-- the shares of the inputs -/
theorem mb_fin {M : ma_M} (hI : mr_INV M) {p d : Int → Int} (s : Int → Int) : mb_Phi M (fun u => mq (mt_V M (mt_L p d) u 1)) s (-1) = mf_s (fun j => mq (s (M 7 j)) * mq (d j)) (M 1 1).toNat := by
  have hN0 : 0 ≤ M 1 0 := hI.2.1.1.1
  have hI0 : 0 ≤ M 1 1 := hI.2.1.2.1.1
  have hin := hI.2.2.2.2.1
  unfold mb_Phi
  have D7 : ∀ u, 0 ≤ u → u < M 1 0 → M 2 u = 7 → mt_V M (mt_L p d) u 1 = d (M 5 u) := fun u u0 u1 h7 => by
    rw [mt_VE hI _ u0 u1 1, mt_nv7 h7, if_pos (by decide)]
    rfl
  rw [mf_congr (g := fun u => mf_s (fun j => if u = M 7 j then mq (s u) * mq (mt_V M (mt_L p d) u 1) else 0) (M 1 1).toNat) _ (fun u u0 u1 => ?_), mf_swap (fun u j => if u = M 7 j then mq (s u) * mq (mt_V M (mt_L p d) u 1) else 0)]
  · refine mf_congr _ (fun j j0 j1 => ?_)
    have hj := hin j j0 (by omega)
    rw [mf_congr (g := fun u => if u = M 7 j then mq (s (M 7 j)) * mq (d j) else 0) _ (fun u u0 u1 => ?_), mf_single hj.1 (by omega)]
    by_cases e : u = M 7 j
    · rw [if_pos e, if_pos e, e, D7 (M 7 j) hj.1 hj.2.1 hj.2.2.2.1, hj.2.2.2.2]
    · rw [if_neg e, if_neg e]
  · have u1' : u < M 1 0 := by omega
    have hnd := hI.2.2.1 u u0 u1'
    have hk8 : M 2 u ≤ 8 := hnd.1.2.2
    have zero : (∀ j, 0 ≤ j → j < M 1 1 → u ≠ M 7 j) → mf_s (fun j => if u = M 7 j then mq (s u) * mq (mt_V M (mt_L p d) u 1) else 0) (M 1 1).toNat = 0 := fun h => by
      rw [mf_congr (g := fun _ => 0) _ (fun j j0 j1 => if_neg (h j j0 (by omega))), mf_zero]
    by_cases h7 : M 2 u = 7
    · have dd := hnd.2.2.2.1 h7
      rw [if_pos (by omega), mf_congr (g := fun j => if j = M 5 u then mq (s u) * mq (mt_V M (mt_L p d) u 1) else 0) _ (fun j j0 j1 => ?_), mf_single dd.2.1 (by omega)]
      have hj := hin j j0 (by omega)
      by_cases e : j = M 5 u
      · rw [if_pos e, if_pos (by rw [e, dd.2.2.2.1])]
      · rw [if_neg e, if_neg (fun z => e (by rw [z, hj.2.2.2.2]))]
    · have ne : ∀ j, 0 ≤ j → j < M 1 1 → u ≠ M 7 j := fun j j0 j1 z => h7 (by rw [z]; exact (hin j j0 j1).2.2.2.1)
      rw [zero ne]
      by_cases h8 : M 2 u = 8
      · rw [if_pos (by omega)]
        show mq (s u) * mq (mt_V M (mt_L p d) u 1) = 0
        rw [mt_VE hI _ u0 u1' 1, mt_nv8 h8, if_neg (by decide), mq_0]
        grind
      · rw [if_neg (by omega)]
