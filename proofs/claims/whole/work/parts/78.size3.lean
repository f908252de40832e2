/-! size: the program's counting -/
theorem mc_findl {M S : ma_M} (hI : mr_INV M) {L : Int → Int → Int} (hP : mc_pre M S (mt_V M L)) {v : Int} (v1 : v < M 1 0) (h38 : ∀ w, 0 ≤ w → w ≤ v → S 38 w = mc_F M (mt_V M L) w) (h41 : ∀ w, 0 ≤ w → w < v → S 41 w = mc_m M (mt_V M L) w) {Q : Option ma_V → ma_S → ma_M → Prop} : ∀ (k : Nat) (u : Int), (v - u).toNat < k → 0 ≤ u → u ≤ v → Q (some (0, mc_ls (mc_k M (mt_V M L)) v k u)) mr_SH S → ma_wp 33 3 [(2, 37), (2, 1), (2, 8), (0, v), (0, u)] [] mr_SH S Q := by
  have hN := hI.2.1.1.2.1
  have hF := hP.1
  intro k
  induction k with
  | zero => intro u h; omega
  | succ k ih =>
    intro u hm h0 h1 q
    unfold mc_ls at q
    simp (disch := (first | assumption | omega | ((repeat (refine mr_FIX_up ?_ (by unfold mr_nst; omega))); assumption))) only [x33_3, x33_5, x33_6]
    refine ⟨fun h => ?_, fun h => ?_⟩
    · rw [if_neg (by omega)] at q
      simp (disch := (first | assumption | omega | ((repeat (refine mr_FIX_up ?_ (by unfold mr_nst; omega))); assumption))) only [x33_30, x33_31]
      exact q
    · rw [if_pos (by omega)] at q
      simp (disch := (first | assumption | omega | ((repeat (refine mr_FIX_up ?_ (by unfold mr_nst; omega))); assumption))) only [s33_9, s33_10, s33_11, x33_12, x33_14, s33_15]
      refine mc_alk hI hP h0 (by omega) v1 h38 h41 (fun e => ?_) (fun e => ?_)
      · rw [if_pos e] at q
        simp only [Option.toList_some, Option.toList_none, List.cons_append, List.nil_append]
        simp (disch := (first | assumption | omega | ((repeat (refine mr_FIX_up ?_ (by unfold mr_nst; omega))); assumption))) [x33_18, x33_21, x33_23]
        exact q
      · rw [if_neg e] at q
        simp only [Option.toList_some, Option.toList_none, List.cons_append, List.nil_append]
        simp (disch := (first | assumption | omega | ((repeat (refine mr_FIX_up ?_ (by unfold mr_nst; omega))); assumption))) [x33_18, x33_21, x33_23, x33_24, x33_27, ma_32i]
        exact ih (u + 1) (by omega) (by omega) (by omega) q
theorem mc_find {M S : ma_M} (hI : mr_INV M) {L : Int → Int → Int} (hP : mc_pre M S (mt_V M L)) {v : Int} (v0 : 0 ≤ v) (v1 : v < M 1 0) (h38 : ∀ w, 0 ≤ w → w ≤ v → S 38 w = mc_F M (mt_V M L) w) (h41 : ∀ w, 0 ≤ w → w < v → S 41 w = mc_m M (mt_V M L) w) {Q : Option ma_V → ma_S → ma_M → Prop} (q : Q (some (0, mc_m M (mt_V M L) v)) mr_SH S) : mr_do 33 [(2, 37), (2, 1), (2, 8), (0, v)] mr_SH S Q := by
  have hN := hI.2.1.1.2.1
  rw [mc_mE hI _ v0 v1] at q
  simp (disch := (first | assumption | omega | ((repeat (refine mr_FIX_up ?_ (by unfold mr_nst; omega))); assumption))) only [x33, x33_0, x33_1]
  exact mc_findl hI hP v1 h38 h41 25 0 (by omega) (by decide) v0 q
theorem mc_enl {M S : ma_M} (hI : mr_INV M) {F : Int → Int} (hF : mr_FIX S) (hS : ∀ c k, 1 ≤ c → c ≤ 5 → S c k = M c k) {x : Int} (x0 : 0 ≤ x) (x1 : x < M 1 0) (h38 : S 38 x = F x) (h01 : F x = 0 ∨ F x = 1) {Q : Option ma_V → ma_S → ma_M → Prop} (cont : ∀ S2 : ma_M, (∀ c y, c ≠ 39 → S2 c y = S c y) → (∀ w, S2 39 w = if (F x = 0 ∧ M 2 x ≤ 6) ∧ (w = M 3 x ∨ w = M 4 x) then 1 else S 39 w) → Q none mr_SH S2) : mr_do 35 [(2, 37), (2, 1), (0, x)] mr_SH S Q := by
  have hN := hI.2.1.1.2.1
  have x24 : 0 ≤ x ∧ x < 24 := by omega
  have e2 : S 2 x = M 2 x := hS 2 x (by decide) (by decide)
  have e3 : S 3 x = M 3 x := hS 3 x (by decide) (by decide)
  simp (disch := (first | assumption | omega | ((repeat (refine mr_FIX_up ?_ (by unfold mr_nst; omega))); assumption))) only [x35, s35_0, x35_1, s35_2]
  rw [mx_isOp hF x0 x24.2, e2]
  simp only [Option.toList_some, Option.toList_none, List.cons_append, List.nil_append]
  by_cases op : M 2 x ≤ 6
  · rw [if_pos op]
    rcases h01 with g | g
    · have ho := mc_op hI x0 x1 op
      have a24 : 0 ≤ M 3 x ∧ M 3 x < 24 := by omega
      have b24 : 0 ≤ M 4 x ∧ M 4 x < 24 := by omega
      have hF2 : mr_FIX (ma_up S 39 (M 3 x) 1) := mr_FIX_up hF (by unfold mr_nst; omega)
      have e4 : ma_up S 39 (M 3 x) 1 4 x = M 4 x := (ma_up_ne (by decide)).trans (hS 4 x (by decide) (by decide))
      simp (disch := (first | assumption | omega | ((repeat (refine mr_FIX_up ?_ (by unfold mr_nst; omega))); assumption))) [x35_5, s35_8, s35_9, x35_12, s35_13, x35_14, s35_17, s35_18, s35_21, s35_22, x35_25, s35_26, x35_27, s35_28, s35_29, s35_30, s35_33, s35_34, x35_37, s35_38, x35_39, s35_40, x35_41, h38, g, e3, e4, x24, a24, b24]
      refine cont _ (fun c y hc => (ma_up_ne hc).trans (ma_up_ne hc)) (fun w => ?_)
      by_cases c4 : w = M 4 x
      · rw [if_pos ⟨⟨g, op⟩, Or.inr c4⟩, c4, ma_up_s]
      · rw [ma_up_ne2 c4]
        by_cases c3 : w = M 3 x
        · rw [if_pos ⟨⟨g, op⟩, Or.inl c3⟩, c3, ma_up_s]
        · rw [ma_up_ne2 c3, if_neg (fun z => z.2.elim c3 c4)]
    · simp (disch := (first | assumption | omega | ((repeat (refine mr_FIX_up ?_ (by unfold mr_nst; omega))); assumption))) [x35_5, s35_8, s35_9, x35_12, s35_13, x35_14, x35_41, h38, g, x24]
      refine cont S (fun _ _ _ => rfl) (fun w => ?_)
      rw [if_neg (by rw [g]; omega)]
  · rw [if_neg op]
    simp (disch := (first | assumption | omega | ((repeat (refine mr_FIX_up ?_ (by unfold mr_nst; omega))); assumption))) [x35_5, x35_41]
    refine cont S (fun _ _ _ => rfl) (fun w => ?_)
    rw [if_neg (by omega)]
theorem mc_pre_k {M B S : ma_M} {V : Int → Int → Int} (hP : mc_pre M B V) (hN : M 1 0 ≤ 24) (h : ∀ c x, ¬ (38 ≤ c ∧ c ≤ 41) → S c x = B c x) : mc_pre M S V := by
  refine ⟨md_fr hP.1 (p := fun c => 38 ≤ c ∧ c ≤ 41) (fun c x hc => h c x hc) (fun c hc => by omega), fun c k a b => (h c k (by omega)).trans (hP.2.1 c k a b), fun u u0 u1 => ?_⟩
  rw [h 34 u (by omega), h (10 + u) 0 (by omega)]
  exact hP.2.2 u u0 u1
set_option maxHeartbeats 1000000 in
theorem mc_cnt1 {M B : ma_M} (hI : mr_INV M) {L : Int → Int → Int} (hL : mt_Lb M L) (hP : mc_pre M B (mt_V M L)) {O z6 : Int} {Q : Option ma_V → ma_S → ma_M → Prop} (cont : ∀ S : ma_M, (∀ c x, ¬ (38 ≤ c ∧ c ≤ 41) → S c x = B c x) → (∀ u, 0 ≤ u → u < M 1 0 → S 38 u = mc_F M (mt_V M L) u ∧ S 41 u = mc_m M (mt_V M L) u ∧ S 39 u = 0 ∧ S 40 u = 0) → ma_wp 31 64 [(2, 37), (2, 1), (2, 8), (2, 54), (0, O), (0, M 1 0), (3, z6)] [] mr_SH S Q) : ∀ (m : Nat) (v : Int) (S : ma_M), (M 1 0 - v).toNat < m → 0 ≤ v → v ≤ M 1 0 → (∀ c x, ¬ (38 ≤ c ∧ c ≤ 41) → S c x = B c x) → (∀ u, 0 ≤ u → u < v → S 38 u = mc_F M (mt_V M L) u ∧ S 41 u = mc_m M (mt_V M L) u ∧ S 39 u = 0 ∧ S 40 u = 0) → ma_wp 31 3 [(2, 37), (2, 1), (2, 8), (2, 54), (0, O), (0, v), (3, z6)] [] mr_SH S Q := by
  have hN := hI.2.1.1.2.1
  intro m
  induction m with
  | zero => intro v S h; omega
  | succ m ih =>
    intro v S hm h0 h1 hfr hv
    have hP1 := mc_pre_k hP hN hfr
    have hF1 := hP1.1
    have e10 : S 1 0 = M 1 0 := hP1.2.1 1 0 (by decide) (by decide)
    simp (disch := (first | assumption | omega | ((repeat (refine mr_FIX_up ?_ (by unfold mr_nst; omega))); assumption))) only [x31_3, s31_5, s31_6, x31_9, e10]
    refine ⟨fun h => ?_, fun h => ?_⟩
    · obtain rfl : v = M 1 0 := by omega
      exact cont S hfr hv
    · have v1 : v < M 1 0 := by omega
      have v24 : 0 ≤ v ∧ v < 24 := by omega
      simp (disch := (first | assumption | omega | ((repeat (refine mr_FIX_up ?_ (by unfold mr_nst; omega))); assumption))) only [s31_12, s31_13, x31_16, s31_18, s31_19, s31_20, x31_21, s31_23]
      refine mc_isF hI hP1 h0 v1 (mt_V_b hI hL 25 v (by omega) h0 v1).2.1 (fun u u0 u1 => (hv u u0 u1).1) ?_
      simp only [Option.toList_some, Option.toList_none, List.cons_append, List.nil_append]
      have f01 := mc_F01 hI (mt_V M L) h0 v1
      have fr2 : ∀ c x, ¬ (38 ≤ c ∧ c ≤ 41) → ma_up S 38 v (mc_F M (mt_V M L) v) c x = B c x := fun c x hc => (ma_up_ne (by omega)).trans (hfr c x hc)
      have hP2 := mc_pre_k hP hN fr2
      have hF2 := hP2.1
      simp (disch := (first | assumption | omega | ((repeat (refine mr_FIX_up ?_ (by unfold mr_nst; omega))); assumption))) [s31_26, s31_27, s31_28, x31_31, s31_33, s31_34, s31_35, x31_36, s31_38, v24, f01]
      refine mc_find hI hP2 h0 v1 (fun w w0 w1 => ?_) (fun w w0 w1 => (ma_up_ne (by decide)).trans (hv w w0 w1).2.1) ?_
      · by_cases e : w = v
        · subst e; exact ma_up_s
        · exact (ma_up_ne2 e).trans (hv w w0 (by omega)).1
      · simp only [Option.toList_some, Option.toList_none, List.cons_append, List.nil_append]
        simp (disch := (first | assumption | omega | ((repeat (refine mr_FIX_up ?_ (by unfold mr_nst; omega))); assumption))) [s31_41, s31_42, s31_43, x31_46, x31_48, s31_49, s31_50, s31_51, x31_54, x31_56, s31_57, x31_58, x31_61, v24, ma_32i]
        refine ih (v + 1) _ (by omega) (by omega) (by omega) (fun c x hc => ?_) (fun u u0 u1 => ?_)
        · rw [ma_up_ne (by omega), ma_up_ne (by omega), ma_up_ne (by omega)]
          exact fr2 c x hc
        · by_cases e : u = v
          · subst e
            exact ⟨(ma_up_ne (by decide)).trans ((ma_up_ne (by decide)).trans ((ma_up_ne (by decide)).trans ma_up_s)), (ma_up_ne (by decide)).trans ((ma_up_ne (by decide)).trans ma_up_s), (ma_up_ne (by decide)).trans ma_up_s, ma_up_s⟩
          · have h := hv u u0 (by omega)
            exact ⟨(ma_up_ne2 e).trans ((ma_up_ne2 e).trans ((ma_up_ne2 e).trans ((ma_up_ne2 e).trans h.1))), (ma_up_ne2 e).trans ((ma_up_ne2 e).trans ((ma_up_ne2 e).trans ((ma_up_ne2 e).trans h.2.1))), (ma_up_ne2 e).trans ((ma_up_ne2 e).trans ((ma_up_ne2 e).trans ((ma_up_ne2 e).trans h.2.2.1))), (ma_up_ne2 e).trans ((ma_up_ne2 e).trans ((ma_up_ne2 e).trans ((ma_up_ne2 e).trans h.2.2.2)))⟩
set_option maxHeartbeats 1000000 in
theorem mc_cnt2 {M B : ma_M} (hI : mr_INV M) (hFB : mr_FIX B) (e54 : ∀ i, B 54 i = M 54 i) {z6 : Int} {Q : Option ma_V → ma_S → ma_M → Prop} (h39 : ∀ w, 0 ≤ w → w < M 1 0 → B 39 w = 0) (cont : ∀ S : ma_M, (∀ c x, c ≠ 39 → S c x = B c x) → (∀ w, 0 ≤ w → w < M 1 0 → S 39 w = mc_o M (M 0 11).toNat w) → ma_wp 31 90 [(2, 37), (2, 1), (2, 8), (2, 54), (0, M 0 11), (0, M 0 11), (3, z6)] [] mr_SH S Q) : ∀ (m : Nat) (i : Nat) (S : ma_M), (M 0 11 - i).toNat < m → (i : Int) ≤ M 0 11 → (∀ c x, c ≠ 39 → S c x = B c x) → (∀ w, 0 ≤ w → w < M 1 0 → S 39 w = mc_o M i w) → ma_wp 31 67 [(2, 37), (2, 1), (2, 8), (2, 54), (0, M 0 11), (0, (i : Int)), (3, z6)] [] mr_SH S Q := by
  have hO := hI.2.1.2.2.2.1
  intro m
  induction m with
  | zero => intro i S h; omega
  | succ m ih =>
    intro i S hm h1 hfr hv
    have hF1 : mr_FIX S := md_fr hFB (p := fun c => c = 39) (fun c x hc => hfr c x hc) (fun c hc => by omega)
    simp (disch := (first | assumption | omega | ((repeat (refine mr_FIX_up ?_ (by unfold mr_nst; omega))); assumption))) only [x31_67, x31_69, x31_71]
    refine ⟨fun h => ?_, fun h => ?_⟩
    · have e : (i : Int) = M 0 11 := by omega
      have e2 : i = (M 0 11).toNat := by omega
      rw [e2] at hv
      rw [e]
      exact cont S hfr hv
    · have ho := mz_o hI (show (0 : Int) ≤ i by omega) (show (i : Int) < M 0 11 by omega)
      have i5 : 0 ≤ (i : Int) ∧ (i : Int) < 5 := by omega
      have v24 : 0 ≤ M 54 i ∧ M 54 i < 24 := ⟨ho.1, ho.2.2.2⟩
      have e : S 54 i = M 54 i := (hfr 54 i (by decide)).trans (e54 i)
      have nx : ma_wp 31 67 [(2, 37), (2, 1), (2, 8), (2, 54), (0, M 0 11), (0, (i : Int) + 1), (3, z6)] [] mr_SH (ma_up S 39 (M 54 i) 1) Q := by
        rw [show (i : Int) + 1 = ((i + 1 : Nat) : Int) by omega]
        refine ih (i + 1) _ (by omega) (by omega) (fun c x hc => (ma_up_ne hc).trans (hfr c x hc)) (fun w w0 w1 => ?_)
        show _ = if w = M 54 i then (1 : Int) else mc_o M i w
        by_cases q : w = M 54 i
        · rw [if_pos q, q, ma_up_s]
        · rw [if_neg q, ma_up_ne2 q, hv w w0 w1]
      simp (disch := (first | assumption | omega | ((repeat (refine mr_FIX_up ?_ (by unfold mr_nst; omega))); assumption))) only [s31_74, s31_75, x31_78, x31_79, x31_81, x31_82, s31_83, x31_84, x31_87, ma_32i, e, ml_54]
      refine ⟨by decide, i5, ⟨v24, Or.inr trivial⟩, nx⟩
/-- marks of the live nodes -/
def mc_l (M : ma_M) (V : Int → Int → Int) : Int → Int := mc_Lv M (mc_F M V) (M 1 0).toNat
/-- the answer of size -/
def mc_n (M : ma_M) (V : Int → Int → Int) : Int := ms_s (mc_cd (M 1 0) (mc_l M V) (mc_m M V) (M 1 0).toNat) (M 1 0).toNat
set_option maxHeartbeats 2000000 in
theorem mc_cnt3 {M B : ma_M} (hI : mr_INV M) {V : Int → Int → Int} (hFB : mr_FIX B) (hB : ∀ c k, 1 ≤ c → c ≤ 5 → B c k = M c k) (h38 : ∀ u, 0 ≤ u → u < M 1 0 → B 38 u = mc_F M V u) (h41 : ∀ u, 0 ≤ u → u < M 1 0 → B 41 u = mc_m M V u) {O : Int} {Q : Option ma_V → ma_S → ma_M → Prop} (cont : ∀ S : ma_M, (∀ c x, c ≠ 39 → c ≠ 40 → S c x = B c x) → Q (some (0, mc_n M V)) mr_SH S) : ∀ (m : Nat) (k : Nat) (t : Int) (S : ma_M), (M 1 0 - k).toNat < m → (k : Int) ≤ M 1 0 → (∀ c x, c ≠ 39 → c ≠ 40 → S c x = B c x) → (∀ w, 0 ≤ w → w < M 1 0 → S 39 w = mc_Lv M (mc_F M V) k w) → (∀ c, 0 ≤ c → c < M 1 0 → S 40 c = mc_cd (M 1 0) (mc_l M V) (mc_m M V) k c) → t = ms_s (mc_cd (M 1 0) (mc_l M V) (mc_m M V) k) (M 1 0).toNat → 0 ≤ t → t ≤ k → ma_wp 31 101 [(2, 37), (2, 1), (2, 8), (2, 54), (0, O), (0, t), (0, M 1 0 - 1 - k)] [] mr_SH S Q := by
  have hN := hI.2.1.1.2.1
  have hN0 := hI.2.1.1.1
  intro m
  induction m with
  | zero => intro k t S h; omega
  | succ m ih =>
    intro k t S hm h1 hfr hl hc ht t0 t1
    have hF1 : mr_FIX S := md_fr hFB (p := fun c => c = 39 ∨ c = 40) (fun c x hc => hfr c x (by omega) (by omega)) (fun c hc => by omega)
    simp (disch := (first | assumption | omega | ((repeat (refine mr_FIX_up ?_ (by unfold mr_nst; omega))); assumption))) only [x31_101, x31_103]
    refine ⟨fun h => ?_, fun h => ?_⟩
    · have e : k = (M 1 0).toNat := by omega
      subst e
      simp (disch := (first | assumption | omega | ((repeat (refine mr_FIX_up ?_ (by unfold mr_nst; omega))); assumption))) only [x31_167, x31_169]
      rw [ht]
      exact cont S hfr
    · generalize hx : M 1 0 - 1 - (k : Int) = x at *
      have x0 : 0 ≤ x := by omega
      have x1 : x < M 1 0 := by omega
      have x24 : 0 ≤ x ∧ x < 24 := by omega
      have lx : mc_Lv M (mc_F M V) k x = mc_l M V x := by
        have := mc_Lv_st hI (mc_F M V) (w := x) ((M 1 0).toNat - k) k (by omega) (by omega)
        rw [show k + ((M 1 0).toNat - k) = (M 1 0).toNat by omega] at this
        exact this.symm
      have e39 : S 39 x = mc_l M V x := (hl x x0 x1).trans lx
      have es : ∀ w, mc_Lv M (mc_F M V) (k + 1) w = if (mc_l M V x = 1 ∧ mc_F M V x = 0 ∧ M 2 x ≤ 6) ∧ (w = M 3 x ∨ w = M 4 x) then 1 else mc_Lv M (mc_F M V) k w := fun w => by
        rw [mc_Lv_s, hx, lx]
      have cs : ∀ c, mc_cd (M 1 0) (mc_l M V) (mc_m M V) (k + 1) c = if mc_l M V x = 1 ∧ mc_m M V x = c then 1 else mc_cd (M 1 0) (mc_l M V) (mc_m M V) k c := fun c => by
        show (if mc_l M V (M 1 0 - 1 - (k : Int)) = 1 ∧ mc_m M V (M 1 0 - 1 - (k : Int)) = c then (1 : Int) else _) = _
        rw [hx]
      have ek : M 1 0 - 1 - ((k + 1 : Nat) : Int) = x - 1 := by omega
      have mp := (mc_m_p hI V x0 x1).1
      have m24 : 0 ≤ mc_m M V x ∧ mc_m M V x < 24 := by omega
      have c01 := mc_cd01 (M 1 0) (mc_l M V) (mc_m M V) k (mc_m M V x)
      have sum := mc_supd (f := mc_cd (M 1 0) (mc_l M V) (mc_m M V) k) (p := mc_l M V x = 1) mp.1 c01 (M 1 0).toNat
      rw [← ht] at sum
      have sum2 : ms_s (mc_cd (M 1 0) (mc_l M V) (mc_m M V) (k + 1)) (M 1 0).toNat = t + if (mc_l M V x = 1 ∧ mc_cd (M 1 0) (mc_l M V) (mc_m M V) k (mc_m M V x) = 0) ∧ mc_m M V x < (M 1 0).toNat then 1 else 0 := by
        rw [← sum]
        exact mc_scg _ (fun c _ _ => cs c)
      rcases mc_Lv01 M (mc_F M V) x (M 1 0).toNat with g | g
      · -- not live
        have g : mc_l M V x = 0 := g
        rw [if_neg (by rw [g]; omega)] at sum2
        simp (disch := (first | assumption | omega | ((repeat (refine mr_FIX_up ?_ (by unfold mr_nst; omega))); assumption))) [s31_106, s31_107, x31_110, s31_112, x31_113, x31_161, x31_164, e39, g, x24, ma_32i]
        have nx := ih (k + 1) t S (by omega) (by omega) hfr (fun w w0 w1 => ?_) (fun c a b => ?_) (by omega) t0 (by omega)
        · rw [ek] at nx
          exact nx
        · rw [es, if_neg (by rw [g]; omega)]; exact hl w w0 w1
        · rw [cs, if_neg (by rw [g]; omega)]; exact hc c a b
      · have g : mc_l M V x = 1 := g
        simp (disch := (first | assumption | omega | ((repeat (refine mr_FIX_up ?_ (by unfold mr_nst; omega))); assumption))) [s31_106, s31_107, x31_110, s31_112, x31_113, s31_116, s31_117, x31_118, s31_120, e39, g, x24]
        refine mc_enl hI hF1 (fun c k a b => (hfr c k (by omega) (by omega)).trans (hB c k a b)) x0 x1 (F := mc_F M V) ((hfr 38 x (by decide) (by decide)).trans (h38 x x0 x1)) (mc_F01 hI V x0 x1) (fun S2 hf2 hl2 => ?_)
        have hF2 : mr_FIX S2 := md_fr hF1 (p := fun c => c = 39) (fun c x hc => hf2 c x hc) (fun c hc => by omega)
        have e41 : S2 41 x = mc_m M V x := (hf2 41 x (by decide)).trans ((hfr 41 x (by decide) (by decide)).trans (h41 x x0 x1))
        have e40 : S2 40 (mc_m M V x) = mc_cd (M 1 0) (mc_l M V) (mc_m M V) k (mc_m M V x) := (hf2 40 _ (by decide)).trans (hc _ mp.1 (by omega))
        have nx : ∀ t2 : Int, t2 = ms_s (mc_cd (M 1 0) (mc_l M V) (mc_m M V) (k + 1)) (M 1 0).toNat → 0 ≤ t2 → t2 ≤ k + 1 → ma_wp 31 101 [(2, 37), (2, 1), (2, 8), (2, 54), (0, O), (0, t2), (0, x - 1)] [] mr_SH (ma_up S2 40 (mc_m M V x) 1) Q := fun t2 ht2 a b => by
          have nx := ih (k + 1) t2 (ma_up S2 40 (mc_m M V x) 1) (by omega) (by omega) (fun c y c1 c2 => (ma_up_ne c2).trans ((hf2 c y c1).trans (hfr c y c1 c2))) (fun w w0 w1 => ?_) (fun c c0 c1 => ?_) ht2 a (by omega)
          · rw [ek] at nx
            exact nx
          · rw [ma_up_ne (by decide), hl2 w, es, hl w w0 w1]
            simp only [g, true_and]
          · rw [cs]
            by_cases q : c = mc_m M V x
            · rw [q, ma_up_s, if_pos ⟨g, rfl⟩]
            · rw [ma_up_ne2 q, if_neg (fun z => q z.2.symm), hf2 40 c (by decide)]
              exact hc c c0 c1
        simp only [Option.toList_some, Option.toList_none, List.cons_append, List.nil_append]
        rcases c01 with q | q
        · rw [if_pos ⟨⟨g, q⟩, by omega⟩] at sum2
          have := nx (t + 1) sum2.symm (by omega) (by omega)
          rw [q] at e40
          simp (disch := (first | assumption | omega | ((repeat (refine mr_FIX_up ?_ (by unfold mr_nst; omega))); assumption))) [x31_123, s31_125, s31_126, s31_129, s31_130, x31_133, s31_135, s31_136, x31_137, x31_140, x31_141, x31_144, x31_145, x31_146, s31_148, s31_149, s31_152, s31_153, x31_156, s31_158, x31_159, s31_160, x31_161, x31_164, e41, e40, x24, m24, ma_32i]
          exact this
        · rw [if_neg (by rw [q]; omega)] at sum2
          have := nx t (by omega) (by omega) (by omega)
          rw [q] at e40
          simp (disch := (first | assumption | omega | ((repeat (refine mr_FIX_up ?_ (by unfold mr_nst; omega))); assumption))) [x31_123, s31_125, s31_126, s31_129, s31_130, x31_133, s31_135, s31_136, x31_137, x31_140, x31_141, x31_144, x31_145, x31_146, s31_148, s31_149, s31_152, s31_153, x31_156, s31_158, x31_159, s31_160, x31_161, x31_164, e41, e40, x24, m24, ma_32i]
          exact this
