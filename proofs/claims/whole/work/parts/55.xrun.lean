/-- a line: point and direction -/
def mt_L (p d : Int → Int) : Int → Int → Int := fun j n => if n = 0 then p j else if n = 1 then d j else 0
theorem mt_L_b {M : ma_M} {p d : Int → Int} (hp : ∀ j, 0 ≤ j → j < M 1 1 → 0 ≤ p j ∧ p j < 65521) (hd : ∀ j, 0 ≤ j → j < M 1 1 → 0 ≤ d j ∧ d j < 65521) : mt_Lb M (mt_L p d) := fun j n j0 j1 _ _ => by
  unfold mt_L
  split
  · exact hp j j0 j1
  · split
    · exact hd j j0 j1
    · decide
def mx_fr (M M1 : ma_M) (v : Int) : Prop := (∀ c k, ¬ (10 ≤ c ∧ c ≤ 34) → M1 c k = M c k) ∧ (∀ w, v ≤ w → w < 24 → ∀ k, M1 (10 + w) k = M (10 + w) k) ∧ ∀ w, 0 ≤ w → w < v → (M 2 w = 7 → ∀ k, 2 ≤ k → M1 (10 + w) k = M (10 + w) k) ∧ (M 2 w = 8 → ∀ k, 1 ≤ k → M1 (10 + w) k = M (10 + w) k)
theorem mx_fr_F {M M1 : ma_M} {v : Int} (hF : mr_FIX M) (h : mx_fr M M1 v) : mr_FIX M1 := md_fr hF (p := fun c => 10 ≤ c ∧ c ≤ 34) (fun c k hc => h.1 c k hc) (fun c hc => by omega)
theorem mx_fr_I {M M1 : ma_M} (hI : mr_INV M) (h : mx_fr M M1 (M 1 0)) : mr_INV M1 := by
  have hcn := hI.2.1
  unfold mr_cnt at hcn
  refine mr_INV_scr hI (fun c i hc => h.1 c i (fun z => hc (by unfold mr_scr; omega))) (fun v k v0 v1 k0 k1 hk => ?_)
  by_cases hv : M 1 0 ≤ v
  · exact h.2.1 v hv v1 k
  · have := h.2.2 v v0 (by omega)
    rcases hk with hk | ⟨a, b⟩ | ⟨a, b⟩
    · omega
    · exact this.1 a k b
    · exact this.2 a k b
theorem mx_ag_fr {M1 M2 : ma_M} {V : Int → Int → Int} {o u v : Int} (hu0 : 0 ≤ u) (hu : u < 24) (h : mx_ag M1 V o u) (hne : u ≠ v) (h34 : ∀ w, w ≠ v → M2 34 w = M1 34 w) (hr : ∀ k, M2 (10 + u) k = M1 (10 + u) k) : mx_ag M2 V o u := by
  unfold mx_ag at h ⊢
  rw [h34 u hne]
  simp only [hr]
  exact h
/-- isOperation -/
theorem mx_isOp {M1 : ma_M} (hF1 : mr_FIX M1) {v : Int} (v0 : 0 ≤ v) (v1 : v < 24) {Q : Option ma_V → ma_S → ma_M → Prop} : mr_do 7 [(2, 1), (0, v)] mr_SH M1 Q ↔ Q (some (0, if M1 2 v ≤ 6 then 1 else 0)) mr_SH M1 := by
  by_cases h : M1 2 v ≤ 6
  · have h' : ¬ 6 < M1 2 v := by omega
    simp (disch := (first | assumption | omega | ((repeat (refine mr_FIX_up ?_ (by unfold mr_nst; omega))); assumption))) [x7, s7_0, s7_1, x7_4, s7_5, x7_6, x7_8, x7_11, x7_12, x7_15, x7_16, v0, v1, h, h']
  · have h' : 6 < M1 2 v := by omega
    simp (disch := (first | assumption | omega | ((repeat (refine mr_FIX_up ?_ (by unfold mr_nst; omega))); assumption))) [x7, s7_0, s7_1, x7_4, s7_5, x7_6, x7_8, x7_11, x7_12, x7_15, x7_16, v0, v1, h, h']
theorem mx_fr_step {M M1 M2 : ma_M} {v : Int} (hf : mx_fr M M1 v) (v0 : 0 ≤ v) (v1 : v < 24) (h : ∀ c k, c ≠ 10 + v → c ≠ 34 → M2 c k = M1 c k) (h7 : M 2 v = 7 → ∀ k, 2 ≤ k → M2 (10 + v) k = M1 (10 + v) k) (h8 : M 2 v = 8 → ∀ k, 1 ≤ k → M2 (10 + v) k = M1 (10 + v) k) : mx_fr M M2 (v + 1) := by
  refine ⟨fun c k hc => ?_, fun w w0 w1 k => ?_, fun w w0 w1 => ?_⟩
  · rw [h c k (by omega) (by omega)]; exact hf.1 c k hc
  · rw [h _ k (by omega) (by omega)]; exact hf.2.1 w (by omega) w1 k
  · by_cases e : w = v
    · subst e
      exact ⟨fun z k hk => (h7 z k hk).trans (hf.2.1 w (by omega) v1 k), fun z k hk => (h8 z k hk).trans (hf.2.1 w (by omega) v1 k)⟩
    · have := hf.2.2 w w0 (by omega)
      refine ⟨fun z k hk => ?_, fun z k hk => ?_⟩
      · rw [h _ k (by omega) (by omega)]; exact this.1 z k hk
      · rw [h _ k (by omega) (by omega)]; exact this.2 z k hk
/-- what a step leaves -/
def mx_stp (M1 M2 : ma_M) (V : Int → Int → Int) (o v : Int) : Prop := mx_ag M2 V o v ∧ (∀ w, w ≠ v → M2 34 w = M1 34 w) ∧ ∀ c k, c ≠ 10 + v → c ≠ 34 → M2 c k = M1 c k
theorem mx_01 {x : Int} (h : x = 0 ∨ x = 1) (h1 : ¬ x = 1) : x = 0 := by omega
set_option maxHeartbeats 1000000 in
theorem mx_good {M M1 : ma_M} {L V : Int → Int → Int} {at_ al o v s : Int} (hF1 : mr_FIX M1) (hop : M 2 v ≤ 6) (hopn : mt_opn M v) (v0 : 0 ≤ v) (v1 : v < 24) (hV : ∀ n, V v n = mt_nv M L V v n) (o0 : 0 ≤ o) (o1 : o ≤ 8) (e2 : M1 2 v = M 2 v) (e3 : M1 3 v = M 3 v) (e4 : M1 4 v = M 4 v) (e5 : M1 5 v = M 5 v) (u1 : V (M 3 v) 9 = 0) (u2 : V (M 4 v) 9 = 0) (r1 : V (M 3 v) 10 = 0 ∨ V (M 3 v) 10 = 1) (r2 : V (M 4 v) 10 = 0 ∨ V (M 4 v) 10 = 1) (ga : mx_ag M1 V o (M 3 v)) (gb : mx_ag M1 V o (M 4 v)) (h3 : ¬ (M 2 v = 3 ∧ V (M 4 v) 0 = 0)) (hs : (s = -2 ∧ (V (M 3 v) 10 = 1 ∨ V (M 4 v) 10 = 1 ∨ ((M 2 v = 4 ∨ M 2 v = 5) ∧ V (M 3 v) 0 = V (M 4 v) 0))) ∨ (s = 0 ∧ ¬ (V (M 3 v) 10 = 1 ∨ V (M 4 v) 10 = 1 ∨ ((M 2 v = 4 ∨ M 2 v = 5) ∧ V (M 3 v) 0 = V (M 4 v) 0)))) {Q : Option ma_V → ma_S → ma_M → Prop} (nx : ∀ M2 : ma_M, mx_stp M1 M2 V o v → ma_wp 15 75 [(2, 8), (2, 1), (2, at_), (2, al), (0, o), (0, v)] [] mr_SH M2 Q) : ma_wp 15 34 [(2, 8), (2, 1), (2, at_), (2, al), (0, o), (0, v)] [(0, s), (0, v), (2, 34)] mr_SH M1 Q := by
  have ga2 := ga.2 u1
  have gb2 := gb.2 u2
  obtain ⟨hk0, ha0, hb0, -, -, -, h6⟩ := hopn
  have hU : ¬ (V (M 3 v) 9 = 1 ∨ V (M 4 v) 9 = 1 ∨ (M 2 v = 3 ∧ V (M 4 v) 0 = 0)) := by
    rintro (z | z | z)
    · rw [u1] at z; exact absurd z (by decide)
    · rw [u2] at z; exact absurd z (by decide)
    · exact h3 z
  have sne : ¬ s = -1 := by rcases hs with ⟨rfl, _⟩ | ⟨rfl, _⟩ <;> decide
  have va : M 3 v < 24 := by omega
  have vb : M 4 v < 24 := by omega
  have nav : M 3 v ≠ v := by omega
  have nbv : M 4 v ≠ v := by omega
  have ca : 10 + M 3 v ≠ 34 := by omega
  have cb : 10 + M 4 v ≠ 34 := by omega
  have cv : (34 : Int) ≠ 10 + v := by omega
  have b24 : 0 ≤ v ∧ v < 24 := ⟨v0, v1⟩
  have hF2 : mr_FIX (ma_up M1 34 v s) := mr_FIX_up hF1 (by unfold mr_nst; exact ⟨fun z => absurd z (by decide), fun z => absurd z (by decide), by decide, by decide, by decide, by decide, fun z => absurd z (by decide), by decide, by decide, fun z => absurd z (by decide)⟩)
  have rA : ∀ k, ma_up M1 34 v s (10 + M 3 v) k = M1 (10 + M 3 v) k := fun k => ma_up_ne ca
  have rB : ∀ k, ma_up M1 34 v s (10 + M 4 v) k = M1 (10 + M 4 v) k := fun k => ma_up_ne cb
  have eA : ma_up M1 34 v s (10 + M 3 v) = M1 (10 + M 3 v) := funext rA
  have eB : ma_up M1 34 v s (10 + M 4 v) = M1 (10 + M 4 v) := funext rB
  simp (disch := (first | assumption | omega | ((repeat (refine mr_FIX_up ?_ (by unfold mr_nst; omega))); assumption))) only [s15_34, s15_35, s15_36, x15_39, s15_41, x15_42, x15_43, ma_up_s]
  refine ⟨b24, b24, fun z => absurd z sne, fun _ => ?_⟩
  simp (disch := (first | assumption | omega | ((repeat (refine mr_FIX_up ?_ (by unfold mr_nst; omega))); assumption))) only [s15_46, s15_47, x15_48, x15_50, s15_52]
  refine mx_operate hF2 (e := M 5 v) hk0.1 hop v0 v1 ha0.1 va nav hb0.1 vb nbv ((ma_up_ne (by decide)).trans e2) ((ma_up_ne (by decide)).trans e3) ((ma_up_ne (by decide)).trans e4) (fun z => ⟨(ma_up_ne (by decide)).trans e5, (h6 z).2.1, (h6 z).2.2.1⟩) o0 o1 (fun n n0 n1 => by rw [rA]; exact ga2.1 n n0 n1) (fun n n0 n1 => by rw [rB]; exact gb2.1 n n0 n1) (fun M2 hf2 hr2 => ?_)
  rw [eA, eB] at hr2
  simp only [Option.toList_some, Option.toList_none, List.cons_append, List.nil_append]
  simp (disch := (first | assumption | omega | ((repeat (refine mr_FIX_up ?_ (by unfold mr_nst; omega))); assumption))) only [x15_55]
  refine nx M2 ⟨⟨?_, fun _ => ⟨fun n n0 n1 => ?_, ?_, fun hR n n0 n1 => ?_⟩⟩, fun w hw => ?_, fun c k hc hc2 => ?_⟩
  · rw [hf2 34 v cv, ma_up_s]
    unfold mx_st
    rw [hV 9, mt_nv9 hop hU, if_neg (by decide), hV 10, mt_nv10 hop hU]
    rcases hs with ⟨rfl, hs⟩ | ⟨rfl, hs⟩
    · rw [if_pos hs, if_pos rfl]
    · rw [if_neg hs, if_neg (by decide)]
  · rw [hr2 n n0 n1]
    exact mx_op_b n0 (Int.lt_of_le_of_lt (Int.le_trans n1 o1) (by decide)) (ga2.1 n n0 n1) (gb2.1 n n0 n1)
  · rw [hr2 0 (by decide) o0, mx_op_0, hV 0, mt_nvO hop hU (by decide)]
    refine mt_op_congr (m := 0) (by decide) (by decide) (by decide) (fun i i0 i1 => ?_) (fun i i0 i1 => ?_)
    · obtain rfl := Int.le_antisymm i1 i0
      exact ga2.2.1
    · obtain rfl := Int.le_antisymm i1 i0
      exact gb2.2.1
  · rw [hV 10, mt_nv10 hop hU] at hR
    have hs2 : ¬ (V (M 3 v) 10 = 1 ∨ V (M 4 v) 10 = 1 ∨ ((M 2 v = 4 ∨ M 2 v = 5) ∧ V (M 3 v) 0 = V (M 4 v) 0)) := fun z => by
      rw [if_pos z] at hR
      exact absurd hR (by decide)
    rw [hr2 n n0 n1, mx_op_ne (fun z => by rw [ga2.2.1, gb2.2.1]; exact fun w => hs2 (Or.inr (Or.inr ⟨Or.inr z, w⟩))), hV n, mt_nvO hop hU (Int.le_trans n1 o1)]
    exact mt_op_congr n0 n1 (Int.lt_of_le_of_lt o1 (by decide)) (ga2.2.2 (mx_01 r1 (fun z => hs2 (Or.inl z)))) (gb2.2.2 (mx_01 r2 (fun z => hs2 (Or.inr (Or.inl z)))))
  · rw [hf2 34 w cv, ma_up_ne2 hw]
  · rw [hf2 c k hc, ma_up_ne hc2]
set_option maxHeartbeats 1000000 in
theorem mx_stepO {M M1 : ma_M} {L V : Int → Int → Int} {at_ al o v : Int} (hF1 : mr_FIX M1) (hop : M 2 v ≤ 6) (hopn : mt_opn M v) (v0 : 0 ≤ v) (v1 : v < 24) (hV : ∀ n, V v n = mt_nv M L V v n) (o0 : 0 ≤ o) (o1 : o ≤ 8) (e2 : M1 2 v = M 2 v) (e3 : M1 3 v = M 3 v) (e4 : M1 4 v = M 4 v) (e5 : M1 5 v = M 5 v) (u1 : V (M 3 v) 9 = 0 ∨ V (M 3 v) 9 = 1) (u2 : V (M 4 v) 9 = 0 ∨ V (M 4 v) 9 = 1) (r1 : V (M 3 v) 10 = 0 ∨ V (M 3 v) 10 = 1) (r2 : V (M 4 v) 10 = 0 ∨ V (M 4 v) 10 = 1) (ga : mx_ag M1 V o (M 3 v)) (gb : mx_ag M1 V o (M 4 v)) {Q : Option ma_V → ma_S → ma_M → Prop} (nx : ∀ M2 : ma_M, mx_stp M1 M2 V o v → ma_wp 15 75 [(2, 8), (2, 1), (2, at_), (2, al), (0, o), (0, v)] [] mr_SH M2 Q) : ma_wp 15 12 [(2, 8), (2, 1), (2, at_), (2, al), (0, o), (0, v)] [] mr_SH M1 Q := by
  have b24 : 0 ≤ v ∧ v < 24 := ⟨v0, v1⟩
  obtain ⟨hk0, ha0, hb0, -⟩ := id hopn
  have va : M 3 v < 24 := by omega
  have vb : M 4 v < 24 := by omega
  simp (disch := (first | assumption | omega | ((repeat (refine mr_FIX_up ?_ (by unfold mr_nst; omega))); assumption))) only [s15_12, x15_13, s15_15]
  rw [mx_isOp hF1 v0 v1, e2, if_pos hop]
  simp only [Option.toList_some, Option.toList_none, List.cons_append, List.nil_append]
  simp (disch := (first | assumption | omega | ((repeat (refine mr_FIX_up ?_ (by unfold mr_nst; omega))); assumption))) [x15_18, s15_21, s15_22, x15_25, s15_27, s15_28, x15_29, s15_31]
  refine mx_findState hF1 v0 v1 ha0.1 va hb0.1 vb e2 e3 e4 ga.1 gb.1 (fun hU => ?_) (fun x1 x2 h3 hR => ?_) (fun x1 x2 h3 hR => ?_)
  · simp only [Option.toList_some, Option.toList_none, List.cons_append, List.nil_append]
    have hF2 : mr_FIX (ma_up M1 34 v (-1)) := mr_FIX_up hF1 (by unfold mr_nst; exact ⟨fun z => absurd z (by decide), fun z => absurd z (by decide), by decide, by decide, by decide, by decide, fun z => absurd z (by decide), by decide, by decide, fun z => absurd z (by decide)⟩)
    simp (disch := (first | assumption | omega | ((repeat (refine mr_FIX_up ?_ (by unfold mr_nst; omega))); assumption))) only [s15_34, s15_35, s15_36, x15_39, s15_41, x15_42, x15_43, ma_up_s]
    refine ⟨b24, b24, fun _ => ?_, fun z => absurd trivial z⟩
    have hU2 : V (M 3 v) 9 = 1 ∨ V (M 4 v) 9 = 1 ∨ (M 2 v = 3 ∧ V (M 4 v) 0 = 0) := by
      rcases hU with z | z | ⟨z1, z2, z3, z4⟩
      · exact Or.inl z
      · exact Or.inr (Or.inl z)
      · rw [(gb.2 (mx_01 u2 z2)).2.1] at z4
        exact Or.inr (Or.inr ⟨z3, z4⟩)
    refine nx _ ⟨⟨?_, fun z => ?_⟩, fun w hw => ma_up_ne2 hw, fun c k hc hc2 => ma_up_ne hc2⟩
    · rw [ma_up_s]
      unfold mx_st
      rw [hV 9, mt_nvU hop hU2, if_pos rfl, if_pos rfl]
    · rw [hV 9, mt_nvU hop hU2, if_pos rfl] at z
      exact absurd z (by decide)
  · simp only [Option.toList_some, Option.toList_none, List.cons_append, List.nil_append]
    have y1 := mx_01 u1 x1
    have y2 := mx_01 u2 x2
    rw [(ga.2 y1).2.1, (gb.2 y2).2.1] at hR
    rw [(gb.2 y2).2.1] at h3
    exact mx_good hF1 hop hopn v0 v1 hV o0 o1 e2 e3 e4 e5 y1 y2 r1 r2 ga gb h3 (Or.inl ⟨rfl, hR⟩) nx
  · simp only [Option.toList_some, Option.toList_none, List.cons_append, List.nil_append]
    have y1 := mx_01 u1 x1
    have y2 := mx_01 u2 x2
    rw [(ga.2 y1).2.1, (gb.2 y2).2.1] at hR
    rw [(gb.2 y2).2.1] at h3
    exact mx_good hF1 hop hopn v0 v1 hV o0 o1 e2 e3 e4 e5 y1 y2 r1 r2 ga gb h3 (Or.inr ⟨rfl, hR⟩) nx
set_option maxHeartbeats 1000000 in
theorem mx_step8 {M M1 : ma_M} {L V : Int → Int → Int} {at_ al o v : Int} (hF1 : mr_FIX M1) (h8 : M 2 v = 8) (v0 : 0 ≤ v) (v1 : v < 24) (hV : ∀ n, V v n = mt_nv M L V v n) (o1 : o ≤ 8) (e2 : M1 2 v = M 2 v) (e5 : M1 5 v = M 5 v) (d0 : 0 ≤ M 5 v) (d1 : M 5 v < 65521) (hz : ∀ k, 1 ≤ k → k ≤ 8 → M1 (10 + v) k = 0) (hat : at_ ≠ -1) (hal : al ≠ -1) {Q : Option ma_V → ma_S → ma_M → Prop} (nx : ∀ M2 : ma_M, mx_stp M1 M2 V o v → (∀ k, 1 ≤ k → M2 (10 + v) k = M1 (10 + v) k) → ma_wp 15 75 [(2, 8), (2, 1), (2, at_), (2, al), (0, o), (0, v)] [] mr_SH M2 Q) : ma_wp 15 12 [(2, 8), (2, 1), (2, at_), (2, al), (0, o), (0, v)] [] mr_SH M1 Q := by
  have hop : ¬ M 2 v ≤ 6 := by omega
  have cv : (34 : Int) ≠ 10 + v := by omega
  have hF2 : mr_FIX (ma_up M1 34 v 0) := mr_FIX_up hF1 (by unfold mr_nst; omega)
  simp (disch := (first | assumption | omega | ((repeat (refine mr_FIX_up ?_ (by unfold mr_nst; omega))); assumption))) only [s15_12, x15_13, s15_15]
  rw [mx_isOp hF1 v0 v1, e2, if_neg hop]
  simp only [Option.toList_some, Option.toList_none, List.cons_append, List.nil_append]
  simp (disch := (first | assumption | omega | ((repeat (refine mr_FIX_up ?_ (by unfold mr_nst; omega))); assumption))) [x15_18, s15_58, s15_59, x15_62, x15_64, s15_65, s15_66, s15_67, x15_68, x15_70, x15_71, s15_72]
  refine ⟨by omega, hat, hal, ?_⟩
  have e5' : ma_up M1 34 v 0 5 v = M 5 v := (ma_up_ne (by decide)).trans e5
  refine mx_begin8 hF2 v0 v1 ((ma_up_ne (by decide)).trans (e2.trans h8)) e5' ?_
  simp only [Option.toList_some, Option.toList_none, List.cons_append, List.nil_append]
  have hrow : ∀ k, k ≠ 0 → ma_up (ma_up M1 34 v 0) (10 + v) 0 (M 5 v) (10 + v) k = M1 (10 + v) k := fun k hk => by
    rw [ma_up_ne2 hk, ma_up_ne (by omega)]
  have hall : ∀ n, 0 ≤ n → n ≤ o → ma_up (ma_up M1 34 v 0) (10 + v) 0 (M 5 v) (10 + v) n = V v n := fun n n0 n1 => by
    by_cases e : n = 0
    · subst e
      rw [ma_up_s, hV 0, mt_nv8 h8, if_pos rfl]
    · rw [hrow n e, hz n (by omega) (by omega), hV n, mt_nv8 h8, if_neg e]
  refine nx _ ⟨⟨?_, fun _ => ⟨fun n n0 n1 => ?_, ?_, fun _ n n0 n1 => hall n n0 n1⟩⟩, fun w hw => ?_, fun c k hc hc2 => ?_⟩ (fun k hk => hrow k (by omega))
  · rw [ma_up_ne cv, ma_up_s]
    unfold mx_st
    rw [hV 9, hV 10, mt_nv8 h8, mt_nv8 h8, if_neg (show ¬ (10 : Int) = 0 by decide), if_neg (show ¬ (9 : Int) = 0 by decide), if_neg (by decide), if_neg (by decide)]
  · rw [hall n n0 n1, hV n, mt_nv8 h8]
    split <;> omega
  · rw [ma_up_s, hV 0, mt_nv8 h8, if_pos rfl]
  · rw [ma_up_ne cv, ma_up_ne2 hw]
  · rw [ma_up_ne hc, ma_up_ne hc2]
set_option maxHeartbeats 1000000 in
theorem mx_step7 {M M1 : ma_M} {V : Int → Int → Int} {p d : Int → Int} {at_ al o v : Int} (hF1 : mr_FIX M1) (h7 : M 2 v = 7) (v0 : 0 ≤ v) (v1 : v < 24) (hV : ∀ n, V v n = mt_nv M (mt_L p d) V v n) (o1 : o ≤ 8) (e2 : M1 2 v = M 2 v) (e5 : M1 5 v = M 5 v) (d0 : 0 ≤ M 5 v) (d1 : M 5 v < 5) (hz : ∀ k, 2 ≤ k → k ≤ 8 → M1 (10 + v) k = 0) (hat : mx_ar at_ 5) (hal : mx_ar al 5) (hat1 : ¬ (10 ≤ at_ ∧ at_ ≤ 34)) (hal1 : ¬ (10 ≤ al ∧ al ≤ 34)) (ep : M1 at_ (M 5 v) = p (M 5 v)) (ed : M1 al (M 5 v) = d (M 5 v)) (bL : ∀ n, 0 ≤ n → n ≤ 8 → 0 ≤ mt_L p d (M 5 v) n ∧ mt_L p d (M 5 v) n < 65521) {Q : Option ma_V → ma_S → ma_M → Prop} (nx : ∀ M2 : ma_M, mx_stp M1 M2 V o v → (∀ k, 2 ≤ k → M2 (10 + v) k = M1 (10 + v) k) → ma_wp 15 75 [(2, 8), (2, 1), (2, at_), (2, al), (0, o), (0, v)] [] mr_SH M2 Q) : ma_wp 15 12 [(2, 8), (2, 1), (2, at_), (2, al), (0, o), (0, v)] [] mr_SH M1 Q := by
  have hop : ¬ M 2 v ≤ 6 := by omega
  have cv : (34 : Int) ≠ 10 + v := by omega
  have hF2 : mr_FIX (ma_up M1 34 v 0) := mr_FIX_up hF1 (by unfold mr_nst; omega)
  simp (disch := (first | assumption | omega | ((repeat (refine mr_FIX_up ?_ (by unfold mr_nst; omega))); assumption))) only [s15_12, x15_13, s15_15]
  rw [mx_isOp hF1 v0 v1, e2, if_neg hop]
  simp only [Option.toList_some, Option.toList_none, List.cons_append, List.nil_append]
  simp (disch := (first | assumption | omega | ((repeat (refine mr_FIX_up ?_ (by unfold mr_nst; omega))); assumption))) [x15_18, s15_58, s15_59, x15_62, x15_64, s15_65, s15_66, s15_67, x15_68, x15_70, x15_71, s15_72]
  refine ⟨by omega, hat.1, hal.1, ?_⟩
  have e5' : ma_up M1 34 v 0 5 v = M 5 v := (ma_up_ne (by decide)).trans e5
  refine mx_begin7 hF2 v0 v1 ((ma_up_ne (by decide)).trans (e2.trans h7)) e5' d0 d1 hat hal hal1 ?_
  have ep' : ma_up M1 34 v 0 at_ (M 5 v) = p (M 5 v) := (ma_up_ne (by omega)).trans ep
  have ed' : ma_up M1 34 v 0 al (M 5 v) = d (M 5 v) := (ma_up_ne (by omega)).trans ed
  rw [ep', ed']
  simp only [Option.toList_some, Option.toList_none, List.cons_append, List.nil_append]
  have hrow : ∀ k, k ≠ 0 → k ≠ 1 → ma_up (ma_up (ma_up M1 34 v 0) (10 + v) 0 (p (M 5 v))) (10 + v) 1 (d (M 5 v)) (10 + v) k = M1 (10 + v) k := fun k hk hk1 => by
    rw [ma_up_ne2 hk1, ma_up_ne2 hk, ma_up_ne (by omega)]
  have hr0 : ma_up (ma_up (ma_up M1 34 v 0) (10 + v) 0 (p (M 5 v))) (10 + v) 1 (d (M 5 v)) (10 + v) 0 = p (M 5 v) := by rw [ma_up_ne2 (by decide), ma_up_s]
  have hr1 : ma_up (ma_up (ma_up M1 34 v 0) (10 + v) 0 (p (M 5 v))) (10 + v) 1 (d (M 5 v)) (10 + v) 1 = d (M 5 v) := ma_up_s
  have hLn : ∀ n, 0 ≤ n → n ≤ 8 → ma_up (ma_up (ma_up M1 34 v 0) (10 + v) 0 (p (M 5 v))) (10 + v) 1 (d (M 5 v)) (10 + v) n = mt_L p d (M 5 v) n := fun n n0 n1 => by
    unfold mt_L
    by_cases e : n = 0
    · subst e; rw [hr0, if_pos rfl]
    · by_cases e1 : n = 1
      · subst e1; rw [hr1, if_neg (by decide), if_pos rfl]
      · rw [hrow n e e1, if_neg e, if_neg e1]; exact hz n (by omega) n1
  refine nx _ ⟨⟨?_, fun _ => ⟨fun n n0 n1 => ?_, ?_, fun _ n n0 n1 => ?_⟩⟩, fun w hw => ?_, fun c k hc hc2 => ?_⟩ (fun k hk => hrow k (by omega) (by omega))
  · rw [ma_up_ne cv, ma_up_ne cv, ma_up_s]
    unfold mx_st
    rw [hV 9, hV 10, mt_nv7 h7, mt_nv7 h7, if_neg (show ¬ (10 : Int) < 9 by decide), if_neg (show ¬ (9 : Int) < 9 by decide), if_neg (by decide), if_neg (by decide)]
  · rw [hLn n n0 (by omega)]
    exact bL n n0 (by omega)
  · rw [hLn 0 (by decide) (by decide), hV 0, mt_nv7 h7, if_pos (by decide)]
  · rw [hLn n n0 (by omega), hV n, mt_nv7 h7, if_pos (by omega)]
  · rw [ma_up_ne cv, ma_up_ne cv, ma_up_ne2 hw]
  · rw [ma_up_ne hc, ma_up_ne hc, ma_up_ne hc2]
set_option maxHeartbeats 1000000 in
theorem mx_runl {M S : ma_M} (hI : mr_INV M) (hFS : mr_FIX S) (hS : ∀ c k, 1 ≤ c → c ≤ 5 → S c k = M c k) (hz7 : ∀ v, 0 ≤ v → v < M 1 0 → M 2 v = 7 → ∀ k, 2 ≤ k → k ≤ 8 → S (10 + v) k = 0) (hz8 : ∀ v, 0 ≤ v → v < M 1 0 → M 2 v = 8 → ∀ k, 1 ≤ k → k ≤ 8 → S (10 + v) k = 0) {at_ al o : Int} (hat : mx_ar at_ 5) (hal : mx_ar al 5) (hat1 : ¬ (10 ≤ at_ ∧ at_ ≤ 34)) (hal1 : ¬ (10 ≤ al ∧ al ≤ 34)) (o0 : 0 ≤ o) (o1 : o ≤ 8) (hp : ∀ j, 0 ≤ j → j < M 1 1 → 0 ≤ S at_ j ∧ S at_ j < 65521) (hd : ∀ j, 0 ≤ j → j < M 1 1 → 0 ≤ S al j ∧ S al j < 65521) {Q : Option ma_V → ma_S → ma_M → Prop} (cont : ∀ M2 : ma_M, mx_fr S M2 (M 1 0) → (∀ u, 0 ≤ u → u < M 1 0 → mx_ag M2 (mt_V M (mt_L (S at_) (S al))) o u) → Q none mr_SH M2) : ∀ (m : Nat) (v : Int) (M1 : ma_M), (M 1 0 - v).toNat < m → 0 ≤ v → v ≤ M 1 0 → mx_fr S M1 v → (∀ u, 0 ≤ u → u < v → mx_ag M1 (mt_V M (mt_L (S at_) (S al))) o u) → ma_wp 15 3 [(2, 8), (2, 1), (2, at_), (2, al), (0, o), (0, v)] [] mr_SH M1 Q := by
  have hN : M 1 0 ≤ 24 := hI.2.1.1.2.1
  have hI5 : M 1 1 ≤ 5 := hI.2.1.2.1.2.1
  have hLb : mt_Lb M (mt_L (S at_) (S al)) := mt_L_b hp hd
  intro m
  induction m with
  | zero => intro v M1 h; omega
  | succ m ih =>
    intro v M1 hm h0 h1 hf hag
    have hF1 := mx_fr_F hFS hf
    have e10 : M1 1 0 = M 1 0 := (hf.1 1 0 (by omega)).trans (hS 1 0 (by decide) (by decide))
    simp (disch := (first | assumption | omega | ((repeat (refine mr_FIX_up ?_ (by unfold mr_nst; omega))); assumption))) only [x15_3, s15_5, s15_6, x15_9, e10]
    refine ⟨fun h => ?_, fun h => ?_⟩
    · obtain rfl : v = M 1 0 := by omega
      simp (disch := (first | assumption | omega | ((repeat (refine mr_FIX_up ?_ (by unfold mr_nst; omega))); assumption))) only [x15_81]
      exact cont M1 hf hag
    · have hvN : v < M 1 0 := by omega
      have v1 : v < 24 := by omega
      have hV := fun n => mt_VE hI (mt_L (S at_) (S al)) h0 hvN n
      have s2 : S 2 v = M 2 v := hS 2 v (by decide) (by decide)
      have e2 : M1 2 v = M 2 v := (hf.1 2 v (by omega)).trans s2
      have e5 : M1 5 v = M 5 v := (hf.1 5 v (by omega)).trans (hS 5 v (by decide) (by decide))
      have nx : ∀ M2 : ma_M, mx_stp M1 M2 (mt_V M (mt_L (S at_) (S al))) o v → (S 2 v = 7 → ∀ k, 2 ≤ k → M2 (10 + v) k = M1 (10 + v) k) → (S 2 v = 8 → ∀ k, 1 ≤ k → M2 (10 + v) k = M1 (10 + v) k) → ma_wp 15 75 [(2, 8), (2, 1), (2, at_), (2, al), (0, o), (0, v)] [] mr_SH M2 Q := by
        intro M2 hs h7 h8
        simp (disch := (first | assumption | omega | ((repeat (refine mr_FIX_up ?_ (by unfold mr_nst; omega))); assumption))) only [x15_75, x15_78, ma_32i]
        refine ih (v + 1) M2 (by omega) (by omega) (by omega) (mx_fr_step hf h0 v1 hs.2.2 h7 h8) (fun u u0 u1 => ?_)
        by_cases e : u = v
        · subst e; exact hs.1
        · exact mx_ag_fr u0 (by omega) (hag u u0 (by omega)) e hs.2.1 (fun k => hs.2.2 _ k (by omega) (by omega))
      have hnd := hI.2.2.1 v h0 hvN
      have hk8 : M 2 v ≤ 8 := hnd.1.2.2
      by_cases hop : M 2 v ≤ 6
      · have hopn := mt_opn_of hI h0 hvN hop
        have ha0 := hopn.2.1
        have hb0 := hopn.2.2.1
        have ba := mt_V_b hI hLb 25 (M 3 v) (by omega) ha0.1 (by omega)
        have bb := mt_V_b hI hLb 25 (M 4 v) (by omega) hb0.1 (by omega)
        exact mx_stepO hF1 hop hopn h0 v1 hV o0 o1 e2 ((hf.1 3 v (by omega)).trans (hS 3 v (by decide) (by decide))) ((hf.1 4 v (by omega)).trans (hS 4 v (by decide) (by decide))) e5 ba.2.1 bb.2.1 ba.2.2 bb.2.2 (hag _ ha0.1 ha0.2) (hag _ hb0.1 hb0.2) (fun M2 hs => nx M2 hs (fun z => by omega) (fun z => by omega))
      · by_cases h8 : M 2 v = 8
        · have f := hnd.2.2.2.2 h8
          exact mx_step8 hF1 h8 h0 v1 hV o1 e2 e5 f.2.1 f.2.2.1 (fun k k0 k1 => (hf.2.1 v (by omega) v1 k).trans (hz8 v h0 hvN h8 k k0 k1)) hat.1 hal.1 (fun M2 hs hr => nx M2 hs (fun z => by omega) (fun _ => hr))
        · have h7 : M 2 v = 7 := by omega
          have d := hnd.2.2.2.1 h7
          have d5 : M 5 v < 5 := Int.lt_of_lt_of_le d.2.2.1 hI5
          exact mx_step7 hF1 h7 h0 v1 hV o1 e2 e5 d.2.1 d5 (fun k k0 k1 => (hf.2.1 v (by omega) v1 k).trans (hz7 v h0 hvN h7 k k0 k1)) hat hal hat1 hal1 (hf.1 _ _ hat1) (hf.1 _ _ hal1) (fun n n0 n1 => hLb _ _ d.2.1 d.2.2.1 n0 n1) (fun M2 hs hr => nx M2 hs (fun _ => hr) (fun z => by omega))
theorem mx_runS {M S : ma_M} (hI : mr_INV M) (hFS : mr_FIX S) (hS : ∀ c k, 1 ≤ c → c ≤ 5 → S c k = M c k) (hz7 : ∀ v, 0 ≤ v → v < M 1 0 → M 2 v = 7 → ∀ k, 2 ≤ k → k ≤ 8 → S (10 + v) k = 0) (hz8 : ∀ v, 0 ≤ v → v < M 1 0 → M 2 v = 8 → ∀ k, 1 ≤ k → k ≤ 8 → S (10 + v) k = 0) {at_ al o : Int} (hat : mx_ar at_ 5) (hal : mx_ar al 5) (hat1 : ¬ (10 ≤ at_ ∧ at_ ≤ 34)) (hal1 : ¬ (10 ≤ al ∧ al ≤ 34)) (o0 : 0 ≤ o) (o1 : o ≤ 8) (hp : ∀ j, 0 ≤ j → j < M 1 1 → 0 ≤ S at_ j ∧ S at_ j < 65521) (hd : ∀ j, 0 ≤ j → j < M 1 1 → 0 ≤ S al j ∧ S al j < 65521) {Q : Option ma_V → ma_S → ma_M → Prop} (cont : ∀ M2 : ma_M, mx_fr S M2 (M 1 0) → (∀ u, 0 ≤ u → u < M 1 0 → mx_ag M2 (mt_V M (mt_L (S at_) (S al))) o u) → Q none mr_SH M2) : mr_do 15 [(2, 8), (2, 1), (2, at_), (2, al), (0, o)] mr_SH S Q := by
  have hcn := hI.2.1
  unfold mr_cnt at hcn
  simp (disch := (first | assumption | omega | ((repeat (refine mr_FIX_up ?_ (by unfold mr_nst; omega))); assumption))) only [x15, x15_0, x15_1]
  exact mx_runl hI hFS hS hz7 hz8 hat hal hat1 hal1 o0 o1 hp hd cont 25 0 S (by omega) (by omega) (by omega) ⟨fun _ _ _ => rfl, fun _ _ _ _ => rfl, fun w w0 w1 => by omega⟩ (fun u u0 u1 => by omega)
theorem mx_run {M : ma_M} (hI : mr_INV M) {at_ al o : Int} (hat : mx_ar at_ 5) (hal : mx_ar al 5) (hat1 : ¬ (10 ≤ at_ ∧ at_ ≤ 34)) (hal1 : ¬ (10 ≤ al ∧ al ≤ 34)) (o0 : 0 ≤ o) (o1 : o ≤ 8) (hp : ∀ j, 0 ≤ j → j < M 1 1 → 0 ≤ M at_ j ∧ M at_ j < 65521) (hd : ∀ j, 0 ≤ j → j < M 1 1 → 0 ≤ M al j ∧ M al j < 65521) {Q : Option ma_V → ma_S → ma_M → Prop} (cont : ∀ M2 : ma_M, mx_fr M M2 (M 1 0) → (∀ u, 0 ≤ u → u < M 1 0 → mx_ag M2 (mt_V M (mt_L (M at_) (M al))) o u) → Q none mr_SH M2) : mr_do 15 [(2, 8), (2, 1), (2, at_), (2, al), (0, o)] mr_SH M Q :=
  mx_runS hI hI.1 (fun _ _ _ _ => rfl) (fun v a b c => ((hI.2.2.1 v a b).2.2.2.1 c).2.2.2.2.2) (fun v a b c => ((hI.2.2.1 v a b).2.2.2.2 c).2.2.2.2) hat hal hat1 hal1 o0 o1 hp hd cont
