def mx_op (k : Int) (e : Nat) (x y : Int → Int) (n : Int) : Int := if k = 5 then (if x 0 < y 0 then y n else x n) else mt_op k e x y n
theorem mx_op_ne {k : Int} {e : Nat} {x y : Int → Int} {n : Int} (h : k = 5 → x 0 ≠ y 0) : mx_op k e x y n = mt_op k e x y n := by
  unfold mx_op
  by_cases h5 : k = 5
  · subst h5
    have h := h rfl
    rw [if_pos rfl]
    unfold mt_op
    simp
    by_cases h1 : x 0 < y 0
    · rw [if_pos h1, if_neg (by omega)]
    · rw [if_neg h1, if_pos (by omega)]
  · rw [if_neg h5]
theorem mx_op_0 {k : Int} {e : Nat} {x y : Int → Int} : mx_op k e x y 0 = mt_op k e x y 0 := by
  by_cases h : x 0 = y 0
  · unfold mx_op
    by_cases h5 : k = 5
    · subst h5
      rw [if_pos rfl]
      unfold mt_op
      simp [h]
    · rw [if_neg h5]
  · exact mx_op_ne (fun _ => h)
theorem mx_op_b {k : Int} {e : Nat} {x y : Int → Int} {n : Int} (h0 : 0 ≤ n) (hn : n < 9) (hx : 0 ≤ x n ∧ x n < 65521) (hy : 0 ≤ y n ∧ y n < 65521) : 0 ≤ mx_op k e x y n ∧ mx_op k e x y n < 65521 := by
  unfold mx_op
  split
  · split
    · exact hy
    · exact hx
  · exact mt_op_b h0 hn hx hy
set_option maxHeartbeats 1000000 in
theorem mx_operate {M1 : ma_M} (hF1 : mr_FIX M1) {v k a b e o : Int} (k0 : 0 ≤ k) (k6 : k ≤ 6) (v0 : 0 ≤ v) (v1 : v < 24) (a0 : 0 ≤ a) (a1 : a < 24) (hav : a ≠ v) (b0 : 0 ≤ b) (b1 : b < 24) (hbv : b ≠ v) (e2 : M1 2 v = k) (e3 : M1 3 v = a) (e4 : M1 4 v = b) (e5 : k = 6 → M1 5 v = e ∧ 0 ≤ e ∧ e ≤ 9) (o0 : 0 ≤ o) (o1 : o ≤ 8) (ba : ∀ n, 0 ≤ n → n ≤ o → 0 ≤ M1 (10 + a) n ∧ M1 (10 + a) n < 65521) (bb : ∀ n, 0 ≤ n → n ≤ o → 0 ≤ M1 (10 + b) n ∧ M1 (10 + b) n < 65521) {Q : Option ma_V → ma_S → ma_M → Prop} (cont : ∀ M2 : ma_M, (∀ c i, c ≠ 10 + v → M2 c i = M1 c i) → (∀ n, 0 ≤ n → n ≤ o → M2 (10 + v) n = mx_op k e.toNat (M1 (10 + a)) (M1 (10 + b)) n) → Q none mr_SH M2) : mr_do 19 [(2, 8), (2, 1), (0, v), (0, o)] mr_SH M1 Q := by
  obtain ⟨rv, lv⟩ := mx_rw v0 v1
  obtain ⟨ra, la⟩ := mx_rw a0 a1
  obtain ⟨rb, lb⟩ := mx_rw b0 b1
  have tv := mx_t rv
  have ta := mx_t ra
  have tb := mx_t rb
  have hv := mx_rw v0 v1
  have ha := mx_rw a0 a1
  have hb := mx_rw b0 b1
  simp (disch := (first | assumption | omega | ((repeat (refine mr_FIX_up ?_ (by unfold mr_nst; omega))); assumption))) only [x19, s19_0, s19_1, x19_4, s19_5, x19_6, s19_8, s19_9, s19_12, s19_13, x19_16, s19_17, s19_18, x19_19, s19_21, s19_22, s19_25, s19_26, x19_29, s19_30, s19_31, x19_32, s19_34, s19_35, x19_38, s19_39, e2, e3, e4, tv, ta, tb, true_and]
  refine ⟨by omega, by omega, by omega, by omega, by omega, by omega, ?_⟩
  have : k = 0 ∨ k = 1 ∨ k = 2 ∨ k = 3 ∨ k = 4 ∨ k = 5 ∨ k = 6 := by omega
  rcases this with rfl | rfl | rfl | rfl | rfl | rfl | rfl
  · simp (disch := (first | assumption | omega | ((repeat (refine mr_FIX_up ?_ (by unfold mr_nst; omega))); assumption))) only [x19_40_0, x19_84, x19_86, x19_88, x19_90, x19_91, x19_92, tv, ta, tb, true_and]
    refine mx_add hv ha hb (by omega) (by omega) o0 o1 (Or.inl rfl) ba bb (fun M2 hf hr => ?_)
    simp only [Option.toList_some, Option.toList_none, List.cons_append, List.nil_append]
    simp (disch := (first | assumption | omega | ((repeat (refine mr_FIX_up ?_ (by unfold mr_nst; omega))); assumption))) only [x19_95, x19_186]
    exact cont M2 (fun c i hc => hf c i (fun z => hc z.1)) (fun n n0 n1 => (hr n n0 n1).trans (by simp [mx_op, mt_op]))
  · simp (disch := (first | assumption | omega | ((repeat (refine mr_FIX_up ?_ (by unfold mr_nst; omega))); assumption))) only [x19_40_1, x19_98, x19_100, x19_102, x19_104, x19_105, x19_106, tv, ta, tb, true_and]
    refine mx_add hv ha hb (by omega) (by omega) o0 o1 (Or.inr rfl) ba bb (fun M2 hf hr => ?_)
    simp only [Option.toList_some, Option.toList_none, List.cons_append, List.nil_append]
    simp (disch := (first | assumption | omega | ((repeat (refine mr_FIX_up ?_ (by unfold mr_nst; omega))); assumption))) only [x19_109, x19_186]
    exact cont M2 (fun c i hc => hf c i (fun z => hc z.1)) (fun n n0 n1 => (hr n n0 n1).trans (by simp [mx_op, mt_op]; omega))
  · simp (disch := (first | assumption | omega | ((repeat (refine mr_FIX_up ?_ (by unfold mr_nst; omega))); assumption))) only [x19_40_2, x19_112, x19_114, x19_115, x19_117, x19_118, x19_119, x19_120, x19_121, x19_124, x19_126, x19_128, x19_129, tv, ta, tb, true_and, la, lv, ma_32i]
    refine ⟨by omega, ?_⟩
    have f1 : ∀ c i, c ≠ 10 + v → ma_cp M1 (10 + v) 0 (o + 1) (10 + a) 0 c i = M1 c i := fun c i hc => if_neg (fun z => hc z.1)
    have f2 : ∀ n, 0 ≤ n → n ≤ o → ma_cp M1 (10 + v) 0 (o + 1) (10 + a) 0 (10 + v) n = M1 (10 + a) n := fun n n0 n1 => by
      show (if _ then _ else _) = _
      rw [if_pos ⟨rfl, by omega, by omega⟩]
      congr 1
      omega
    refine mx_mul hv hb o0 o1 (fun n n0 n1 => by rw [f2 n n0 n1]; exact ba n n0 n1) (fun n n0 n1 => by rw [f1 _ n (by omega)]; exact bb n n0 n1) (fun M2 hf hr => ?_)
    simp only [Option.toList_some, Option.toList_none, List.cons_append, List.nil_append]
    simp (disch := (first | assumption | omega | ((repeat (refine mr_FIX_up ?_ (by unfold mr_nst; omega))); assumption))) only [x19_132, x19_186]
    refine cont M2 (fun c i hc => (hf c i (fun z => hc z.1)).trans (f1 c i hc)) (fun n n0 n1 => ?_)
    rw [hr n n0 n1]
    have : mx_op 2 e.toNat (M1 (10 + a)) (M1 (10 + b)) n = mt_mul (M1 (10 + a)) (M1 (10 + b)) n := by simp [mx_op, mt_op]
    rw [this]
    exact mt_mul_congr n0 (fun i i0 i1 => f2 i i0 (by omega)) (fun i i0 i1 => f1 _ i (by omega))
  · simp (disch := (first | assumption | omega | ((repeat (refine mr_FIX_up ?_ (by unfold mr_nst; omega))); assumption))) only [x19_40_3, x19_135, x19_137, x19_139, x19_141, x19_142, tv, ta, tb, true_and]
    refine mx_div hv ha hb (by omega) (by omega) o0 o1 ba bb (fun M2 hf hr => ?_)
    simp only [Option.toList_some, Option.toList_none, List.cons_append, List.nil_append]
    simp (disch := (first | assumption | omega | ((repeat (refine mr_FIX_up ?_ (by unfold mr_nst; omega))); assumption))) only [x19_145, x19_186]
    exact cont M2 (fun c i hc => hf c i (fun z => hc z.1)) (fun n n0 n1 => (hr n n0 n1).trans (by simp [mx_op, mt_op]))
  · have f1 : ∀ w c i, c ≠ 10 + v → ma_cp M1 (10 + v) 0 (o + 1) (10 + w) 0 c i = M1 c i := fun w c i hc => if_neg (fun z => hc z.1)
    have f2 : ∀ w n, 0 ≤ n → n ≤ o → ma_cp M1 (10 + v) 0 (o + 1) (10 + w) 0 (10 + v) n = M1 (10 + w) n := fun w n n0 n1 => by
      show (if _ then _ else _) = _
      rw [if_pos ⟨rfl, by omega, by omega⟩]
      congr 1
      omega
    simp (disch := (first | assumption | omega | ((repeat (refine mr_FIX_up ?_ (by unfold mr_nst; omega))); assumption))) only [x19_40_4, s19_165, s19_166, s19_169, s19_170, x19_171, s19_172]
    refine mx_chosen hF1 v0 v1 a0 a1 b0 b1 e2 e3 e4 (fun hc => ?_) (fun hc => ?_)
    · simp only [Option.toList_some, Option.toList_none, List.cons_append, List.nil_append]
      simp (disch := (first | assumption | omega | ((repeat (refine mr_FIX_up ?_ (by unfold mr_nst; omega))); assumption))) only [s19_175, x19_176, x19_177, x19_179, x19_180, x19_181, x19_182, x19_183, x19_186, tv, true_and, la, lv, ma_32i]
      refine ⟨by omega, by omega, cont _ (f1 a) (fun n n0 n1 => (f2 a n n0 n1).trans ?_)⟩
      simp [mx_op, mt_op]
      intro z; omega
    · simp only [Option.toList_some, Option.toList_none, List.cons_append, List.nil_append]
      simp (disch := (first | assumption | omega | ((repeat (refine mr_FIX_up ?_ (by unfold mr_nst; omega))); assumption))) only [s19_175, x19_176, x19_177, x19_179, x19_180, x19_181, x19_182, x19_183, x19_186, tv, true_and, lb, lv, ma_32i]
      refine ⟨by omega, by omega, cont _ (f1 b) (fun n n0 n1 => (f2 b n n0 n1).trans ?_)⟩
      simp [mx_op, mt_op]
      intro z; omega
  · have f1 : ∀ w c i, c ≠ 10 + v → ma_cp M1 (10 + v) 0 (o + 1) (10 + w) 0 c i = M1 c i := fun w c i hc => if_neg (fun z => hc z.1)
    have f2 : ∀ w n, 0 ≤ n → n ≤ o → ma_cp M1 (10 + v) 0 (o + 1) (10 + w) 0 (10 + v) n = M1 (10 + w) n := fun w n n0 n1 => by
      show (if _ then _ else _) = _
      rw [if_pos ⟨rfl, by omega, by omega⟩]
      congr 1
      omega
    simp (disch := (first | assumption | omega | ((repeat (refine mr_FIX_up ?_ (by unfold mr_nst; omega))); assumption))) only [x19_40_5, s19_165, s19_166, s19_169, s19_170, x19_171, s19_172]
    refine mx_chosen hF1 v0 v1 a0 a1 b0 b1 e2 e3 e4 (fun hc => ?_) (fun hc => ?_)
    · simp only [Option.toList_some, Option.toList_none, List.cons_append, List.nil_append]
      simp (disch := (first | assumption | omega | ((repeat (refine mr_FIX_up ?_ (by unfold mr_nst; omega))); assumption))) only [s19_175, x19_176, x19_177, x19_179, x19_180, x19_181, x19_182, x19_183, x19_186, tv, true_and, la, lv, ma_32i]
      refine ⟨by omega, by omega, cont _ (f1 a) (fun n n0 n1 => (f2 a n n0 n1).trans ?_)⟩
      simp [mx_op, mt_op]
      intro z; omega
    · simp only [Option.toList_some, Option.toList_none, List.cons_append, List.nil_append]
      simp (disch := (first | assumption | omega | ((repeat (refine mr_FIX_up ?_ (by unfold mr_nst; omega))); assumption))) only [s19_175, x19_176, x19_177, x19_179, x19_180, x19_181, x19_182, x19_183, x19_186, tv, true_and, lb, lv, ma_32i]
      refine ⟨by omega, by omega, cont _ (f1 b) (fun n n0 n1 => (f2 b n n0 n1).trans ?_)⟩
      simp [mx_op, mt_op]
      intro z; omega
  · obtain ⟨e5, e6, e7⟩ := e5 rfl
    simp (disch := (first | assumption | omega | ((repeat (refine mr_FIX_up ?_ (by unfold mr_nst; omega))); assumption))) only [x19_40_6, x19_148, x19_150, s19_152, s19_153, x19_156, s19_157, x19_158, x19_159, tv, ta, true_and, e5]
    refine ⟨by omega, mx_pw hv ha (by omega) o0 o1 e6 e7 ba (fun M2 hf hr => ?_)⟩
    simp only [Option.toList_some, Option.toList_none, List.cons_append, List.nil_append]
    simp (disch := (first | assumption | omega | ((repeat (refine mr_FIX_up ?_ (by unfold mr_nst; omega))); assumption))) only [x19_162, x19_186]
    exact cont M2 hf (fun n n0 n1 => (hr n n0 n1).trans (by simp [mx_op, mt_op]))
/-- begin -/
theorem mx_begin8 {M1 : ma_M} (hF1 : mr_FIX M1) {v d at_ al : Int} (v0 : 0 ≤ v) (v1 : v < 24) (e2 : M1 2 v = 8) (e5 : M1 5 v = d) {Q : Option ma_V → ma_S → ma_M → Prop} (q : Q none mr_SH (ma_up M1 (10 + v) 0 d)) : mr_do 18 [(2, 8), (2, 1), (0, v), (2, at_), (2, al)] mr_SH M1 Q := by
  obtain ⟨rv, lv⟩ := mx_rw v0 v1
  have tv := mx_t rv
  simp (disch := (first | assumption | omega | ((repeat (refine mr_FIX_up ?_ (by unfold mr_nst; omega))); assumption))) only [x18, s18_0, s18_1, x18_4, s18_5, x18_6, s18_8, s18_9, x18_12, s18_13, x18_14, s18_16, s18_17, x18_20, s18_21, x18_22, x18_24, e2, e5, tv, true_and]
  refine ⟨by omega, by omega, by omega, fun z => absurd trivial z, fun _ => ?_⟩
  simp (disch := (first | assumption | omega | ((repeat (refine mr_FIX_up ?_ (by unfold mr_nst; omega))); assumption))) only [x18_27, x18_29, x18_30, x18_32, x18_33, x18_53, tv, true_and, lv]
  exact ⟨by omega, q⟩
theorem mx_begin7 {M1 : ma_M} (hF1 : mr_FIX M1) {v d at_ al : Int} (v0 : 0 ≤ v) (v1 : v < 24) (e2 : M1 2 v = 7) (e5 : M1 5 v = d) (d0 : 0 ≤ d) (d5 : d < 5) (hat : mx_ar at_ 5) (hal : mx_ar al 5) (ha1 : ¬ (10 ≤ al ∧ al ≤ 34)) {Q : Option ma_V → ma_S → ma_M → Prop} (q : Q none mr_SH (ma_up (ma_up M1 (10 + v) 0 (M1 at_ d)) (10 + v) 1 (M1 al d))) : mr_do 18 [(2, 8), (2, 1), (0, v), (2, at_), (2, al)] mr_SH M1 Q := by
  obtain ⟨rv, lv⟩ := mx_rw v0 v1
  have tv := mx_t rv
  have tt := mx_t hat.1
  have tl := mx_t hal.1
  have l1 := hat.2
  have l2 := hal.2
  have ex : ma_up M1 (10 + v) 0 (M1 at_ d) al d = M1 al d := ma_up_ne (by omega)
  simp (disch := (first | assumption | omega | ((repeat (refine mr_FIX_up ?_ (by unfold mr_nst; omega))); assumption))) only [x18, s18_0, s18_1, x18_4, s18_5, x18_6, s18_8, s18_9, x18_12, s18_13, x18_14, s18_16, s18_17, x18_20, s18_21, x18_22, x18_24, e2, e5, tv, true_and]
  refine ⟨by omega, by omega, by omega, fun _ => ?_, fun z => absurd (by decide) z⟩
  simp (disch := (first | assumption | omega | ((repeat (refine mr_FIX_up ?_ (by unfold mr_nst; omega))); assumption))) only [x18_36, x18_38, x18_39, x18_40, x18_42, x18_43, x18_44, x18_46, x18_47, x18_49, x18_51, x18_52, x18_53, tv, tt, tl, true_and, lv, l1, l2, ex]
  exact ⟨by omega, by omega, by omega, by omega, q⟩
