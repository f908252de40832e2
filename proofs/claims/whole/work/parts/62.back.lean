/-! the program's back sweep -/
theorem mq_neg (a : Int) : mq (-a) = - mq a := by
  have h : (-a : Int) = 0 - a := by omega
  rw [h, mq_sub, mq_0]
  grind
theorem mx_give {M : ma_M} (hF : mr_FIX M) {a p : Int} (a0 : 0 ≤ a) (a1 : a < 24) (s0 : 0 ≤ M 36 a) (s1 : M 36 a < 65521) (p0 : -65521 ≤ p) (p1 : p ≤ 65521) (Q : Option ma_V → ma_S → ma_M → Prop) : mr_do 26 [(2, 35), (0, a), (0, p)] mr_SH M Q ↔ Q none mr_SH (ma_up M 36 a ((M 36 a + p) % 65521)) := by
  have b : 0 ≤ a ∧ a < 24 := ⟨a0, a1⟩
  simp (disch := (first | assumption | omega | ((repeat (refine mr_FIX_up ?_ (by unfold mr_nst; omega))); assumption))) only [x26, s26_0, s26_1, x26_4, s26_5, s26_6, x26_9, s26_10, x26_11, x26_12, x26_13, x26_14, s26_17, x26_18, ma_32i, mr_standFor, Option.toList_some, Option.toList_none, List.cons_append, List.nil_append, mx_t b, true_and]
theorem mx_slope {x e : Int} (x0 : 0 ≤ x) (x1 : x < 65521) (e0 : 0 ≤ e) (e9 : e ≤ 9) {sh : ma_S} {M : ma_M} {Q : Option ma_V → ma_S → ma_M → Prop} (q : Q (some (0, mb_slope x e.toNat)) sh M) : mr_do 29 [(0, x), (0, e)] sh M Q := by
  simp (disch := (first | assumption | omega | ((repeat (refine mr_FIX_up ?_ (by unfold mr_nst; omega))); assumption))) only [x29, x29_0, x29_1]
  refine ⟨fun h => ?_, fun h => ?_⟩
  · have pb := mt_p_b x (e - 1).toNat
    simp (disch := (first | assumption | omega | ((repeat (refine mr_FIX_up ?_ (by unfold mr_nst; omega))); assumption))) only [x29_8, x29_9, x29_10, x29_11, x29_12, x29_13, ma_32i]
    refine mx_raise x0 x1 (by omega) (by omega) ?_
    simp only [Option.toList_some, Option.toList_none, List.cons_append, List.nil_append]
    rw [x29_16, mx_times e0 (by omega) pb.1 (Int.le_of_lt pb.2)]
    simp only [Option.toList_some, Option.toList_none, List.cons_append, List.nil_append]
    simp (disch := (first | assumption | omega | ((repeat (refine mr_FIX_up ?_ (by unfold mr_nst; omega))); assumption))) only [x29_19]
    have e2 : mb_slope x e.toNat = e * mt_p x (e - 1).toNat % 65521 := by
      unfold mb_slope
      rw [if_neg (by omega), show ((e.toNat : Nat) : Int) = e by omega, show e.toNat - 1 = (e - 1).toNat by omega]
    rw [← e2]
    exact q
  · simp (disch := (first | assumption | omega | ((repeat (refine mr_FIX_up ?_ (by unfold mr_nst; omega))); assumption))) only [x29_4, x29_5, x29_8, x29_9, x29_10, x29_11, x29_12, x29_13, x29_16, x29_19]
    have e2 : mb_slope x e.toNat = 0 := by
      unfold mb_slope
      rw [if_pos (by omega)]
    rw [← e2]
    exact q
def mb_ok (M : ma_M) (V : Int → Int → Int) (s : Int → Int) : Prop := ∀ u, 0 ≤ u → u < M 1 0 → (0 ≤ s u ∧ s u < 65521) ∧ (s u ≠ 0 → V u 9 = 0 ∧ V u 10 = 0)
theorem mb_ok_give {M S : ma_M} {V : Int → Int → Int} {a p : Int} (h : mb_ok M V (S 36)) (ha : V a 9 = 0 ∧ V a 10 = 0) : mb_ok M V (ma_up S 36 a ((S 36 a + p) % 65521) 36) := fun u u0 u1 => by
  by_cases e : u = a
  · subst e
    rw [ma_up_s]
    exact ⟨by omega, fun _ => ha⟩
  · rw [ma_up_ne2 e]
    exact h u u0 u1
/-- what a step of the back sweep leaves -/
def mb_res (M : ma_M) (V : Int → Int → Int) (S S2 : ma_M) (v : Int) : Prop := (∀ c k, c ≠ 36 → S2 c k = S c k) ∧ mb_ok M V (S2 36) ∧ S2 36 v = S 36 v ∧ ∀ D, mb_der M V D → mb_Phi M D (S2 36) v = mb_Phi M D (S 36) v + mq (S 36 v) * D v
theorem mb_one {M : ma_M} {V : Int → Int → Int} {S : ma_M} {v a p : Int} (a0 : 0 ≤ a) (a1 : a < v) (v1 : v < M 1 0) (hok : mb_ok M V (S 36)) (ha : V a 9 = 0 ∧ V a 10 = 0) (hD : ∀ D, mb_der M V D → mq p * D a = mq (S 36 v) * D v) : mb_res M V S (ma_up S 36 a ((S 36 a + p) % 65521)) v := by
  refine ⟨fun c k hc => ma_up_ne hc, mb_ok_give hok ha, ma_up_ne2 (by omega), fun D hder => ?_⟩
  rw [mb_give (M := M) (D := D) (s := S 36) (s' := ma_up S 36 a ((S 36 a + p) % 65521) 36) (v := v) (p := p) a0 (by omega) (by omega) (fun u hu => ma_up_ne2 hu) ma_up_s, hD D hder]
theorem mb_two {M : ma_M} {V : Int → Int → Int} {S : ma_M} {v a b p q : Int} (a0 : 0 ≤ a) (a1 : a < v) (b0 : 0 ≤ b) (b1 : b < v) (v1 : v < M 1 0) (hok : mb_ok M V (S 36)) (ha : V a 9 = 0 ∧ V a 10 = 0) (hb : V b 9 = 0 ∧ V b 10 = 0) (hD : ∀ D, mb_der M V D → mq p * D a + mq q * D b = mq (S 36 v) * D v) : mb_res M V S (ma_up (ma_up S 36 a ((S 36 a + p) % 65521)) 36 b ((ma_up S 36 a ((S 36 a + p) % 65521) 36 b + q) % 65521)) v := by
  refine ⟨fun c k hc => (ma_up_ne hc).trans (ma_up_ne hc), mb_ok_give (mb_ok_give hok ha) hb, (ma_up_ne2 (by omega)).trans (ma_up_ne2 (by omega)), fun D hder => ?_⟩
  rw [mb_give (M := M) (D := D) (s := ma_up S 36 a ((S 36 a + p) % 65521) 36) (v := v) (p := q) b0 (by omega) (by omega) (fun u hu => ma_up_ne2 hu) ma_up_s, mb_give (M := M) (D := D) (s := S 36) (s' := ma_up S 36 a ((S 36 a + p) % 65521) 36) (v := v) (p := p) a0 (by omega) (by omega) (fun u hu => ma_up_ne2 hu) ma_up_s, ← hD D hder]
  grind
set_option maxHeartbeats 2000000 in
theorem mx_handOn {M S : ma_M} {V : Int → Int → Int} (hF : mr_FIX S) {v : Int} (v0 : 0 ≤ v) (v1 : v < M 1 0) (hN : M 1 0 ≤ 24) (hopn : mt_opn M v) (e2 : S 2 v = M 2 v) (e3 : S 3 v = M 3 v) (e4 : S 4 v = M 4 v) (e5 : S 5 v = M 5 v) (hok : mb_ok M V (S 36)) (sv : V v 9 = 0 ∧ V v 10 = 0) (sa : V (M 3 v) 9 = 0 ∧ V (M 3 v) 10 = 0) (sb : V (M 4 v) 9 = 0 ∧ V (M 4 v) 10 = 0) (rv : S (10 + v) 0 = V v 0 ∧ 0 ≤ V v 0 ∧ V v 0 < 65521) (ra : S (10 + M 3 v) 0 = V (M 3 v) 0 ∧ 0 ≤ V (M 3 v) 0 ∧ V (M 3 v) 0 < 65521) (rb : S (10 + M 4 v) 0 = V (M 4 v) 0 ∧ 0 ≤ V (M 4 v) 0 ∧ V (M 4 v) 0 < 65521) (tie : M 2 v = 4 ∨ M 2 v = 5 → V (M 3 v) 0 ≠ V (M 4 v) 0) {Q : Option ma_V → ma_S → ma_M → Prop} (cont : ∀ S2 : ma_M, mb_res M V S S2 v → Q none mr_SH S2) : mr_do 28 [(2, 35), (2, 1), (2, 8), (0, v)] mr_SH S Q := by
  obtain ⟨⟨k0, k6⟩, ⟨a0, a1⟩, ⟨b0, b1⟩, -, -, -, h6⟩ := hopn
  have v24 : 0 ≤ v ∧ v < 24 := by omega
  have a24 : 0 ≤ M 3 v ∧ M 3 v < 24 := by omega
  have b24 : 0 ≤ M 4 v ∧ M 4 v < 24 := by omega
  have lv := ml_rows v24.1 v24.2
  have la := ml_rows a24.1 a24.2
  have lb := ml_rows b24.1 b24.2
  obtain ⟨sg0, sg1⟩ := (hok v v0 v1).1
  obtain ⟨oa0, oa1⟩ := (hok (M 3 v) a0 (by omega)).1
  obtain ⟨ob0, ob1⟩ := (hok (M 4 v) b0 (by omega)).1
  have hder : ∀ D, mb_der M V D → _ := fun D hD => hD v v0 v1 sv.1 sv.2
  have F' : ∀ a x, mr_FIX (ma_up S 36 a x) := fun a x => mr_FIX_up hF (by unfold mr_nst; omega)
  have ob' : ∀ p, 0 ≤ ma_up S 36 (M 3 v) ((S 36 (M 3 v) + p) % 65521) 36 (M 4 v) ∧ ma_up S 36 (M 3 v) ((S 36 (M 3 v) + p) % 65521) 36 (M 4 v) < 65521 := fun p => (mb_ok_give (p := p) hok sa (M 4 v) b0 (by omega)).1
  have nine : (0 ≤ (0 : Int) ∧ (0 : Int) < 9) = True := by decide
  simp (disch := (first | assumption | omega | ((repeat (refine mr_FIX_up ?_ (by unfold mr_nst; omega))); assumption))) only [x28, s28_0, s28_1, x28_4, s28_5, x28_6, s28_8, s28_9, x28_12, s28_13, x28_14, s28_16, s28_17, x28_20, s28_21, x28_22, s28_24, s28_25, x28_28, s28_29, e2, e3, e4, mx_t v24, true_and]
  have hk : M 2 v = 0 ∨ M 2 v = 1 ∨ M 2 v = 2 ∨ M 2 v = 3 ∨ M 2 v = 4 ∨ M 2 v = 5 ∨ M 2 v = 6 := by omega
  rcases hk with k | k | k | k | k | k | k
  · rw [k, x28_30_0]
    simp (disch := (first | assumption | omega | ((repeat (refine mr_FIX_up ?_ (by unfold mr_nst; omega))); assumption))) only [s28_72, x28_73, x28_75, s28_77]
    rw [mx_give hF a24.1 a24.2 oa0 oa1 (by omega) (by omega)]
    have hF2 := F' (M 3 v) ((S 36 (M 3 v) + S 36 v) % 65521)
    simp only [Option.toList_some, Option.toList_none, List.cons_append, List.nil_append]
    simp (disch := (first | assumption | omega | ((repeat (refine mr_FIX_up ?_ (by unfold mr_nst; omega))); assumption))) only [s28_80, x28_81, x28_83, s28_85]
    rw [mx_give hF2 b24.1 b24.2 (ob' _).1 (ob' _).2 (by omega) (by omega)]
    simp only [Option.toList_some, Option.toList_none, List.cons_append, List.nil_append]
    simp (disch := (first | assumption | omega | ((repeat (refine mr_FIX_up ?_ (by unfold mr_nst; omega))); assumption))) only [x28_88, x28_258]
    refine cont _ (mb_two a0 a1 b0 b1 v1 hok sa sb (fun D hD => ?_))
    rw [(hder D hD).1 k]
    grind
  · rw [k, x28_30_1]
    simp (disch := (first | assumption | omega | ((repeat (refine mr_FIX_up ?_ (by unfold mr_nst; omega))); assumption))) only [s28_91, x28_92, x28_94, s28_96]
    rw [mx_give hF a24.1 a24.2 oa0 oa1 (by omega) (by omega)]
    have hF2 := F' (M 3 v) ((S 36 (M 3 v) + S 36 v) % 65521)
    simp only [Option.toList_some, Option.toList_none, List.cons_append, List.nil_append]
    simp (disch := (first | assumption | omega | ((repeat (refine mr_FIX_up ?_ (by unfold mr_nst; omega))); assumption))) only [s28_99, x28_100, x28_102, x28_104, s28_105, ma_32i]
    rw [mx_give hF2 b24.1 b24.2 (ob' _).1 (ob' _).2 (by omega) (by omega)]
    simp only [Option.toList_some, Option.toList_none, List.cons_append, List.nil_append]
    simp (disch := (first | assumption | omega | ((repeat (refine mr_FIX_up ?_ (by unfold mr_nst; omega))); assumption))) only [x28_108, x28_258]
    refine cont _ (mb_two a0 a1 b0 b1 v1 hok sa sb (fun D hD => ?_))
    rw [(hder D hD).2.1 k, mq_neg]
    grind
  · rw [k, x28_30_2]
    simp (disch := (first | assumption | omega | ((repeat (refine mr_FIX_up ?_ (by unfold mr_nst; omega))); assumption))) only [s28_111, x28_112, x28_114, s28_116, s28_117, x28_120, s28_122, x28_123, x28_124, mx_t b24, true_and, lb, nine, rb.1]
    rw [x28_125, mx_times sg0 (by omega) rb.2.1 (by omega)]
    simp only [Option.toList_some, Option.toList_none, List.cons_append, List.nil_append]
    simp (disch := (first | assumption | omega | ((repeat (refine mr_FIX_up ?_ (by unfold mr_nst; omega))); assumption))) only [s28_128]
    rw [mx_give hF a24.1 a24.2 oa0 oa1 (by omega) (by omega)]
    have hF2 := F' (M 3 v) ((S 36 (M 3 v) + S 36 v * V (M 4 v) 0 % 65521) % 65521)
    have ra' : ma_up S 36 (M 3 v) ((S 36 (M 3 v) + S 36 v * V (M 4 v) 0 % 65521) % 65521) (10 + M 3 v) 0 = V (M 3 v) 0 := (ma_up_ne (by omega)).trans ra.1
    simp only [Option.toList_some, Option.toList_none, List.cons_append, List.nil_append]
    simp (disch := (first | assumption | omega | ((repeat (refine mr_FIX_up ?_ (by unfold mr_nst; omega))); assumption))) only [s28_131, x28_132, x28_134, s28_136, s28_137, x28_140, s28_142, x28_143, x28_144, mx_t a24, true_and, la, nine, ra']
    rw [x28_145, mx_times sg0 (by omega) ra.2.1 (by omega)]
    simp only [Option.toList_some, Option.toList_none, List.cons_append, List.nil_append]
    simp (disch := (first | assumption | omega | ((repeat (refine mr_FIX_up ?_ (by unfold mr_nst; omega))); assumption))) only [s28_148]
    rw [mx_give hF2 b24.1 b24.2 (ob' _).1 (ob' _).2 (by omega) (by omega)]
    simp only [Option.toList_some, Option.toList_none, List.cons_append, List.nil_append]
    simp (disch := (first | assumption | omega | ((repeat (refine mr_FIX_up ?_ (by unfold mr_nst; omega))); assumption))) only [x28_151, x28_258]
    refine cont _ (mb_two a0 a1 b0 b1 v1 hok sa sb (fun D hD => ?_))
    rw [(hder D hD).2.2.1 k, mq_mod, mq_mul, mq_mod, mq_mul]
    grind
  · rw [k, x28_30_3]
    simp (disch := (first | assumption | omega | ((repeat (refine mr_FIX_up ?_ (by unfold mr_nst; omega))); assumption))) only [s28_154, s28_155, x28_158, s28_160, x28_161, x28_162, x28_163, x28_165, mx_t b24, true_and, lb, nine, rb.1]
    refine mx_raise rb.2.1 rb.2.2 (by decide) (by decide) ?_
    have ib : 0 ≤ mt_inv (V (M 4 v) 0) ∧ mt_inv (V (M 4 v) 0) < 65521 := mt_p_b _ _
    have ie : mt_p (V (M 4 v) 0) (65519 : Int).toNat = mt_inv (V (M 4 v) 0) := rfl
    rw [ie]
    simp only [Option.toList_some, Option.toList_none, List.cons_append, List.nil_append]
    simp (disch := (first | assumption | omega | ((repeat (refine mr_FIX_up ?_ (by unfold mr_nst; omega))); assumption))) only [x28_168, x28_170, x28_172]
    rw [x28_174, mx_times sg0 (by omega) ib.1 (Int.le_of_lt ib.2)]
    simp only [Option.toList_some, Option.toList_none, List.cons_append, List.nil_append]
    simp (disch := (first | assumption | omega | ((repeat (refine mr_FIX_up ?_ (by unfold mr_nst; omega))); assumption))) only [x28_177, s28_179, x28_180, x28_182, s28_184]
    rw [mx_give hF a24.1 a24.2 oa0 oa1 (by omega) (by omega)]
    have hF2 := F' (M 3 v) ((S 36 (M 3 v) + S 36 v * mt_inv (V (M 4 v) 0) % 65521) % 65521)
    have rv' : ma_up S 36 (M 3 v) ((S 36 (M 3 v) + S 36 v * mt_inv (V (M 4 v) 0) % 65521) % 65521) (10 + v) 0 = V v 0 := (ma_up_ne (by omega)).trans rv.1
    simp only [Option.toList_some, Option.toList_none, List.cons_append, List.nil_append]
    simp (disch := (first | assumption | omega | ((repeat (refine mr_FIX_up ?_ (by unfold mr_nst; omega))); assumption))) only [s28_187, x28_188, x28_190, s28_192, s28_193, x28_196, s28_197, x28_198, x28_199, mx_t v24, true_and, lv, nine, rv']
    rw [x28_200, mx_times (by omega) (by omega) rv.2.1 (by omega)]
    simp only [Option.toList_some, Option.toList_none, List.cons_append, List.nil_append]
    simp (disch := (first | assumption | omega | ((repeat (refine mr_FIX_up ?_ (by unfold mr_nst; omega))); assumption))) only [x28_203, s28_204, ma_32i]
    rw [mx_give hF2 b24.1 b24.2 (ob' _).1 (ob' _).2 (by omega) (by omega)]
    simp only [Option.toList_some, Option.toList_none, List.cons_append, List.nil_append]
    simp (disch := (first | assumption | omega | ((repeat (refine mr_FIX_up ?_ (by unfold mr_nst; omega))); assumption))) only [x28_207, x28_258]
    refine cont _ (mb_two a0 a1 b0 b1 v1 hok sa sb (fun D hD => ?_))
    rw [(hder D hD).2.2.2.1 k, mq_neg, mq_mod, mq_mul, mq_mod, mq_mul, mq_mod, mq_mul]
    grind
  · rw [k, x28_30_4]
    simp (disch := (first | assumption | omega | ((repeat (refine mr_FIX_up ?_ (by unfold mr_nst; omega))); assumption))) only [s28_246, s28_247, s28_248, x28_249, s28_250]
    have hch := fun D hD => (hder D hD).2.2.2.2.1 (Or.inl k)
    have tie := tie (Or.inl k)
    refine mx_chosen hF v24.1 v24.2 a24.1 a24.2 b24.1 b24.2 (e2.trans k) e3 e4 (fun hc => ?_) (fun hc => ?_)
    · rw [ra.1, rb.1] at hc
      simp only [Option.toList_some, Option.toList_none, List.cons_append, List.nil_append]
      simp (disch := (first | assumption | omega | ((repeat (refine mr_FIX_up ?_ (by unfold mr_nst; omega))); assumption))) only [x28_253, s28_255]
      rw [mx_give hF a24.1 a24.2 oa0 oa1 (by omega) (by omega)]
      simp only [Option.toList_some, Option.toList_none, List.cons_append, List.nil_append]
      simp (disch := (first | assumption | omega | ((repeat (refine mr_FIX_up ?_ (by unfold mr_nst; omega))); assumption))) only [x28_258]
      refine cont _ (mb_one a0 a1 v1 hok sa (fun D hD => ?_))
      rw [hch D hD, if_pos (by omega)]
    · rw [ra.1, rb.1] at hc
      simp only [Option.toList_some, Option.toList_none, List.cons_append, List.nil_append]
      simp (disch := (first | assumption | omega | ((repeat (refine mr_FIX_up ?_ (by unfold mr_nst; omega))); assumption))) only [x28_253, s28_255]
      rw [mx_give hF b24.1 b24.2 ob0 ob1 (by omega) (by omega)]
      simp only [Option.toList_some, Option.toList_none, List.cons_append, List.nil_append]
      simp (disch := (first | assumption | omega | ((repeat (refine mr_FIX_up ?_ (by unfold mr_nst; omega))); assumption))) only [x28_258]
      refine cont _ (mb_one b0 b1 v1 hok sb (fun D hD => ?_))
      rw [hch D hD, if_neg (by omega)]
  · rw [k, x28_30_5]
    simp (disch := (first | assumption | omega | ((repeat (refine mr_FIX_up ?_ (by unfold mr_nst; omega))); assumption))) only [s28_246, s28_247, s28_248, x28_249, s28_250]
    have hch := fun D hD => (hder D hD).2.2.2.2.1 (Or.inr k)
    have tie := tie (Or.inr k)
    refine mx_chosen hF v24.1 v24.2 a24.1 a24.2 b24.1 b24.2 (e2.trans k) e3 e4 (fun hc => ?_) (fun hc => ?_)
    · rw [ra.1, rb.1] at hc
      simp only [Option.toList_some, Option.toList_none, List.cons_append, List.nil_append]
      simp (disch := (first | assumption | omega | ((repeat (refine mr_FIX_up ?_ (by unfold mr_nst; omega))); assumption))) only [x28_253, s28_255]
      rw [mx_give hF a24.1 a24.2 oa0 oa1 (by omega) (by omega)]
      simp only [Option.toList_some, Option.toList_none, List.cons_append, List.nil_append]
      simp (disch := (first | assumption | omega | ((repeat (refine mr_FIX_up ?_ (by unfold mr_nst; omega))); assumption))) only [x28_258]
      refine cont _ (mb_one a0 a1 v1 hok sa (fun D hD => ?_))
      rw [hch D hD, if_pos (by omega)]
    · rw [ra.1, rb.1] at hc
      simp only [Option.toList_some, Option.toList_none, List.cons_append, List.nil_append]
      simp (disch := (first | assumption | omega | ((repeat (refine mr_FIX_up ?_ (by unfold mr_nst; omega))); assumption))) only [x28_253, s28_255]
      rw [mx_give hF b24.1 b24.2 ob0 ob1 (by omega) (by omega)]
      simp only [Option.toList_some, Option.toList_none, List.cons_append, List.nil_append]
      simp (disch := (first | assumption | omega | ((repeat (refine mr_FIX_up ?_ (by unfold mr_nst; omega))); assumption))) only [x28_258]
      refine cont _ (mb_one b0 b1 v1 hok sb (fun D hD => ?_))
      rw [hch D hD, if_neg (by omega)]
  · have h6 := h6 k
    rw [k, x28_30_6]
    simp (disch := (first | assumption | omega | ((repeat (refine mr_FIX_up ?_ (by unfold mr_nst; omega))); assumption))) only [s28_210, s28_211, x28_214, s28_216, x28_217, x28_218, s28_219, s28_220, x28_223, s28_224, mx_t a24, mx_t v24, true_and, la, nine, ra.1, e5]
    rw [x28_225]
    refine mx_slope ra.2.1 ra.2.2 h6.2.1 h6.2.2.1 ?_
    have slb : 0 ≤ mb_slope (V (M 3 v) 0) (M 5 v).toNat ∧ mb_slope (V (M 3 v) 0) (M 5 v).toNat < 65521 := by
      unfold mb_slope
      split <;> omega
    simp only [Option.toList_some, Option.toList_none, List.cons_append, List.nil_append]
    simp (disch := (first | assumption | omega | ((repeat (refine mr_FIX_up ?_ (by unfold mr_nst; omega))); assumption))) only [x28_228, s28_230, x28_231, x28_233, x28_235]
    rw [x28_237, mx_times sg0 (by omega) slb.1 (by omega)]
    simp only [Option.toList_some, Option.toList_none, List.cons_append, List.nil_append]
    simp (disch := (first | assumption | omega | ((repeat (refine mr_FIX_up ?_ (by unfold mr_nst; omega))); assumption))) only [s28_240]
    rw [mx_give hF a24.1 a24.2 oa0 oa1 (by omega) (by omega)]
    simp only [Option.toList_some, Option.toList_none, List.cons_append, List.nil_append]
    simp (disch := (first | assumption | omega | ((repeat (refine mr_FIX_up ?_ (by unfold mr_nst; omega))); assumption))) only [x28_243, x28_258]
    refine cont _ (mb_one a0 a1 v1 hok sa (fun D hD => ?_))
    rw [(hder D hD).2.2.2.2.2.1 k, mq_mod, mq_mul]
    grind
