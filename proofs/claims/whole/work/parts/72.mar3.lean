theorem ma_cp_ne {M : ma_M} {a n b c x : Int} (h : ¬ c = a) : ma_cp M a 0 n b 0 c x = M c x := if_neg (fun z => h z.1)
theorem ma_cp_in {M : ma_M} {a n b x : Int} (x0 : 0 ≤ x) (x1 : x < n) : ma_cp M a 0 n b 0 a x = M b x := by
  show (if a = a ∧ 0 ≤ x ∧ x < 0 + n then M b (0 + (x - 0)) else _) = M b x
  rw [if_pos ⟨rfl, x0, by omega⟩]
  congr 1
  omega
set_option maxHeartbeats 1000000 in
theorem mz_goBack {M B : ma_M} (hI : mr_INV M) (hm : M 0 11 = M 1 1) {n : Int} (n1 : 1 ≤ n) (n20 : n ≤ 20) (hw : ∀ k : Nat, k < n.toNat → mz_w M k 0) (hfr : mz_fr mz_p1 M B) (hFB : mr_FIX B) (hst : ∀ k : Nat, (k : Int) ≤ n → ∀ j, 0 ≤ j → j < M 1 1 → B (57 + (k : Int)) j = mz_P M k j) {Q : Option ma_V → ma_S → ma_M → Prop} (cont : ∀ S : ma_M, mz_fr mz_p2 M S → mr_FIX S → S 0 15 = M 1 1 → (∀ j, 0 ≤ j → j < M 1 1 → S 78 j = mz_P M n.toNat j) → (∀ c x, 42 ≤ c → c ≤ 49 → S c x = M c x) → mz_bk M S n.toNat 0 → Q none mr_SH S) : mr_do 71 [(2, 0), (0, n)] mr_SH B Q := by
  have hN : 0 ≤ M 1 0 ∧ M 1 0 ≤ 24 := ⟨hI.2.1.1.1, hI.2.1.1.2.1⟩
  have hI5 : 0 ≤ M 1 1 ∧ M 1 1 ≤ 5 := ⟨hI.2.1.2.1.1, hI.2.1.2.1.2.1⟩
  have e11 : B 0 11 = M 1 1 := (hfr.1 0 11 (by decide) (by unfold mz_p1; decide)).trans hm
  have hF1 : mr_FIX (ma_up B 0 15 (M 1 1)) := mr_FIX_up hFB (by unfold mr_nst; omega)
  have o1 : ∀ c x, ¬ (c = 0 ∧ x = 15) → ma_up B 0 15 (M 1 1) c x = B c x := fun c x h => if_neg h
  have u1 : ma_up B 0 15 (M 1 1) 0 15 = M 1 1 := ma_up_s
  have hfr1 : mz_fr mz_p2 M (ma_up B 0 15 (M 1 1)) := mz_fr_w hN (mz_fr_i hfr (q := mz_p2) (fun c k h => by unfold mz_p1 at h; unfold mz_p2; omega)) (q := fun c x => c = 0 ∧ x = 15) o1 (fun c x h => by unfold mz_p2; omega)
  simp (disch := (first | assumption | omega | ((repeat (refine mr_FIX_up ?_ (by unfold mr_nst; omega))); assumption))) only [x71, s71_0, s71_1, s71_2, s71_5, e11]
  generalize ma_up B 0 15 (M 1 1) = B1 at *
  have ls : ma_al mr_SH (57 + n) 0 = 5 := ml_stat (by omega) (by omega)
  have n21 : 0 ≤ n ∧ n < 21 := by omega
  simp (disch := (first | assumption | omega | ((repeat (refine mr_FIX_up ?_ (by unfold mr_nst; omega))); assumption))) only [s71_8, s71_9, x71_12, s71_13, x71_14, s71_15, s71_16, x71_19, s71_20, s71_21, x71_24, u1, ls, ml_78]
  refine ⟨n21, by omega, ?_⟩
  have o2 : ∀ c x, ¬ c = 78 → ma_cp B1 78 0 (M 1 1) (57 + n) 0 c x = B1 c x := fun c x h => ma_cp_ne h
  have i2 : ∀ x, 0 ≤ x → x < M 1 1 → ma_cp B1 78 0 (M 1 1) (57 + n) 0 78 x = B1 (57 + n) x := fun x a b => ma_cp_in a b
  have hF2 : mr_FIX (ma_cp B1 78 0 (M 1 1) (57 + n) 0) := md_fr hF1 (p := fun c => c = 78) o2 (fun c hc => by omega)
  have hfr2 : mz_fr mz_p2 M (ma_cp B1 78 0 (M 1 1) (57 + n) 0) := mz_fr_w hN hfr1 (q := fun c _ => c = 78) o2 (fun c x h => by unfold mz_p2; omega)
  generalize ma_cp B1 78 0 (M 1 1) (57 + n) 0 = B2 at *
  have u2 : B2 0 15 = M 1 1 := (o2 0 15 (by decide)).trans u1
  simp (disch := (first | assumption | omega | ((repeat (refine mr_FIX_up ?_ (by unfold mr_nst; omega))); assumption))) only [s71_27, s71_28, x71_31, s71_32, s71_33, x71_36, s71_37, s71_38, x71_41, x71_44, x71_45, x71_46, x71_47, u2, ml_55, ml_79, ma_32i]
  refine ⟨by omega, ?_⟩
  have o3 : ∀ c x, ¬ c = 79 → ma_cp B2 79 0 (M 1 1) 55 0 c x = B2 c x := fun c x h => ma_cp_ne h
  have i3 : ∀ x, 0 ≤ x → x < M 1 1 → ma_cp B2 79 0 (M 1 1) 55 0 79 x = B2 55 x := fun x a b => ma_cp_in a b
  have hF3 : mr_FIX (ma_cp B2 79 0 (M 1 1) 55 0) := md_fr hF2 (p := fun c => c = 79) o3 (fun c hc => by omega)
  have hfr3 : mz_fr mz_p2 M (ma_cp B2 79 0 (M 1 1) 55 0) := mz_fr_w hN hfr2 (q := fun c _ => c = 79) o3 (fun c x h => by unfold mz_p2; omega)
  generalize ma_cp B2 79 0 (M 1 1) 55 0 = B3 at *
  have u3 : B3 0 15 = M 1 1 := (o3 0 15 (by decide)).trans u2
  have en : n - 1 = ((n.toNat : Nat) : Int) - 1 := by omega
  have e55 : ∀ x, 0 ≤ x → x < M 1 1 → B3 79 x = M 55 x := fun x a b => (i3 x a b).trans (hfr2.1 55 x (by decide) (by unfold mz_p2; omega))
  rw [en]
  refine mz_goB1 hI hm n20 hw cont n.toNat B3 _ (by omega) hfr3 hF3 u3 (fun j a b => ?_) (fun c x a b => ?_) (fun l hl j a b => ?_) ⟨fun l a b => ?_, fun d hd => ?_⟩
  · rw [o3 78 j (by decide), i2 j a b, o1 (57 + n) j (by omega)]
    have q := hst n.toNat (by omega) j a b
    rwa [show ((n.toNat : Nat) : Int) = n by omega] at q
  · rw [o3 c x (by omega), o2 c x (by omega), o1 c x (by omega)]
    exact hfr.1 c x (by omega) (by unfold mz_p1; omega)
  · rw [o3 _ j (by omega), o2 _ j (by omega), o1 _ j (by omega)]
    exact hst l (by omega) j a b
  · rw [e55 l a b]
    exact mr_pt1 hI 55 (by omega) l a b
  · exact mf_congr _ (fun l a b => by rw [e55 l a (by omega)])
theorem mz_fr_I {M S : ma_M} (hI : mr_INV M) (h : mz_fr mz_p1 M S) : mr_INV S := by
  have hcn := hI.2.1
  unfold mr_cnt at hcn
  refine mr_INV_scr hI (fun c i hc => h.1 c i (fun z => hc (by unfold mr_scr; omega)) (fun z => hc (by unfold mz_p1 at z; unfold mr_scr; omega))) (fun v k v0 v1 k0 k1 hk => ?_)
  by_cases hv : M 1 0 ≤ v
  · exact h.2.1 v hv v1 k
  · have := h.2.2 v v0 (by omega)
    rcases hk with hk | ⟨a, b⟩ | ⟨a, b⟩
    · omega
    · exact this.1 a k b
    · exact this.2 a k b
theorem mz_snp {M S : ma_M} (h : mr_snp M) (e : ∀ c x, 42 ≤ c → c ≤ 49 → S c x = M c x) : mr_snp S := by
  rcases h with ⟨a, b⟩ | ⟨a, b⟩
  · exact Or.inl ⟨(e 42 1 (by decide) (by decide)).trans a, fun s n s0 s1 n0 n1 => (e _ n (by omega) (by omega)).trans (b s n s0 s1 n0 n1)⟩
  · exact Or.inr ⟨(e 42 1 (by decide) (by decide)).trans a, fun s n s0 s1 n0 n1 => (e _ n (by omega) (by omega)).trans (b s n s0 s1 n0 n1)⟩
/-- what the program has after a march that went through -/
def mz_end (M S : ma_M) (n : Int) : Prop := mz_fr mz_p2 M S ∧ mr_FIX S ∧ S 0 15 = M 1 1 ∧ (∀ j, 0 ≤ j → j < M 1 1 → S 78 j = mz_P M n.toNat j) ∧ mz_bk M S n.toNat 0 ∧ mr_snp S
set_option maxHeartbeats 1000000 in
theorem mz_cls {M : ma_M} (hI : mr_INV M) (hm : M 0 11 = M 1 1) (h0 : M 0 11 ≠ 0) {n s : Int} (n1 : 1 ≤ n) (n20 : n ≤ 20) (s1 : 1 ≤ s) (s5 : s ≤ 5) : mr_do 58 [(2, 0), (0, n), (0, s)] mr_SH M (fun r1 sh1 S => ∃ t r : Int, r1 = some (0, r) ∧ sh1 = mr_SH ∧ mz_G M n.toNat t ∧ (t ≠ 0 → r = t ∧ mr_INV S ∧ mz_fr mz_p1 M S) ∧ (t = 0 → r = mi_T s n ∧ mz_end M S n)) := by
  have hN : 0 ≤ M 1 0 ∧ M 1 0 ≤ 24 := ⟨hI.2.1.1.1, hI.2.1.1.2.1⟩
  have hF := hI.1
  have c1 : ¬ M 1 1 = 0 := by omega
  have c2 : ¬ n < 1 := by omega
  have c3 : ¬ 20 < n := by omega
  have c4 : ¬ s < 1 := by omega
  have c5 : s ≤ 5 := s5
  simp (disch := (first | assumption | omega | ((repeat (refine mr_FIX_up ?_ (by unfold mr_nst; omega))); assumption))) [x58, s58_0, s58_1, x58_4, s58_7, s58_8, s58_11, s58_12, s58_15, x58_18, x58_24, x58_25, x58_26, x58_29, x58_30, x58_32, x58_35, x58_36, x58_37, x58_40, x58_41, x58_42, hm, c1, c2, c3, c4, c5]
  simp (disch := (first | assumption | omega | ((repeat (refine mr_FIX_up ?_ (by unfold mr_nst; omega))); assumption))) [s58_48, x58_49, s58_50]
  refine mz_goAhead hI hm (by omega) n20 (fun S t hfr hFS hG hst => ?_)
  simp only [Option.toList_some, Option.toList_none, List.cons_append, List.nil_append]
  simp (disch := (first | assumption | omega | ((repeat (refine mr_FIX_up ?_ (by unfold mr_nst; omega))); assumption))) only [x58_53, x58_54, x58_55]
  refine ⟨fun z => ?_, fun z => ?_⟩
  · subst z
    have hw : ∀ k : Nat, k < n.toNat → mz_w M k 0 := by
      rcases hG with ⟨_, h⟩ | ⟨h, _⟩
      · exact h
      · exact absurd rfl h
    simp (disch := (first | assumption | omega | ((repeat (refine mr_FIX_up ?_ (by unfold mr_nst; omega))); assumption))) only [s58_60, x58_61, s58_62]
    refine mz_goBack hI hm n1 n20 hw hfr hFS (hst rfl) (fun S2 hfr2 hF2 e15 e78 e42 hbk => ?_)
    simp only [Option.toList_some, Option.toList_none, List.cons_append, List.nil_append]
    simp (disch := (first | assumption | omega | ((repeat (refine mr_FIX_up ?_ (by unfold mr_nst; omega))); assumption))) only [s58_65, s58_66, x58_69, x58_70, s58_71]
    refine mx_again hF2 (mz_snp hI.2.2.2.2.2.2.2.2 e42) n1 n20 s1 s5 (fun S3 hf3 hF3 hsn3 => ?_)
    simp only [Option.toList_some, Option.toList_none, List.cons_append, List.nil_append]
    simp (disch := (first | assumption | omega | ((repeat (refine mr_FIX_up ?_ (by unfold mr_nst; omega))); assumption))) only [x58_74]
    refine ⟨0, mi_T s n, rfl, trivial, hG, fun z => absurd rfl z, fun _ => ⟨rfl, ?_, hF3, (hf3 0 15 (by decide)).trans e15, fun j a b => (hf3 78 j (by decide)).trans (e78 j a b), ⟨fun l a b => ?_, fun d hd => ?_⟩, hsn3⟩⟩
    · exact mz_fr_w hN hfr2 (q := fun c _ => 42 ≤ c ∧ c ≤ 49) hf3 (fun c x h => by unfold mz_p2; omega)
    · rw [hf3 79 l (by decide)]
      exact hbk.1 l a b
    · rw [← hbk.2 d hd]
      exact mf_congr _ (fun l a b => by rw [hf3 79 l (by decide)])
  · simp (disch := (first | assumption | omega | ((repeat (refine mr_FIX_up ?_ (by unfold mr_nst; omega))); assumption))) only [x58_58, x58_59]
    exact ⟨t, t, rfl, trivial, hG, fun _ => ⟨rfl, mz_fr_I hI hfr, hfr⟩, fun w => absurd w z⟩
