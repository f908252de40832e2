/-! goBack -/
/-- how the shares of the inputs stand to the march's end -/
def mz_Z (M : ma_M) (n : Nat) (d : Int → Int) : mq_F := mf_s (fun i => mq (M 55 i) * mq (mz_D M d n i)) (M 1 1).toNat
def mz_bk (M S : ma_M) (n k : Nat) : Prop := (∀ l, 0 ≤ l → l < M 1 1 → 0 ≤ S 79 l ∧ S 79 l < 65521) ∧ ∀ d : Int → Int, (∀ j, 0 ≤ j → j < M 1 1 → 0 ≤ d j ∧ d j < 65521) → mf_s (fun l => mq (S 79 l) * mq (mz_D M d k l)) (M 1 1).toNat = mz_Z M n d
set_option maxHeartbeats 1000000 in
theorem mz_goB2 {M B : ma_M} (hI : mr_INV M) (hFB : mr_FIX B) (e15 : B 0 15 = M 1 1) (e7 : ∀ j, B 7 j = M 7 j) {n k : Int} {Q : Option ma_V → ma_S → ma_M → Prop} (cont : ∀ S : ma_M, (∀ c x, c ≠ 79 → S c x = B c x) → (∀ j, 0 ≤ j → j < M 1 1 → S 79 j = B 36 (M 7 j)) → ma_wp 71 121 [(2, 0), (0, n), (0, k), (0, M 1 1)] [] mr_SH S Q) : ∀ (m : Nat) (i : Int) (S : ma_M), (M 1 1 - i).toNat < m → 0 ≤ i → i ≤ M 1 1 → (∀ c x, c ≠ 79 → S c x = B c x) → (∀ x, 0 ≤ x → x < i → S 79 x = B 36 (M 7 x)) → ma_wp 71 84 [(2, 0), (0, n), (0, k), (0, i)] [] mr_SH S Q := by
  have hI5 : M 1 1 ≤ 5 := hI.2.1.2.1.2.1
  have hN : M 1 0 ≤ 24 := hI.2.1.1.2.1
  intro m
  induction m with
  | zero => intro i S h; omega
  | succ m ih =>
    intro i S hm h0 h1 hfr hv
    have hF1 : mr_FIX S := md_fr hFB (p := fun c => c = 79) (fun c x hc => hfr c x hc) (fun c hc => by omega)
    have e1 : S 0 15 = M 1 1 := (hfr 0 15 (by omega)).trans e15
    simp (disch := (first | assumption | omega | ((repeat (refine mr_FIX_up ?_ (by unfold mr_nst; omega))); assumption))) only [x71_84, s71_85, s71_86, x71_89, e1]
    refine ⟨fun h => ?_, fun h => ?_⟩
    · obtain rfl : i = M 1 1 := by omega
      exact cont S hfr hv
    · have ho := hI.2.2.2.2.1 i h0 (by omega)
      have e2 : S 7 i = M 7 i := (hfr 7 i (by omega)).trans (e7 i)
      have e3 : S 36 (M 7 i) = B 36 (M 7 i) := hfr 36 _ (by omega)
      have v24 : 0 ≤ M 7 i ∧ M 7 i < 24 := by omega
      have i5 : 0 ≤ i ∧ i < 5 := by omega
      simp (disch := (first | assumption | omega | ((repeat (refine mr_FIX_up ?_ (by unfold mr_nst; omega))); assumption))) [s71_92, s71_93, x71_96, s71_97, s71_98, s71_101, s71_104, s71_105, s71_108, x71_111, s71_112, s71_113, s71_114, x71_115, x71_118, ma_32i, e2, e3]
      refine ⟨i5, v24, i5, ih (i + 1) _ (by omega) (by omega) (by omega) (fun c x hc => (ma_up_ne hc).trans (hfr c x hc)) (fun x x0 x1 => ?_)⟩
      by_cases e : x = i
      · subst e; rw [ma_up_s]
      · rw [ma_up_ne2 e]; exact hv x x0 (by omega)
/-- one step back -/
theorem mz_back {M : ma_M} (hI : mr_INV M) (hm : M 0 11 = M 1 1) {k : Nat} {s a : Int → Int} (hPhi : ∀ D, mb_der M (mt_V M (mt_L (mz_P M k) (M 51))) D → mb_Phi M D s (-1) = mf_s (fun i => mq (a i) * D (M 54 i)) (M 0 11).toNat) {d : Int → Int} (hd : ∀ j, 0 ≤ j → j < M 1 1 → 0 ≤ d j ∧ d j < 65521) : mf_s (fun l => mq (s (M 7 l)) * mq (mz_D M d k l)) (M 1 1).toNat = mf_s (fun l => mq (a l) * mq (mz_D M d (k + 1) l)) (M 1 1).toNat := by
  have key := hPhi _ (mb_der_V hI (p := mz_P M k) (d := mz_D M d k) (d' := M 51) (mz_P_b hI hm k) (mz_D_b hI hm hd k))
  rw [mb_fin hI, hm] at key
  exact key
set_option maxHeartbeats 2000000 in
theorem mz_goB1 {M : ma_M} (hI : mr_INV M) (hm : M 0 11 = M 1 1) {n : Int} (n20 : n ≤ 20) (hw : ∀ k : Nat, k < n.toNat → mz_w M k 0) {Q : Option ma_V → ma_S → ma_M → Prop} (cont : ∀ S : ma_M, mz_fr mz_p2 M S → mr_FIX S → S 0 15 = M 1 1 → (∀ j, 0 ≤ j → j < M 1 1 → S 78 j = mz_P M n.toNat j) → (∀ c x, 42 ≤ c → c ≤ 49 → S c x = M c x) → mz_bk M S n.toNat 0 → Q none mr_SH S) : ∀ (k : Nat) (S : ma_M) (a3 : ma_V), (k : Int) ≤ n → mz_fr mz_p2 M S → mr_FIX S → S 0 15 = M 1 1 → (∀ j, 0 ≤ j → j < M 1 1 → S 78 j = mz_P M n.toNat j) → (∀ c x, 42 ≤ c → c ≤ 49 → S c x = M c x) → (∀ l : Nat, (l : Int) < n → ∀ j, 0 ≤ j → j < M 1 1 → S (57 + (l : Int)) j = mz_P M l j) → mz_bk M S n.toNat k → ma_wp 71 48 [(2, 0), (0, n), (0, (k : Int) - 1), a3] [] mr_SH S Q := by
  have hN : 0 ≤ M 1 0 ∧ M 1 0 ≤ 24 := ⟨hI.2.1.1.1, hI.2.1.1.2.1⟩
  have hI5 : 0 ≤ M 1 1 ∧ M 1 1 ≤ 5 := ⟨hI.2.1.2.1.1, hI.2.1.2.1.2.1⟩
  intro k
  induction k with
  | zero =>
    intro S a3 hk hfr hF e15 e78 e42 hst hbk
    simp (disch := (first | assumption | omega | ((repeat (refine mr_FIX_up ?_ (by unfold mr_nst; omega))); assumption))) only [x71_48, x71_49]
    refine ⟨fun h => ?_, fun h => by omega⟩
    simp (disch := (first | assumption | omega | ((repeat (refine mr_FIX_up ?_ (by unfold mr_nst; omega))); assumption))) only [x71_127]
    exact cont S hfr hF e15 e78 e42 hbk
  | succ k ih =>
    intro S a3 hk hfr hF e15 e78 e42 hst hbk
    have ek : ((k + 1 : Nat) : Int) - 1 = (k : Int) := by omega
    rw [ek]
    simp (disch := (first | assumption | omega | ((repeat (refine mr_FIX_up ?_ (by unfold mr_nst; omega))); assumption))) only [x71_48, x71_49]
    refine ⟨fun h => by omega, fun h => ?_⟩
    have k21 : 0 ≤ (k : Int) ∧ (k : Int) < 21 := by omega
    have ls : ma_al mr_SH (57 + (k : Int)) 0 = 5 := ml_stat k21.1 k21.2
    have nst : ¬ (57 + (k : Int) = -1) := by omega
    simp (disch := (first | assumption | omega | ((repeat (refine mr_FIX_up ?_ (by unfold mr_nst; omega))); assumption))) [s71_52, s71_53, s71_56, s71_57, s71_60, s71_61, x71_64, s71_65, s71_66, s71_67, x71_70, s71_71, k21, nst]
    refine mz_run hI hm hF hfr (fun c x z => by unfold mz_p2 at z; omega) ⟨by omega, ls⟩ (by omega) (k := k) (hst k (by omega)) (fun S2 hf2 hag => ?_)
    have hF2 := mx_fr_F hF hf2
    have hfr2 := mz_fr_run hfr (fun x z => by unfold mz_p2 at z; omega) hf2
    have hL : mt_Lb M (mt_L (mz_P M k) (M 51)) := mt_L_b (mz_P_b hI hm k) (mr_pt1 hI 51 (by omega))
    have e79 : ∀ x, S2 79 x = S 79 x := fun x => hf2.1 79 x (by decide)
    simp only [Option.toList_some, Option.toList_none, List.cons_append, List.nil_append]
    simp (disch := (first | assumption | omega | ((repeat (refine mr_FIX_up ?_ (by unfold mr_nst; omega))); assumption))) only [s71_74, s71_75, s71_76, s71_79]
    refine mx_handBack hI hL hF2 (fun c x hc => hfr2.1 c x (by omega) (by unfold mz_p2; omega)) (fun u u0 u1 h9 => ((hag u u0 u1).2 h9).2.1) (r := 79) ⟨by decide, ml_79⟩ (by decide) (fun i a b => ?_) (fun S3 hf3 hok hPhi => ?_)
    · rw [e79]
      have ho := mz_o hI a b
      have bV := mt_V_b hI hL 25 (M 54 i) ho.2.2.1 ho.1 ho.2.1
      exact ⟨hbk.1 i a (by omega), fun _ => mx_st0 (mw_W_sm (hw k (by omega)) i a b (Or.inl rfl)) bV.2.1 bV.2.2⟩
    · have hF3 : mr_FIX S3 := md_fr hF2 (p := fun c => c = 36) (fun c x hc => hf3 c x hc) (fun c hc => by omega)
      have hfr3 : mz_fr mz_p2 M S3 := mz_fr_w hN hfr2 (q := fun c _ => c = 36) (fun c x hc => hf3 c x hc) (fun c x hc => by unfold mz_p2; omega)
      have g15 : S3 0 15 = M 1 1 := (hf3 0 15 (by decide)).trans ((hf2.1 0 15 (by decide)).trans e15)
      have g7 : ∀ j, S3 7 j = M 7 j := fun j => hfr3.1 7 j (by decide) (by unfold mz_p2; omega)
      simp only [Option.toList_some, Option.toList_none, List.cons_append, List.nil_append]
      simp (disch := (first | assumption | omega | ((repeat (refine mr_FIX_up ?_ (by unfold mr_nst; omega))); assumption))) only [x71_82, x71_83]
      refine mz_goB2 hI hF3 g15 g7 (fun S4 hf4 hv4 => ?_) 6 0 S3 (by omega) (by decide) hI5.1 (fun _ _ _ => rfl) (fun x a b => by omega)
      have hF4 : mr_FIX S4 := md_fr hF3 (p := fun c => c = 79) (fun c x hc => hf4 c x hc) (fun c hc => by omega)
      have hfr4 : mz_fr mz_p2 M S4 := mz_fr_w hN hfr3 (q := fun c _ => c = 79) (fun c x hc => hf4 c x hc) (fun c x hc => by unfold mz_p2; omega)
      have old : ∀ c x, ¬ (10 ≤ c ∧ c ≤ 36) → c ≠ 79 → S4 c x = S c x := fun c x a b => (hf4 c x b).trans ((hf3 c x (by omega)).trans (hf2.1 c x (by omega)))
      simp (disch := (first | assumption | omega | ((repeat (refine mr_FIX_up ?_ (by unfold mr_nst; omega))); assumption))) only [x71_121, x71_124, ma_32i]
      refine ih S4 _ (by omega) hfr4 hF4 ((old 0 15 (by decide) (by decide)).trans e15) (fun j a b => (old 78 j (by decide) (by decide)).trans (e78 j a b)) (fun c x a b => (old c x (by omega) (by omega)).trans (e42 c x a b)) (fun l hl j a b => (old _ j (by omega) (by omega)).trans (hst l hl j a b)) ⟨fun l a b => ?_, fun d hd => ?_⟩
      · rw [hv4 l a b]
        have h7 := hI.2.2.2.2.1 l a b
        exact (hok _ h7.1 h7.2.1).1
      · rw [← hbk.2 d hd, mf_congr (g := fun l => mq (S3 36 (M 7 l)) * mq (mz_D M d k l)) _ (fun l a b => by rw [hv4 l a (by omega)])]
        have := mz_back hI hm hPhi hd
        rw [this]
        exact mf_congr _ (fun l a b => by rw [e79])
