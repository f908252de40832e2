/-! the program's table of steps -/
def mi_A (M1 : ma_M) (s n : Int) : Prop := ∀ s' n', 1 ≤ s' → s' ≤ 5 → 1 ≤ n' → n' ≤ 20 → (s' < s ∨ (s' = s ∧ n' < n) ∨ (2 ≤ s' ∧ n' = 1)) → M1 (44 + s') n' = mi_T s' n'
theorem mx_leastl {M : ma_M} (hF : mr_FIX M) {n s : Int} (n2 : 2 ≤ n) (n20 : n ≤ 20) (s2 : 2 ≤ s) (s5 : s ≤ 5) (hA : mi_A M s n) {Q : Option ma_V → ma_S → ma_M → Prop} (q : Q (some (0, mi_T s n)) mr_SH M) : ∀ (m : Nat) (k t : Int), (n - k).toNat < m → 1 ≤ k → k ≤ n → ((k = 1 ∧ t = 2147483647) ∨ (2 ≤ k ∧ t = mr_mn (mi_f s n) (k - 1).toNat)) → ma_wp 39 6 [(2, 42), (0, n), (0, s), (0, t), (0, k)] [] mr_SH M Q := by
  intro m
  induction m with
  | zero => intro k t h; omega
  | succ m ih =>
    intro k t hm h0 h1 ht
    simp (disch := (first | assumption | omega | ((repeat (refine mr_FIX_up ?_ (by unfold mr_nst; omega))); assumption))) only [x39_6, x39_8, x39_9]
    refine ⟨fun h => ?_, fun h => ?_⟩
    · obtain rfl : k = n := by omega
      have : t = mi_T s k := by
        rcases ht with ⟨z, _⟩ | ⟨_, z⟩
        · omega
        · rw [z, mi_Tsn s2 n2]
      simp (disch := (first | assumption | omega | ((repeat (refine mr_FIX_up ?_ (by unfold mr_nst; omega))); assumption))) only [x39_49, x39_50]
      rw [this]
      exact q
    · have la := ml_again (show 0 ≤ s - 1 by omega) (show s - 1 < 6 by omega)
      have lb := ml_again (show 0 ≤ s by omega) (show s < 6 by omega)
      have ea : M (44 + (s - 1)) (n - k) = mi_T (s - 1) (n - k) := hA (s - 1) (n - k) (by omega) (by omega) (by omega) (by omega) (Or.inl (by omega))
      have eb : M (44 + s) k = mi_T s k := hA s k (by omega) s5 (by omega) (by omega) (Or.inr (Or.inl ⟨rfl, by omega⟩))
      have ba := mi_Tb (s := s - 1) (n := n - k) (by omega) (by omega) (by omega)
      have bb := mi_Tb (s := s) (n := k) (by omega) (by omega) (by omega)
      simp (disch := (first | assumption | omega | ((repeat (refine mr_FIX_up ?_ (by unfold mr_nst; omega))); assumption))) only [x39_12, x39_13, s39_15, s39_16, x39_19, x39_20, x39_21, s39_22, x39_23, x39_24, x39_26, x39_27, x39_28, s39_29, s39_30, x39_33, s39_34, x39_35, x39_37, x39_38, x39_39, x39_42, x39_43, x39_46, la, lb, ma_32i, ea, eb]
      refine ⟨by omega, by omega, by omega, by omega, ih (k + 1) _ (by omega) (by omega) (by omega) (Or.inr ⟨by omega, ?_⟩)⟩
      have ef : mi_f s n k.toNat = k + mi_T (s - 1) (n - k) + mi_T s k := by
        unfold mi_f
        rw [show ((k.toNat : Nat) : Int) = k by omega]
      rw [← ef, show (k + 1 - 1).toNat = k.toNat by omega]
      rcases ht with ⟨z, w⟩ | ⟨z, w⟩
      · subst z
        subst w
        have e1 : mr_mn (mi_f s n) (1 : Int).toNat = mi_f s n 1 := rfl
        rw [e1]
        have : mi_f s n (1 : Int).toNat = mi_f s n 1 := rfl
        rw [this] at ef ⊢
        split <;> omega
      · rw [w]
        have e1 := mi_mn (f := mi_f s n) (n := (k - 1).toNat) (by omega)
        rw [show (k - 1).toNat + 1 = k.toNat by omega] at e1
        rw [e1]
theorem mx_least {M : ma_M} (hF : mr_FIX M) {n s : Int} (n2 : 2 ≤ n) (n20 : n ≤ 20) (s2 : 2 ≤ s) (s5 : s ≤ 5) (hA : mi_A M s n) {Q : Option ma_V → ma_S → ma_M → Prop} (q : Q (some (0, mi_T s n)) mr_SH M) : mr_do 39 [(2, 42), (0, n), (0, s)] mr_SH M Q := by
  simp (disch := (first | assumption | omega | ((repeat (refine mr_FIX_up ?_ (by unfold mr_nst; omega))); assumption))) only [x39, x39_0, x39_2, x39_3, x39_4]
  exact mx_leastl hF n2 n20 s2 s5 hA q (n.toNat + 1) 1 _ (by omega) (by omega) (by omega) (Or.inl ⟨rfl, rfl⟩)
def mi_fr (M M1 : ma_M) : Prop := ∀ c k, ¬ (44 ≤ c ∧ c ≤ 49) → M1 c k = M c k
theorem mi_fr_F {M M1 : ma_M} (hF : mr_FIX M) (h : mi_fr M M1) : mr_FIX M1 := md_fr hF (p := fun c => 44 ≤ c ∧ c ≤ 49) (fun c k hc => h c k hc) (fun c hc => by omega)
theorem mi_fr_up {M M1 : ma_M} {s n x : Int} (h : mi_fr M M1) (s0 : 0 ≤ s) (s5 : s ≤ 5) : mi_fr M (ma_up M1 (44 + s) n x) := fun c k hc => (ma_up_ne (by omega)).trans (h c k hc)
theorem mx_fill3 {M : ma_M} (hF : mr_FIX M) {s : Int} (s2 : 2 ≤ s) (s5 : s ≤ 5) {Q : Option ma_V → ma_S → ma_M → Prop} (cont : ∀ (M1 : ma_M) (a2 : ma_V), mi_fr M M1 → mi_A M1 (s + 1) 2 → ma_wp 38 31 [(2, 42), (0, s + 1), a2] [] mr_SH M1 Q) : ∀ (m : Nat) (n : Int) (M1 : ma_M), (21 - n).toNat < m → 2 ≤ n → n ≤ 21 → mi_fr M M1 → mi_A M1 s n → ma_wp 38 38 [(2, 42), (0, s), (0, n)] [] mr_SH M1 Q := by
  intro m
  induction m with
  | zero => intro n M1 h; omega
  | succ m ih =>
    intro n M1 hm h0 h1 hf hA
    have hF1 := mi_fr_F hF hf
    simp (disch := (first | assumption | omega | ((repeat (refine mr_FIX_up ?_ (by unfold mr_nst; omega))); assumption))) only [x38_38, x38_39, x38_41]
    refine ⟨fun h => ?_, fun h => ?_⟩
    · simp (disch := (first | assumption | omega | ((repeat (refine mr_FIX_up ?_ (by unfold mr_nst; omega))); assumption))) only [x38_64, x38_67, ma_32i]
      refine cont M1 _ hf (fun s' n' a b c d e => hA s' n' a b c d ?_)
      omega
    · have lb := ml_again (show 0 ≤ s by omega) (show s < 6 by omega)
      simp (disch := (first | assumption | omega | ((repeat (refine mr_FIX_up ?_ (by unfold mr_nst; omega))); assumption))) only [s38_44, s38_45, x38_48, s38_49, x38_50, s38_51, x38_52, x38_53, s38_54]
      refine ⟨by omega, mx_least hF1 h0 (by omega) s2 s5 hA ?_⟩
      simp only [Option.toList_some, Option.toList_none, List.cons_append, List.nil_append]
      simp (disch := (first | assumption | omega | ((repeat (refine mr_FIX_up ?_ (by unfold mr_nst; omega))); assumption))) only [x38_57, x38_58, x38_61, lb, ma_32i]
      refine ⟨by omega, ih (n + 1) _ (by omega) (by omega) (by omega) (mi_fr_up hf (by omega) s5) (fun s' n' a b c d e => ?_)⟩
      by_cases e1 : s' = s
      · subst e1
        by_cases e2 : n' = n
        · subst e2; rw [ma_up_s]
        · rw [ma_up_ne2 e2]
          exact hA s' n' a b c d (by omega)
      · rw [ma_up_ne (by omega)]
        exact hA s' n' a b c d (by omega)
theorem mx_fill2 {M : ma_M} (hF : mr_FIX M) {Q : Option ma_V → ma_S → ma_M → Prop} (cont : ∀ M1 : ma_M, mi_fr M M1 → mi_A M1 6 2 → Q none mr_SH M1) : ∀ (m : Nat) (s : Int) (M1 : ma_M) (a2 : ma_V), (6 - s).toNat < m → 2 ≤ s → s ≤ 6 → mi_fr M M1 → mi_A M1 s 2 → ma_wp 38 31 [(2, 42), (0, s), a2] [] mr_SH M1 Q := by
  intro m
  induction m with
  | zero => intro s M1 a2 h; omega
  | succ m ih =>
    intro s M1 a2 hm h0 h1 hf hA
    have hF1 := mi_fr_F hF hf
    simp (disch := (first | assumption | omega | ((repeat (refine mr_FIX_up ?_ (by unfold mr_nst; omega))); assumption))) only [x38_31, x38_32, x38_33]
    refine ⟨fun h => ?_, fun h => ?_⟩
    · obtain rfl : s = 6 := by omega
      simp (disch := (first | assumption | omega | ((repeat (refine mr_FIX_up ?_ (by unfold mr_nst; omega))); assumption))) only [x38_70]
      exact cont M1 hf hA
    · simp (disch := (first | assumption | omega | ((repeat (refine mr_FIX_up ?_ (by unfold mr_nst; omega))); assumption))) only [x38_36, x38_37]
      exact mx_fill3 hF h0 (by omega) (fun M2 a2 hf2 hA2 => ih (s + 1) M2 a2 (by omega) (by omega) (by omega) hf2 hA2) 20 2 M1 (by decide) (by decide) (by decide) hf hA
theorem mi_bn {n : Int} (h1 : 1 ≤ n) (h2 : n ≤ 20) : 0 ≤ n * (n - 1) ∧ n * (n - 1) ≤ 400 := ⟨Int.mul_nonneg (by omega) (by omega), Int.le_trans (Int.mul_le_mul h2 (show n - 1 ≤ 20 by omega) (by omega) (by decide)) (by decide)⟩
theorem mi_td {x : Int} (h : 0 ≤ x) : x.tdiv 2 = x / 2 := Int.tdiv_eq_ediv_of_nonneg h
theorem mr_20 : ((2 : Int) ≠ 0) = True := by simp
theorem mx_fill1 {M : ma_M} (hF : mr_FIX M) (hz : ∀ s n, 2 ≤ s → s ≤ 5 → n = 1 → M (44 + s) n = 0) {Q : Option ma_V → ma_S → ma_M → Prop} (cont : ∀ M1 : ma_M, mi_fr M M1 → mi_A M1 6 2 → Q none mr_SH M1) : ∀ (m : Nat) (n : Int) (M1 : ma_M), (21 - n).toNat < m → 1 ≤ n → n ≤ 21 → mi_fr M M1 → (∀ s n, 2 ≤ s → s ≤ 5 → n = 1 → M1 (44 + s) n = 0) → (∀ k, 1 ≤ k → k < n → M1 45 k = mi_T 1 k) → ma_wp 38 2 [(2, 42), (0, n), (3, 0)] [] mr_SH M1 Q := by
  intro m
  induction m with
  | zero => intro n M1 h; omega
  | succ m ih =>
    intro n M1 hm h0 h1 hf hz1 hA
    have hF1 := mi_fr_F hF hf
    simp (disch := (first | assumption | omega | ((repeat (refine mr_FIX_up ?_ (by unfold mr_nst; omega))); assumption))) only [x38_2, x38_3, x38_5]
    refine ⟨fun h => ?_, fun h => ?_⟩
    · simp (disch := (first | assumption | omega | ((repeat (refine mr_FIX_up ?_ (by unfold mr_nst; omega))); assumption))) only [x38_29, x38_30]
      refine mx_fill2 hF cont 5 2 M1 _ (by decide) (by decide) (by decide) hf (fun s' n' a b c d e => ?_)
      rcases e with e | e | e
      · obtain rfl : s' = 1 := by omega
        exact hA n' c (by omega)
      · rw [hz1 s' n' (by omega) b (by omega), show n' = 1 by omega, mi_Ts1 (by omega)]
      · rw [hz1 s' n' e.1 b e.2, e.2, mi_Ts1 e.1]
    · have l1 := ml_again (i := 1) (by decide) (by decide)
      have bn := mi_bn h0 (show n ≤ 20 by omega)
      have e45 : (44 : Int) + 1 = 45 := rfl
      rw [e45] at l1
      simp (disch := (first | assumption | omega | ((repeat (refine mr_FIX_up ?_ (by unfold mr_nst; omega))); assumption))) only [s38_8, s38_9, x38_12, s38_13, x38_14, x38_15, x38_16, x38_17, x38_18, x38_19, x38_20, x38_21, x38_22, x38_23, x38_26, l1, ma_32i, mi_td, mr_20, true_and, e45]
      refine ⟨by omega, by omega, ih (n + 1) _ (by omega) (by omega) (by omega) (fun c k hc => (ma_up_ne (by omega)).trans (hf c k hc)) (fun s n x y z => (ma_up_ne (by omega)).trans (hz1 s n x y z)) (fun k k0 k1 => ?_)⟩
      by_cases e : k = n
      · subst e
        rw [ma_up_s, mi_T11 k0]
      · rw [ma_up_ne2 e]
        exact hA k k0 (by omega)
/-- stepsAgain -/
theorem mx_again {M : ma_M} (hF : mr_FIX M) (hsn : mr_snp M) {n s : Int} (n1 : 1 ≤ n) (n2 : n ≤ 20) (s1 : 1 ≤ s) (s2 : s ≤ 5) {Q : Option ma_V → ma_S → ma_M → Prop} (cont : ∀ M2 : ma_M, (∀ c k, ¬ (42 ≤ c ∧ c ≤ 49) → M2 c k = M c k) → mr_FIX M2 → mr_snp M2 → Q (some (0, mi_T s n)) mr_SH M2) : mr_do 37 [(2, 42), (0, n), (0, s)] mr_SH M Q := by
  have ls := ml_again (show 0 ≤ s by omega) (show s < 6 by omega)
  have s6 : 0 ≤ s ∧ s < 6 := by omega
  have n21 : 0 ≤ n ∧ n < 21 := by omega
  rcases hsn with ⟨k0, hz⟩ | ⟨k1, hz⟩
  · simp (disch := (first | assumption | omega | ((repeat (refine mr_FIX_up ?_ (by unfold mr_nst; omega))); assumption))) [x37, s37_0, s37_1, x37_4, s37_7, s37_8, k0]
    rw [x38]
    simp (disch := (first | assumption | omega | ((repeat (refine mr_FIX_up ?_ (by unfold mr_nst; omega))); assumption))) only [x38_0, x38_1]
    refine mx_fill1 hF (fun s n a b c => hz s n (by omega) b (by omega) (by omega)) (fun M1 hf hA => ?_) 21 1 M (by decide) (by decide) (by decide) (fun _ _ _ => rfl) (fun s n a b c => hz s n (by omega) b (by omega) (by omega)) (fun k a b => by omega)
    have hF1 := mi_fr_F hF hf
    have hF2 : mr_FIX (ma_up M1 42 1 1) := mr_FIX_up hF1 (by unfold mr_nst; omega)
    have e : ma_up M1 42 1 1 (44 + s) n = mi_T s n := (ma_up_ne (by omega)).trans (hA s n s1 s2 n1 n2 (Or.inl (by omega)))
    simp only [Option.toList_some, Option.toList_none, List.cons_append, List.nil_append]
    simp (disch := (first | assumption | omega | ((repeat (refine mr_FIX_up ?_ (by unfold mr_nst; omega))); assumption))) [s37_11, x37_12, s37_13, s37_16, s37_17, x37_20, s37_21, x37_22, x37_23, x37_24, ls, e]
    refine ⟨s6, n21, cont _ (fun c k hc => (ma_up_ne (by omega)).trans (hf c k (by omega))) hF2 (Or.inr ⟨ma_up_s, fun s n a b c d => ?_⟩)⟩
    exact (ma_up_ne (by omega)).trans (hA s n a b c d (Or.inl (by omega)))
  · have e : M (44 + s) n = mi_T s n := hz s n s1 s2 n1 n2
    simp (disch := (first | assumption | omega | ((repeat (refine mr_FIX_up ?_ (by unfold mr_nst; omega))); assumption))) [x37, s37_0, s37_1, x37_4, s37_16, s37_17, x37_20, s37_21, x37_22, x37_23, x37_24, k1, ls, e]
    exact ⟨s6, n21, cont M (fun _ _ _ => rfl) hF (Or.inr ⟨k1, hz⟩)⟩
