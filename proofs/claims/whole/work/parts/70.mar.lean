/-! march: the lists of numbers that it comes through, and how they move along a direction -/
def mz_P (M : ma_M) : Nat → Int → Int
  | 0 => M 50
  | k + 1 => fun i => mt_V M (mt_L (mz_P M k) (M 51)) (M 54 i) 0
def mz_D (M : ma_M) (d : Int → Int) : Nat → Int → Int
  | 0 => d
  | k + 1 => fun i => mt_V M (mt_L (mz_P M k) (mz_D M d k)) (M 54 i) 1
theorem mz_o {M : ma_M} (hI : mr_INV M) {i : Int} (i0 : 0 ≤ i) (i1 : i < M 0 11) : 0 ≤ M 54 i ∧ M 54 i < M 1 0 ∧ (M 54 i).toNat < 25 ∧ M 54 i < 24 := by
  have a := (hI.2.2.2.2.2.2.1 i i0 i1).2
  have b := hI.2.1.1.2.1
  omega
theorem mz_P_b {M : ma_M} (hI : mr_INV M) (hm : M 0 11 = M 1 1) : ∀ (k : Nat) (j : Int), 0 ≤ j → j < M 1 1 → 0 ≤ mz_P M k j ∧ mz_P M k j < 65521
  | 0 => mr_pt1 hI 50 (by omega)
  | k + 1 => fun j j0 j1 => by
    have ho := mz_o hI j0 (show j < M 0 11 by omega)
    exact (mt_V_b hI (mt_L_b (mz_P_b hI hm k) (mr_pt1 hI 51 (by omega))) 25 _ ho.2.2.1 ho.1 ho.2.1).1 0 (by decide) (by decide)
theorem mz_D_b {M : ma_M} (hI : mr_INV M) (hm : M 0 11 = M 1 1) {d : Int → Int} (hd : ∀ j, 0 ≤ j → j < M 1 1 → 0 ≤ d j ∧ d j < 65521) : ∀ (k : Nat) (j : Int), 0 ≤ j → j < M 1 1 → 0 ≤ mz_D M d k j ∧ mz_D M d k j < 65521
  | 0 => hd
  | k + 1 => fun j j0 j1 => by
    have ho := mz_o hI j0 (show j < M 0 11 by omega)
    exact (mt_V_b hI (mt_L_b (mz_P_b hI hm k) (mz_D_b hI hm hd k)) 25 _ ho.2.2.1 ho.1 ho.2.1).1 1 (by decide) (by decide)
def mz_w (M : ma_M) (k : Nat) (t : Int) : Prop := mw_W M (mt_V M (mt_L (mz_P M k) (M 51))) 0 t (M 0 11)
/-- the state of the first step that is not smooth, or 0 -/
def mz_G (M : ma_M) (n : Nat) (t : Int) : Prop := (t = 0 ∧ ∀ k : Nat, k < n → mz_w M k 0) ∨ (t ≠ 0 ∧ ∃ k : Nat, k < n ∧ mz_w M k t ∧ ∀ l : Nat, l < k → mz_w M l 0)
theorem mz_G_u {M : ma_M} {n : Nat} {t t' : Int} (h : mz_G M n t) (h' : mz_G M n t') : t = t' := by
  rcases h with ⟨rfl, h⟩ | ⟨ht, k, kn, hk, hl⟩
  · rcases h' with ⟨rfl, _⟩ | ⟨_, k, kn, hk, _⟩
    · rfl
    · exact mw_W_u (h k kn) hk
  · rcases h' with ⟨rfl, h⟩ | ⟨ht', k', kn', hk', hl'⟩
    · exact mw_W_u hk (h k kn)
    · rcases Nat.lt_trichotomy k k' with q | q | q
      · exact absurd (mw_W_u hk (hl' k q)) ht
      · subst q; exact mw_W_u hk hk'
      · exact absurd (mw_W_u hk' (hl k' q)) ht'
/-- tables of lines that agree -/
theorem mz_V {M : ma_M} (hI : mr_INV M) {L L' : Int → Int → Int} (h : ∀ j n, 0 ≤ j → j < M 1 1 → 0 ≤ n → n ≤ 8 → L j n = L' j n) {u : Int} (u0 : 0 ≤ u) (u1 : u < M 1 0) : (∀ n, 0 ≤ n → n ≤ 8 → mt_V M L u n = mt_V M L' u n) ∧ mt_V M L u 9 = mt_V M L' u 9 ∧ mt_V M L u 10 = mt_V M L' u 10 := mt_V_cg hI (m := 8) (by decide) (by decide) h (u.toNat + 1) u (by omega) u0 u1
theorem mz_ag {S : ma_M} {V V' : Int → Int → Int} {o u : Int} (o8 : o ≤ 8) (e : (∀ n, 0 ≤ n → n ≤ 8 → V u n = V' u n) ∧ V u 9 = V' u 9 ∧ V u 10 = V' u 10) (h : mx_ag S V o u) : mx_ag S V' o u := by
  unfold mx_ag mx_st at h ⊢
  rw [← e.2.1, ← e.2.2, ← e.1 0 (by decide) (by decide)]
  refine ⟨h.1, fun z => ⟨(h.2 z).1, (h.2 z).2.1, fun w n n0 n1 => ?_⟩⟩
  rw [← e.1 n n0 (by omega)]
  exact (h.2 z).2.2 w n n0 n1
/-! frames -/
def mz_fr (p : Int → Int → Prop) (M S : ma_M) : Prop := (∀ c k, ¬ (10 ≤ c ∧ c ≤ 34) → ¬ p c k → S c k = M c k) ∧ (∀ w, M 1 0 ≤ w → w < 24 → ∀ k, S (10 + w) k = M (10 + w) k) ∧ ∀ w, 0 ≤ w → w < M 1 0 → (M 2 w = 7 → ∀ k, 2 ≤ k → S (10 + w) k = M (10 + w) k) ∧ (M 2 w = 8 → ∀ k, 1 ≤ k → S (10 + w) k = M (10 + w) k)
def mz_p1 (c _k : Int) : Prop := 57 ≤ c ∧ c ≤ 77
def mz_p2 (c k : Int) : Prop := c = 36 ∨ (42 ≤ c ∧ c ≤ 49) ∨ (57 ≤ c ∧ c ≤ 79) ∨ (c = 0 ∧ k = 15)
theorem mz_fr_0 (p : Int → Int → Prop) (M : ma_M) : mz_fr p M M := ⟨fun _ _ _ _ => rfl, fun _ _ _ _ => rfl, fun _ _ _ => ⟨fun _ _ _ => rfl, fun _ _ _ => rfl⟩⟩
theorem mz_fr_i {p q : Int → Int → Prop} {M S : ma_M} (h : mz_fr p M S) (hq : ∀ c k, p c k → q c k) : mz_fr q M S := ⟨fun c k a b => h.1 c k a (fun z => b (hq c k z)), h.2⟩
theorem mz_fr_run {p : Int → Int → Prop} {M S S2 : ma_M} (h : mz_fr p M S) (hp : ∀ k, ¬ p 2 k) (hr : mx_fr S S2 (M 1 0)) : mz_fr p M S2 := by
  refine ⟨fun c k a b => (hr.1 c k a).trans (h.1 c k a b), fun w a b k => (hr.2.1 w a b k).trans (h.2.1 w a b k), fun w a b => ⟨fun z k hk => ?_, fun z k hk => ?_⟩⟩
  · exact ((hr.2.2 w a b).1 ((h.1 2 w (by decide) (hp w)).trans z) k hk).trans ((h.2.2 w a b).1 z k hk)
  · exact ((hr.2.2 w a b).2 ((h.1 2 w (by decide) (hp w)).trans z) k hk).trans ((h.2.2 w a b).2 z k hk)
theorem mz_fr_w {p q : Int → Int → Prop} {M S S2 : ma_M} (hN : 0 ≤ M 1 0 ∧ M 1 0 ≤ 24) (h : mz_fr p M S) (hw : ∀ c k, ¬ q c k → S2 c k = S c k) (hq : ∀ c k, q c k → p c k ∧ ¬ (10 ≤ c ∧ c ≤ 34)) : mz_fr p M S2 := by
  refine ⟨fun c k a b => (hw c k (fun z => b (hq c k z).1)).trans (h.1 c k a b), fun w a b k => (hw _ k (fun z => (hq _ k z).2 (by omega))).trans (h.2.1 w a b k), fun w a b => ⟨fun z k hk => ?_, fun z k hk => ?_⟩⟩
  · exact (hw _ k (fun z => (hq _ k z).2 (by omega))).trans ((h.2.2 w a b).1 z k hk)
  · exact (hw _ k (fun z => (hq _ k z).2 (by omega))).trans ((h.2.2 w a b).2 z k hk)
/-- a sweep at a station -/
theorem mz_run {p : Int → Int → Prop} {M S : ma_M} (hI : mr_INV M) (hm : M 0 11 = M 1 1) (hFS : mr_FIX S) (h : mz_fr p M S) (hp : ∀ c k, p c k → ¬ (1 ≤ c ∧ c ≤ 5) ∧ c ≠ 51) {a : Int} (ha : mx_ar a 5) (ha1 : ¬ (10 ≤ a ∧ a ≤ 34)) {k : Nat} (hst : ∀ j, 0 ≤ j → j < M 1 1 → S a j = mz_P M k j) {Q : Option ma_V → ma_S → ma_M → Prop} (cont : ∀ S2 : ma_M, mx_fr S S2 (M 1 0) → (∀ u, 0 ≤ u → u < M 1 0 → mx_ag S2 (mt_V M (mt_L (mz_P M k) (M 51))) 0 u) → Q none mr_SH S2) : mr_do 15 [(2, 8), (2, 1), (2, a), (2, 51), (0, 0)] mr_SH S Q := by
  have e51 : ∀ x, S 51 x = M 51 x := fun x => h.1 51 x (by decide) (fun z => (hp _ _ z).2 rfl)
  refine mx_runS hI hFS (fun c k c0 c1 => h.1 c k (by omega) (fun z => (hp c k z).1 ⟨c0, c1⟩)) (fun v v0 v1 z k k0 k1 => ?_) (fun v v0 v1 z k k0 k1 => ?_) ha ⟨by decide, ml_51⟩ ha1 (by decide) (by decide) (by decide) (fun j j0 j1 => ?_) (fun j j0 j1 => ?_) (fun S2 hf hag => cont S2 hf (fun u u0 u1 => mz_ag (by decide) (mz_V hI (fun j n j0 j1 _ _ => ?_) u0 u1) (hag u u0 u1)))
  · exact ((h.2.2 v v0 v1).1 z k k0).trans (((hI.2.2.1 v v0 v1).2.2.2.1 z).2.2.2.2.2 k k0 k1)
  · exact ((h.2.2 v v0 v1).2 z k k0).trans (((hI.2.2.1 v v0 v1).2.2.2.2 z).2.2.2.2 k k0 k1)
  · rw [hst j j0 j1]; exact mz_P_b hI hm k j j0 j1
  · rw [e51]; exact mr_pt1 hI 51 (by omega) j j0 j1
  · unfold mt_L
    rw [hst j j0 j1, e51]
/-! goAhead -/
set_option maxHeartbeats 1000000 in
theorem mz_goA2 {M B : ma_M} (hI : mr_INV M) (hFB : mr_FIX B) (e11 : B 0 11 = M 0 11) (e54 : ∀ i, B 54 i = M 54 i) {n k t : Int} {f : Int → Int} (hf : ∀ i, 0 ≤ i → i < M 0 11 → B (10 + M 54 i) 0 = f i) (k0 : 0 ≤ k) (k1 : k < 20) {Q : Option ma_V → ma_S → ma_M → Prop} (cont : ∀ S : ma_M, (∀ c x, c ≠ 57 + (k + 1) → S c x = B c x) → (∀ i, 0 ≤ i → i < M 0 11 → S (57 + (k + 1)) i = f i) → ma_wp 70 103 [(2, 0), (0, n), (0, k), (0, t), (0, M 0 11)] [] mr_SH S Q) : ∀ (m : Nat) (i : Int) (S : ma_M), (M 0 11 - i).toNat < m → 0 ≤ i → i ≤ M 0 11 → (∀ c x, c ≠ 57 + (k + 1) → S c x = B c x) → (∀ x, 0 ≤ x → x < i → S (57 + (k + 1)) x = f x) → ma_wp 70 60 [(2, 0), (0, n), (0, k), (0, t), (0, i)] [] mr_SH S Q := by
  have hO : M 0 11 ≤ 5 := hI.2.1.2.2.2.1
  have ls : ma_al mr_SH (57 + (k + 1)) 0 = 5 := ml_stat (by omega) (by omega)
  intro m
  induction m with
  | zero => intro i S h; omega
  | succ m ih =>
    intro i S hm h0 h1 hfr hv
    have hF1 : mr_FIX S := md_fr hFB (p := fun c => c = 57 + (k + 1)) (fun c x hc => hfr c x hc) (fun c hc => by omega)
    have e1 : S 0 11 = M 0 11 := (hfr 0 11 (by omega)).trans e11
    simp (disch := (first | assumption | omega | ((repeat (refine mr_FIX_up ?_ (by unfold mr_nst; omega))); assumption))) only [x70_60, s70_62, s70_63, x70_66, e1]
    refine ⟨fun h => ?_, fun h => ?_⟩
    · obtain rfl : i = M 0 11 := by omega
      exact cont S hfr hv
    · have ho := mz_o hI h0 (show i < M 0 11 by omega)
      have e2 : S 54 i = M 54 i := (hfr 54 i (by omega)).trans (e54 i)
      have lr := ml_rows ho.1 ho.2.2.2
      have e3 : S (10 + M 54 i) 0 = f i := (hfr _ 0 (by omega)).trans (hf i h0 (by omega))
      have v24 : 0 ≤ M 54 i ∧ M 54 i < 24 := ⟨ho.1, ho.2.2.2⟩
      have i5 : 0 ≤ i ∧ i < 5 := by omega
      have k21 : 0 ≤ k + 1 ∧ k + 1 < 21 := by omega
      simp (disch := (first | assumption | omega | ((repeat (refine mr_FIX_up ?_ (by unfold mr_nst; omega))); assumption))) [s70_69, s70_70, x70_73, x70_74, x70_75, s70_76, x70_77, s70_79, s70_80, s70_83, s70_86, s70_87, x70_90, s70_92, s70_93, x70_94, x70_95, x70_96, x70_97, x70_100, ma_32i, e2, e3, lr, ls]
      refine ⟨k21, i5, v24, i5, ih (i + 1) _ (by omega) (by omega) (by omega) (fun c x hc => (ma_up_ne hc).trans (hfr c x hc)) (fun x x0 x1 => ?_)⟩
      by_cases e : x = i
      · subst e; rw [ma_up_s]
      · rw [ma_up_ne2 e]; exact hv x x0 (by omega)
set_option maxHeartbeats 2000000 in
theorem mz_goA1 {M : ma_M} (hI : mr_INV M) (hm : M 0 11 = M 1 1) {n : Int} (n20 : n ≤ 20) {Q : Option ma_V → ma_S → ma_M → Prop} (cont : ∀ (S : ma_M) (t : Int), mz_fr mz_p1 M S → mr_FIX S → mz_G M n.toNat t → (t = 0 → ∀ k : Nat, (k : Int) ≤ n → ∀ j, 0 ≤ j → j < M 1 1 → S (57 + (k : Int)) j = mz_P M k j) → Q (some (0, t)) mr_SH S) : ∀ (m : Nat) (k : Nat) (S : ma_M) (a3 a4 : ma_V), (n - k).toNat < m → (k : Int) ≤ n → mz_fr mz_p1 M S → mr_FIX S → (∀ l : Nat, l < k → mz_w M l 0) → (∀ l : Nat, l ≤ k → ∀ j, 0 ≤ j → j < M 1 1 → S (57 + (l : Int)) j = mz_P M l j) → ma_wp 70 18 [(2, 0), (0, n), (0, (k : Int)), a3, a4] [] mr_SH S Q := by
  have hN : 0 ≤ M 1 0 ∧ M 1 0 ≤ 24 := ⟨hI.2.1.1.1, hI.2.1.1.2.1⟩
  have hO : 0 ≤ M 0 11 ∧ M 0 11 ≤ 5 := ⟨hI.2.1.2.2.1, hI.2.1.2.2.2.1⟩
  have hout : ∀ i, 0 ≤ i → i < M 0 11 → 0 ≤ M 54 i ∧ M 54 i < M 1 0 := fun i x y => (hI.2.2.2.2.2.2.1 i x y).2
  intro m
  induction m with
  | zero => intro k S a3 a4 h; omega
  | succ m ih =>
    intro k S a3 a4 hmm hk hfr hF hw hst
    simp (disch := (first | assumption | omega | ((repeat (refine mr_FIX_up ?_ (by unfold mr_nst; omega))); assumption))) only [x70_18, x70_19, x70_20]
    refine ⟨fun h => ?_, fun h => ?_⟩
    · have ek : (k : Int) = n := by omega
      simp (disch := (first | assumption | omega | ((repeat (refine mr_FIX_up ?_ (by unfold mr_nst; omega))); assumption))) only [x70_109, x70_110]
      refine cont S 0 hfr hF (Or.inl ⟨rfl, fun l hl => hw l (by omega)⟩) (fun _ l hl => hst l (by omega))
    · have k21 : 0 ≤ (k : Int) ∧ (k : Int) < 21 := by omega
      have ls : ma_al mr_SH (57 + (k : Int)) 0 = 5 := ml_stat k21.1 k21.2
      have nst : ¬ (57 + (k : Int) = -1) := by omega
      simp (disch := (first | assumption | omega | ((repeat (refine mr_FIX_up ?_ (by unfold mr_nst; omega))); assumption))) [s70_23, s70_24, s70_27, s70_28, s70_31, s70_32, x70_35, s70_36, s70_37, s70_38, x70_41, s70_42, k21, nst]
      refine mz_run hI hm hF hfr (fun c x z => by unfold mz_p1 at z; omega) ⟨by omega, ls⟩ (by omega) (k := k) (hst k (Nat.le_refl k)) (fun S2 hf2 hag => ?_)
      have hF2 := mx_fr_F hF hf2
      have hfr2 := mz_fr_run hfr (fun x z => by unfold mz_p1 at z; omega) hf2
      have e11 : S2 0 11 = M 0 11 := hfr2.1 0 11 (by decide) (by unfold mz_p1; decide)
      have e54 : ∀ i, S2 54 i = M 54 i := fun i => hfr2.1 54 i (by decide) (by unfold mz_p1; decide)
      have e55 : ∀ i, S2 55 i = M 55 i := fun i => hfr2.1 55 i (by decide) (by unfold mz_p1; decide)
      simp only [Option.toList_some, Option.toList_none, List.cons_append, List.nil_append]
      simp (disch := (first | assumption | omega | ((repeat (refine mr_FIX_up ?_ (by unfold mr_nst; omega))); assumption))) only [s70_45, x70_46, s70_47]
      refine mx_worst (M := M) (V := mt_V M (mt_L (mz_P M k) (M 51))) hF2 hO.1 hO.2 hN.2 hout e11 e54 e55 (fun u u0 u1 => (hag u u0 u1).1) (Or.inl rfl) (fun t hW => ?_)
      simp only [Option.toList_some, Option.toList_none, List.cons_append, List.nil_append]
      simp (disch := (first | assumption | omega | ((repeat (refine mr_FIX_up ?_ (by unfold mr_nst; omega))); assumption))) only [x70_50, x70_51, x70_52]
      refine ⟨fun z => ?_, fun z => ?_⟩
      · subst z
        simp (disch := (first | assumption | omega | ((repeat (refine mr_FIX_up ?_ (by unfold mr_nst; omega))); assumption))) only [x70_57, x70_58]
        have sm : ∀ i, 0 ≤ i → i < M 0 11 → S2 (10 + M 54 i) 0 = mz_P M (k + 1) i := fun i a b => by
          have ho := mz_o hI a b
          have bV := mt_V_b hI (mt_L_b (mz_P_b hI hm k) (mr_pt1 hI 51 (by omega))) 25 (M 54 i) ho.2.2.1 ho.1 ho.2.1
          have s0 := mx_st0 (mw_W_sm hW i a b (Or.inl rfl)) bV.2.1 bV.2.2
          exact ((hag _ ho.1 ho.2.1).2 s0.1).2.1
        refine mz_goA2 hI hF2 e11 e54 (f := mz_P M (k + 1)) sm k21.1 (by omega) (fun S3 hf3 hv3 => ?_) 6 0 S2 (by omega) (by decide) hO.1 (fun _ _ _ => rfl) (fun x a b => by omega)
        have hF3 : mr_FIX S3 := md_fr hF2 (p := fun c => c = 57 + ((k : Int) + 1)) (fun c x hc => hf3 c x hc) (fun c hc => by omega)
        have hfr3 : mz_fr mz_p1 M S3 := mz_fr_w hN hfr2 (q := fun c _ => c = 57 + ((k : Int) + 1)) (fun c x hc => hf3 c x hc) (fun c x hc => by unfold mz_p1; omega)
        simp (disch := (first | assumption | omega | ((repeat (refine mr_FIX_up ?_ (by unfold mr_nst; omega))); assumption))) only [x70_103, x70_106, ma_32i]
        have e : (k : Int) + 1 = ((k + 1 : Nat) : Int) := by omega
        rw [e] at hv3 hf3 ⊢
        refine ih (k + 1) S3 _ _ (by omega) (by omega) hfr3 hF3 (fun l hl => ?_) (fun l hl j j0 j1 => ?_)
        · by_cases q : l = k
          · subst q; exact hW
          · exact hw l (by omega)
        · by_cases q : l = k + 1
          · subst q; exact hv3 j j0 (by omega)
          · rw [hf3 _ j (by omega), hf2.1 _ j (by omega)]
            exact hst l (by omega) j j0 j1
      · simp (disch := (first | assumption | omega | ((repeat (refine mr_FIX_up ?_ (by unfold mr_nst; omega))); assumption))) only [x70_55, x70_56]
        exact cont S2 t hfr2 hF2 (Or.inr ⟨z, k, by omega, hW, hw⟩) (fun w => absurd w z)
theorem mz_goAhead {M : ma_M} (hI : mr_INV M) (hm : M 0 11 = M 1 1) {n : Int} (n0 : 0 ≤ n) (n20 : n ≤ 20) {Q : Option ma_V → ma_S → ma_M → Prop} (cont : ∀ (S : ma_M) (t : Int), mz_fr mz_p1 M S → mr_FIX S → mz_G M n.toNat t → (t = 0 → ∀ k : Nat, (k : Int) ≤ n → ∀ j, 0 ≤ j → j < M 1 1 → S (57 + (k : Int)) j = mz_P M k j) → Q (some (0, t)) mr_SH S) : mr_do 70 [(2, 0), (0, n)] mr_SH M Q := by
  have hF := hI.1
  have hN : 0 ≤ M 1 0 ∧ M 1 0 ≤ 24 := ⟨hI.2.1.1.1, hI.2.1.1.2.1⟩
  have hI5 : M 1 1 ≤ 5 := hI.2.1.2.1.2.1
  have l57 : ma_al mr_SH 57 0 = 5 := ml_stat (i := 0) (by decide) (by decide)
  simp (disch := (first | assumption | omega | ((repeat (refine mr_FIX_up ?_ (by unfold mr_nst; omega))); assumption))) [x70, s70_0, s70_1, x70_4, s70_5, s70_6, x70_9, s70_10, x70_11, x70_12, x70_13, x70_16, x70_17, ml_50, l57]
  have hw : ∀ c x, ¬ c = 57 → ma_cp M 57 0 5 50 0 c x = M c x := fun c x hc => if_neg (fun z => hc z.1)
  have hF1 : mr_FIX (ma_cp M 57 0 5 50 0) := md_fr hF (p := fun c => c = 57) hw (fun c hc => by omega)
  refine mz_goA1 hI hm n20 cont 22 0 _ _ _ (by omega) (by omega) (mz_fr_w hN (mz_fr_0 _ M) (q := fun c _ => c = 57) hw (fun c x hc => by unfold mz_p1; omega)) hF1 (fun l hl => by omega) (fun l hl j j0 j1 => ?_)
  obtain rfl : l = 0 := by omega
  show (if (57 + ((0 : Nat) : Int)) = 57 ∧ 0 ≤ j ∧ j < 0 + 5 then M 50 (0 + (j - 0)) else _) = M 50 j
  rw [if_pos ⟨rfl, j0, by omega⟩]
  congr 1
  omega
