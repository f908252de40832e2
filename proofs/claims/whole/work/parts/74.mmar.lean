/-! the reference's march -/
theorem mm_sumb {M : ma_M} {v : Int → Int} {i : Nat} (w0 : 0 ≤ M 55 i) (w1 : M 55 i < 65521) (v0 : 0 ≤ v i) (v1 : v i < 65521) : 0 ≤ M 55 i * v i ∧ M 55 i * v i ≤ 4292870400 := by
  refine ⟨Int.mul_nonneg w0 v0, ?_⟩
  have : M 55 i * v i ≤ 65520 * 65520 := Int.mul_le_mul (by omega) (by omega) v0 (by decide)
  omega
set_option maxHeartbeats 1000000 in
theorem mm_mar3 {M S : ma_M} (hI : mr_INV M) (hFS : mr_FIX S) (hS : ∀ c k, 80 ≤ c → c ≤ 89 → S c k = M c k) {v : Int → Int} (hv : ∀ i, 0 ≤ i → i < M 0 11 → S 90 (9 * i + 1) = v i ∧ 0 ≤ v i ∧ v i < 65521) {n s j : Int} {Q : Option ma_V → ma_S → ma_M → Prop} (cont : ma_wp 110 153 [(2, 80), (0, n), (0, s), (0, j), (1, ms_s (fun i => M 55 i * v i) (M 0 11).toNat % 65521), (3, 0), (0, M 0 11)] [] mr_SH S Q) : ∀ (m : Nat) (i : Nat), (M 0 11 - i).toNat < m → (i : Int) ≤ M 0 11 → ma_wp 110 109 [(2, 80), (0, n), (0, s), (0, j), (1, ms_s (fun i => M 55 i * v i) i % 65521), (3, 0), (0, (i : Int))] [] mr_SH S Q := by
  have hO : 0 ≤ M 0 11 ∧ M 0 11 ≤ 5 := ⟨hI.2.1.2.2.1, hI.2.1.2.2.2.1⟩
  have e9 : S 80 9 = M 0 11 := (hS 80 9 (by decide) (by decide)).trans hI.2.1.2.2.2.2
  intro m
  induction m with
  | zero => intro i h; omega
  | succ m ih =>
    intro i hm h1
    simp (disch := (first | assumption | omega | ((repeat (refine mr_FIX_up ?_ (by unfold mr_nst; omega))); assumption))) only [x110_109, s110_111, s110_112, x110_115, e9]
    refine ⟨fun h => ?_, fun h => ?_⟩
    · have e : i = (M 0 11).toNat := by omega
      subst e
      rw [show (((M 0 11).toNat : Nat) : Int) = M 0 11 by omega]
      exact cont
    · have hn := (hI.2.2.2.2.2.1 i (by omega) (by omega)).2.2
      have e89 : S 89 i = M 55 i := (hS 89 i (by decide) (by decide)).trans hn.1
      have e90 := hv i (by omega) (by omega)
      have bb := mm_sumb hn.2.1 hn.2.2 e90.2.1 e90.2.2
      have i5 : 0 ≤ (i : Int) ∧ (i : Int) < 5 := by omega
      have i45 : 0 ≤ 9 * (i : Int) + 1 ∧ 9 * (i : Int) + 1 < 45 := by omega
      have nx := ih (i + 1) (by omega) (by omega)
      rw [show ms_s (fun i => M 55 i * v i) (i + 1) = ms_s (fun i => M 55 i * v i) i + M 55 i * v i from rfl, ← Int.emod_add_emod] at nx
      generalize hx : ms_s (fun i => M 55 i * v i) i % 65521 = x at *
      have x0 : 0 ≤ x ∧ x < 65521 := by omega
      generalize hy : M 55 i * v i = y at *
      simp (disch := (first | assumption | omega | ((repeat (refine mr_FIX_up ?_ (by unfold mr_nst; omega))); assumption))) only [x110_118, s110_120, s110_121, x110_124, s110_126, s110_127, s110_128, x110_131, x110_133, x110_135, x110_136, x110_137, s110_138, x110_139, x110_140, x110_141, x110_144, x110_145, x110_147, x110_150, ma_32i, ma_64i, e89, e90.1, hy, mr_tm0, mr_P0, true_and]
      refine ⟨i5, i45, ?_⟩
      rw [show ((i + 1 : Nat) : Int) = (i : Int) + 1 by omega] at nx
      exact nx
theorem mw_W_v {M : ma_M} {V : Int → Int → Int} {f t n : Int} (h : mw_W M V f t n) : t = 0 ∨ t = -1 ∨ t = -2 := by
  rcases h with ⟨h, _⟩ | ⟨h, _⟩ | ⟨h, _⟩ <;> omega
/-- what the reference's line is after k steps -/
def mz_ln (M S : ma_M) (d : Int → Int) (k : Nat) : Prop := (∀ l x, 0 ≤ l → l < M 1 1 → 0 ≤ x → x ≤ 8 → 0 ≤ S 90 (9 * l + x) ∧ S 90 (9 * l + x) < 65521) ∧ ∀ l, 0 ≤ l → l < M 1 1 → S 90 (9 * l) = mz_P M k l ∧ S 90 (9 * l + 1) = mz_D M d k l
theorem mz_lnL {M S : ma_M} {d : Int → Int} {k : Nat} (h : mz_ln M S d k) : ∀ j n, 0 ≤ j → j < M 1 1 → 0 ≤ n → n ≤ 1 → S 90 (9 * j + n) = mt_L (mz_P M k) (mz_D M d k) j n := fun j n j0 j1 n0 n1 => by
  unfold mt_L
  by_cases e : n = 0
  · subst e; rw [if_pos rfl, Int.add_zero]; exact (h.2 j j0 j1).1
  · obtain rfl : n = 1 := by omega
    rw [if_neg (by decide), if_pos rfl]; exact (h.2 j j0 j1).2
theorem mz_lnW {M S : ma_M} (hI : mr_INV M) {d : Int → Int} {k : Nat} (h : mz_ln M S d k) {t : Int} (hW : mw_W M (mt_V M (fun j n => S 90 (9 * j + n))) 0 t (M 0 11)) : mz_w M k t := by
  refine mw_W_cg (fun i a b => ?_) hW
  have ho := mz_o hI a b
  obtain ⟨_, q9, q10⟩ := mt_V_cg hI (m := 0) (L := fun j n => S 90 (9 * j + n)) (L' := mt_L (mz_P M k) (M 51)) (by decide) (by decide) (fun j n j0 j1 n0 n1 => by
    obtain rfl := Int.le_antisymm n1 n0
    have q := mz_lnL h j 0 j0 j1 (by decide) (by decide)
    exact q) 25 (M 54 i) ho.2.2.1 ho.1 ho.2.1
  unfold mx_st
  rw [q9, q10]
theorem mz_lnS {M S S2 : ma_M} (hI : mr_INV M) (hm : M 0 11 = M 1 1) {d : Int → Int} {k : Nat} (h : mz_ln M S d k) (hv : ∀ i n, 0 ≤ i → i < M 0 11 → 0 ≤ n → n ≤ 8 → S2 90 (9 * i + n) = mt_V M (fun j n => S 90 (9 * j + n)) (M 54 i) n) : mz_ln M S2 d (k + 1) := by
  refine ⟨fun l x l0 l1 x0 x1 => ?_, fun l l0 l1 => ?_⟩
  · have ho := mz_o hI l0 (show l < M 0 11 by omega)
    rw [hv l x l0 (by omega) x0 x1]
    exact (mt_V_b hI (L := fun j n => S 90 (9 * j + n)) (fun j n j0 j1 n0 n1 => h.1 j n j0 j1 n0 n1) 25 _ ho.2.2.1 ho.1 ho.2.1).1 x x0 x1
  · have ho := mz_o hI l0 (show l < M 0 11 by omega)
    obtain ⟨q, _⟩ := mt_V_cg hI (m := 1) (L := fun j n => S 90 (9 * j + n)) (L' := mt_L (mz_P M k) (mz_D M d k)) (by decide) (by decide) (fun j n j0 j1 n0 n1 => mz_lnL h j n j0 j1 n0 n1) 25 (M 54 l) ho.2.2.1 ho.1 ho.2.1
    refine ⟨?_, ?_⟩
    · have a := hv l 0 l0 (by omega) (by decide) (by decide)
      rw [Int.add_zero] at a
      rw [a, q 0 (by decide) (by decide)]
      exact (mx_st_cg hI ho.1 ho.2.1).2.1
    · rw [hv l 1 l0 (by omega) (by decide) (by decide), q 1 (by decide) (by decide)]
      rfl
set_option maxHeartbeats 1000000 in
theorem mm_mar2 {M B : ma_M} (hI : mr_INV M) (hm : M 0 11 = M 1 1) (hFB : mr_FIX B) (hB : ∀ c k, 80 ≤ c → c ≤ 89 → B c k = M c k) {n s j : Int} (n20 : n ≤ 20) {d : Int → Int} {a6 : ma_V} {Q : Option ma_V → ma_S → ma_M → Prop} (c1 : ∀ (S : ma_M) (t : Int), (∀ c x, ¬ (90 ≤ c ∧ c ≤ 94) → S c x = B c x) → mz_G M n.toNat t → t ≠ 0 → Q (some (0, t)) mr_SH S) (c2 : ∀ (S : ma_M) (a5 : ma_V), (∀ c x, ¬ (90 ≤ c ∧ c ≤ 94) → S c x = B c x) → (∀ k : Nat, k < n.toNat → mz_w M k 0) → mz_ln M S d n.toNat → ma_wp 110 88 [(2, 80), (0, n), (0, s), (0, j), (0, n), a5, a6] [] mr_SH S Q) : ∀ (m : Nat) (k : Nat) (S : ma_M) (a5 : ma_V), (n - k).toNat < m → (k : Int) ≤ n → (∀ c x, ¬ (90 ≤ c ∧ c ≤ 94) → S c x = B c x) → (∀ l : Nat, l < k → mz_w M l 0) → mz_ln M S d k → ma_wp 110 62 [(2, 80), (0, n), (0, s), (0, j), (0, (k : Int)), a5, a6] [] mr_SH S Q := by
  intro m
  induction m with
  | zero => intro k S a5 h; omega
  | succ m ih =>
    intro k S a5 hmm hk hfr hw hln
    have hF1 : mr_FIX S := md_fr hFB (p := fun c => 90 ≤ c ∧ c ≤ 94) (fun c x hc => hfr c x hc) (fun c hc => by omega)
    simp (disch := (first | assumption | omega | ((repeat (refine mr_FIX_up ?_ (by unfold mr_nst; omega))); assumption))) only [x110_62, x110_64, x110_65]
    refine ⟨fun h => ?_, fun h => ?_⟩
    · have e : (k : Int) = n := by omega
      have e2 : k = n.toNat := by omega
      subst e2
      rw [e]
      exact c2 S a5 hfr hw hln
    · simp (disch := (first | assumption | omega | ((repeat (refine mr_FIX_up ?_ (by unfold mr_nst; omega))); assumption))) only [s110_68, s110_69]
      refine mm_step hI hF1 (fun c x a b => (hfr c x (by omega)).trans (hB c x a b)) (L := fun j n => S 90 (9 * j + n)) (fun j n j0 j1 n0 n1 => hln.1 j n j0 j1 n0 n1) (fun _ _ _ _ _ _ => rfl) (fun S2 t hf2 hW hv => ?_)
      have hfr2 : ∀ c x, ¬ (90 ≤ c ∧ c ≤ 94) → S2 c x = B c x := fun c x hc => (hf2 c x hc).trans (hfr c x hc)
      have hwk := mz_lnW hI hln hW
      have ht := mw_W_v hW
      simp only [Option.toList_some, Option.toList_none, List.cons_append, List.nil_append]
      simp (disch := (first | assumption | omega | ((repeat (refine mr_FIX_up ?_ (by unfold mr_nst; omega))); assumption))) only [x110_72, x110_74, x110_76]
      refine ⟨fun z => ?_, fun z => ?_⟩
      · obtain rfl : t = 0 := by omega
        simp (disch := (first | assumption | omega | ((repeat (refine mr_FIX_up ?_ (by unfold mr_nst; omega))); assumption))) only [x110_82, x110_85, ma_32i]
        have e : (k : Int) + 1 = ((k + 1 : Nat) : Int) := by omega
        rw [e]
        refine ih (k + 1) S2 _ (by omega) (by omega) hfr2 (fun l hl => ?_) (mz_lnS hI hm hln hv)
        by_cases q : l = k
        · subst q; exact hwk
        · exact hw l (by omega)
      · simp (disch := (first | assumption | omega | ((repeat (refine mr_FIX_up ?_ (by unfold mr_nst; omega))); assumption))) only [x110_79, x110_81]
        exact c1 S2 t hfr2 (Or.inr ⟨by omega, k, by omega, hwk, hw⟩) (by omega)
/-- what the reference has of the first inputs -/
def mz_new (M S : ma_M) (n : Nat) (i : Int) : Prop := ∀ l, 0 ≤ l → l < i → S 102 l = mz_P M n l ∧ S 103 l = ms_s (fun i => M 55 i * mz_D M (mt_e l (-1)) n i) (M 0 11).toNat % 65521
def mz_pn (c : Int) : Prop := (90 ≤ c ∧ c ≤ 94) ∨ c = 102 ∨ c = 103
set_option maxHeartbeats 2000000 in
theorem mm_mar1 {M B : ma_M} (hI : mr_INV M) (hm : M 0 11 = M 1 1) (hFB : mr_FIX B) (hB : ∀ c k, 80 ≤ c → c ≤ 89 → B c k = M c k) {n s : Int} (n1 : 1 ≤ n) (n20 : n ≤ 20) {Q : Option ma_V → ma_S → ma_M → Prop} (c1 : ∀ (S : ma_M) (t : Int), (∀ c x, ¬ mz_pn c → S c x = B c x) → mz_G M n.toNat t → t ≠ 0 → Q (some (0, t)) mr_SH S) (c2 : ∀ (S : ma_M) (a4 a6 : ma_V), (∀ c x, ¬ mz_pn c → S c x = B c x) → (0 < M 1 1 → ∀ k : Nat, k < n.toNat → mz_w M k 0) → mz_new M S n.toNat (M 1 1) → ma_wp 110 167 [(2, 80), (0, n), (0, s), (0, M 1 1), a4, (3, 0), a6] [] mr_SH S Q) : ∀ (m : Nat) (j : Int) (S : ma_M) (a4 a6 : ma_V), (M 1 1 - j).toNat < m → 0 ≤ j → j ≤ M 1 1 → (∀ c x, ¬ mz_pn c → S c x = B c x) → (0 < j → ∀ k : Nat, k < n.toNat → mz_w M k 0) → mz_new M S n.toNat j → ma_wp 110 44 [(2, 80), (0, n), (0, s), (0, j), a4, (3, 0), a6] [] mr_SH S Q := by
  have hI5 : M 1 1 ≤ 5 := hI.2.1.2.1.2.1
  intro m
  induction m with
  | zero => intro j S a4 a6 h; omega
  | succ m ih =>
    intro j S a4 a6 hmm h0 h1 hfr hw hnw
    have hF1 : mr_FIX S := md_fr hFB (p := mz_pn) (fun c x hc => hfr c x hc) (fun c hc => by unfold mz_pn at hc; omega)
    have hS : ∀ c k, 80 ≤ c → c ≤ 89 → S c k = M c k := fun c k a b => (hfr c k (by unfold mz_pn; omega)).trans (hB c k a b)
    have e5 : S 80 5 = M 1 1 := (hS 80 5 (by decide) (by decide)).trans hI.2.1.2.1.2.2
    simp (disch := (first | assumption | omega | ((repeat (refine mr_FIX_up ?_ (by unfold mr_nst; omega))); assumption))) only [x110_44, s110_45, s110_46, x110_49, e5]
    refine ⟨fun h => ?_, fun h => ?_⟩
    · obtain rfl : j = M 1 1 := by omega
      exact c2 S a4 a6 hfr hw hnw
    · simp (disch := (first | assumption | omega | ((repeat (refine mr_FIX_up ?_ (by unfold mr_nst; omega))); assumption))) only [s110_52, x110_53, x110_54, x110_55, s110_56]
      refine mm_aimS hI hF1 hS (D := mt_e j (-1)) (Or.inl rfl) (fun u _ _ => ?_) (fun S1 hf1 hl1 => ?_)
      · rw [if_neg (by decide)]; rfl
      have hF2 : mr_FIX S1 := md_fr hF1 (p := fun c => c = 90) (fun c x hc => hf1 c x hc) (fun c hc => by omega)
      have hfr1 : ∀ c x, ¬ mz_pn c → S1 c x = B c x := fun c x hc => (hf1 c x (fun z => hc (by unfold mz_pn; omega))).trans (hfr c x hc)
      have hS1 : ∀ c k, 80 ≤ c → c ≤ 89 → S1 c k = M c k := fun c k a b => (hf1 c k (by omega)).trans (hS c k a b)
      simp only [Option.toList_some, Option.toList_none, List.cons_append, List.nil_append]
      simp (disch := (first | assumption | omega | ((repeat (refine mr_FIX_up ?_ (by unfold mr_nst; omega))); assumption))) only [x110_59, x110_60]
      refine mm_mar2 hI hm hF2 hS1 n20 (d := mt_e j (-1)) (fun S2 t hf2 hG ht => c1 S2 t (fun c x hc => (hf2 c x (fun z => hc (by unfold mz_pn; omega))).trans (hfr1 c x hc)) hG ht) (fun S2 a5 hf2 hw2 hln => ?_) 22 0 S1 _ (by omega) (by omega) (fun _ _ _ => rfl) (fun l hl => by omega) ⟨fun l x l0 l1 x0 x1 => ?_, fun l l0 l1 => ⟨?_, ?_⟩⟩
      · have hF3 : mr_FIX S2 := md_fr hF2 (p := fun c => 90 ≤ c ∧ c ≤ 94) (fun c x hc => hf2 c x hc) (fun c hc => by omega)
        have hS2 : ∀ c k, 80 ≤ c → c ≤ 89 → S2 c k = M c k := fun c k a b => (hf2 c k (by omega)).trans (hS1 c k a b)
        have hfr2 : ∀ c x, ¬ mz_pn c → S2 c x = B c x := fun c x hc => (hf2 c x (fun z => hc (by unfold mz_pn; omega))).trans (hfr1 c x hc)
        have e90 := hln.2 j h0 (by omega)
        have j45 : 0 ≤ 9 * j ∧ 9 * j < 45 := by omega
        have j5 : 0 ≤ j ∧ j < 5 := by omega
        simp (disch := (first | assumption | omega | ((repeat (refine mr_FIX_up ?_ (by unfold mr_nst; omega))); assumption))) only [s110_88, s110_89, x110_92, s110_93, s110_94, x110_97, x110_99, x110_100, s110_101, s110_102, x110_103, x110_104, x110_106, x110_107, ma_32i, e90.1]
        refine ⟨j45, j5, ?_⟩
        have hF4 : mr_FIX (ma_up S2 102 j (mz_P M n.toNat j)) := mr_FIX_up hF3 (by unfold mr_nst; omega)
        have q : ∀ c x, c ≠ 102 → ma_up S2 102 j (mz_P M n.toNat j) c x = S2 c x := fun c x hc => ma_up_ne hc
        have q2 : ma_up S2 102 j (mz_P M n.toNat j) 102 j = mz_P M n.toNat j := ma_up_s
        have q3 : ∀ x, x ≠ j → ma_up S2 102 j (mz_P M n.toNat j) 102 x = S2 102 x := fun x hx => ma_up_ne2 hx
        generalize ma_up S2 102 j (mz_P M n.toNat j) = S3 at *
        refine mm_mar3 hI hF4 (fun c k a b => (q c k (by omega)).trans (hS2 c k a b)) (v := mz_D M (mt_e j (-1)) n.toNat) (fun i a b => ⟨(q 90 _ (by decide)).trans (hln.2 i a (by omega)).2, mz_D_b hI hm (fun u _ _ => mt_e_b _ _ u) n.toNat i a (by omega)⟩) ?_ 6 0 (by omega) (by omega)
        simp (disch := (first | assumption | omega | ((repeat (refine mr_FIX_up ?_ (by unfold mr_nst; omega))); assumption))) only [s110_153, s110_154, x110_157, x110_158, s110_160, x110_161, x110_164, ma_32i]
        refine ⟨j5, ih (j + 1) _ _ _ (by omega) (by omega) (by omega) (fun c x hc => ?_) (fun _ => hw2) (fun l l0 l1 => ?_)⟩
        · rw [ma_up_ne (fun z => hc (by unfold mz_pn; omega)), q c x (fun z => hc (by unfold mz_pn; omega))]
          exact hfr2 c x hc
        · rw [ma_up_ne (by decide)]
          by_cases e : l = j
          · subst e
            rw [ma_up_s]
            exact ⟨q2, rfl⟩
          · rw [ma_up_ne2 e, q3 l e, q 103 l (by decide), hf2 102 l (by decide), hf2 103 l (by decide), hf1 102 l (by decide), hf1 103 l (by decide)]
            exact hnw l l0 (by omega)
      · rw [hl1 l x l0 l1 x0 x1]
        exact mt_L_b (mr_pt1 hI 50 (by omega)) (fun u _ _ => mt_e_b _ _ u) l x l0 l1 x0 x1
      · have a := hl1 l 0 l0 l1 (by decide) (by decide)
        rw [Int.add_zero] at a
        exact a
      · exact hl1 l 1 l0 l1 (by decide) (by decide)
set_option maxHeartbeats 1000000 in
theorem mm_mar4 {M B : ma_M} (hI : mr_INV M) (hFB : mr_FIX B) (e5 : B 80 5 = M 1 1) {n s z5 : Int} {a4 a6 : ma_V} {Q : Option ma_V → ma_S → ma_M → Prop} (cont : ∀ S : ma_M, (∀ c x, c ≠ 100 → c ≠ 101 → S c x = B c x) → (∀ j, 0 ≤ j → j < M 1 1 → S 100 j = B 102 j ∧ S 101 j = B 103 j) → ma_wp 110 215 [(2, 80), (0, n), (0, s), (0, M 1 1), a4, (3, z5), a6] [] mr_SH S Q) : ∀ (m : Nat) (j : Int) (S : ma_M), (M 1 1 - j).toNat < m → 0 ≤ j → j ≤ M 1 1 → (∀ c x, c ≠ 100 → c ≠ 101 → S c x = B c x) → (∀ l, 0 ≤ l → l < j → S 100 l = B 102 l ∧ S 101 l = B 103 l) → ma_wp 110 177 [(2, 80), (0, n), (0, s), (0, j), a4, (3, z5), a6] [] mr_SH S Q := by
  have hI5 : M 1 1 ≤ 5 := hI.2.1.2.1.2.1
  intro m
  induction m with
  | zero => intro j S h; omega
  | succ m ih =>
    intro j S hm h0 h1 hfr hv
    have hF1 : mr_FIX S := md_fr hFB (p := fun c => c = 100 ∨ c = 101) (fun c x hc => hfr c x (by omega) (by omega)) (fun c hc => by omega)
    have e : S 80 5 = M 1 1 := (hfr 80 5 (by decide) (by decide)).trans e5
    simp (disch := (first | assumption | omega | ((repeat (refine mr_FIX_up ?_ (by unfold mr_nst; omega))); assumption))) only [x110_177, s110_178, s110_179, x110_182, e]
    refine ⟨fun h => ?_, fun h => ?_⟩
    · obtain rfl : j = M 1 1 := by omega
      exact cont S hfr hv
    · have j5 : 0 ≤ j ∧ j < 5 := by omega
      have hF2 : mr_FIX (ma_up S 100 j (S 102 j)) := mr_FIX_up hF1 (by unfold mr_nst; omega)
      have q1 : ma_up S 100 j (S 102 j) 103 j = S 103 j := ma_up_ne (by decide)
      simp (disch := (first | assumption | omega | ((repeat (refine mr_FIX_up ?_ (by unfold mr_nst; omega))); assumption))) only [s110_185, s110_186, x110_189, s110_190, s110_191, x110_194, s110_195, s110_196, s110_197, s110_198, x110_201, s110_202, s110_203, x110_206, s110_207, s110_208, x110_209, x110_212, ma_32i, q1]
      refine ⟨j5, j5, j5, j5, ih (j + 1) _ (by omega) (by omega) (by omega) (fun c x a b => ?_) (fun l l0 l1 => ?_)⟩
      · rw [ma_up_ne b, ma_up_ne a]; exact hfr c x a b
      · by_cases el : l = j
        · subst el
          exact ⟨(ma_up_ne (by decide)).trans (ma_up_s.trans (hfr 102 l (by decide) (by decide))), ma_up_s.trans (hfr 103 l (by decide) (by decide))⟩
        · have h := hv l l0 (by omega)
          exact ⟨(ma_up_ne (by decide)).trans ((ma_up_ne2 el).trans h.1), (ma_up_ne2 el).trans ((ma_up_ne (by decide)).trans h.2)⟩
