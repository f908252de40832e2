/-! the reference's arithmetic -/
theorem mr_P0 : ((65521 : Int) ≠ 0) = True := by simp
theorem mr_tm0 {x : Int} (h : 0 ≤ x) : x.tmod 65521 = x % 65521 := Int.tmod_eq_emod_of_nonneg h
theorem mr_pp {a b : Int} (a0 : 0 ≤ a) (a1 : a ≤ 65521) (b0 : 0 ≤ b) (b1 : b ≤ 65521) : 0 ≤ a * b ∧ a * b ≤ 4293001441 := ⟨Int.mul_nonneg a0 b0, Int.le_trans (Int.mul_le_mul a1 b1 b0 (by decide)) (by decide)⟩
def mm_h (t : Nat) : Nat := 65519 / 2 ^ t
theorem mm_h17 : mm_h 17 = 0 := by decide +kernel
theorem mm_h0 : mm_h 0 = mt_E := by decide +kernel
theorem mm_hs {bit : Int} (h0 : 0 ≤ bit) (h1 : bit ≤ 16) : (ma_lcmp (ma_land (ma_lshr 65519 bit) 1) 1 = 0 ∧ mm_h bit.toNat = 2 * mm_h (bit.toNat + 1) + 1) ∨ (ma_lcmp (ma_land (ma_lshr 65519 bit) 1) 1 ≠ 0 ∧ mm_h bit.toNat = 2 * mm_h (bit.toNat + 1)) := by
  have h : ∀ t, t < 17 → (ma_lcmp (ma_land (ma_lshr 65519 ((t : Nat) : Int)) 1) 1 = 0 ∧ mm_h t = 2 * mm_h (t + 1) + 1) ∨ (ma_lcmp (ma_land (ma_lshr 65519 ((t : Nat) : Int)) 1) 1 ≠ 0 ∧ mm_h t = 2 * mm_h (t + 1)) := by decide +kernel
  have h2 := h bit.toNat (by omega)
  rw [Int.toNat_of_nonneg h0] at h2
  exact h2
theorem mt_p2 (b : Int) (e : Nat) : mt_p b (2 * e) = mt_p b e * mt_p b e % 65521 := by
  have h := mt_p_b b (2 * e)
  refine mq_inj h.1 h.2 (by omega) (by omega) ?_
  rw [mq_mod, mq_mul, mq_p, mq_p, Nat.two_mul, mf_pa]
set_option maxHeartbeats 1000000 in
theorem mm_invl {b : Int} (b0 : 0 ≤ b) (b1 : b < 65521) {sh : ma_S} {M : ma_M} {Q : Option ma_V → ma_S → ma_M → Prop} (q : Q (some (1, mt_inv b)) sh M) : ∀ (n : Nat) (bit r z1 z2 : Int), (bit + 1).toNat < n → -1 ≤ bit → bit ≤ 16 → r = mt_p b (mm_h (bit + 1).toNat) → ma_wp 86 6 [(1, b), (3, z1), (1, r), (3, z2), (0, bit)] [] sh M Q := by
  intro n
  induction n with
  | zero => intro bit r z1 z2 h; omega
  | succ n ih =>
    intro bit r z1 z2 hn h0 h1 hr
    simp (disch := (first | assumption | omega | ((repeat (refine mr_FIX_up ?_ (by unfold mr_nst; omega))); assumption))) only [x86_6, x86_8]
    refine ⟨fun h => ?_, fun h => ?_⟩
    · simp only [x86_46, x86_47]
      have e : (bit + 1).toNat = 0 := by omega
      rw [e, mm_h0] at hr
      rw [hr]
      exact q
    · have rb := mt_p_b b (mm_h (bit + 1).toNat)
      rw [← hr] at rb
      have m1 := mr_pp rb.1 (by omega) rb.1 (by omega)
      have m2 := mr_pp (a := r * r % 65521) (b := b) (by omega) (by omega) b0 (by omega)
      have e1 : (bit + 1).toNat = bit.toNat + 1 := by omega
      have e2 : (bit + -1 + 1).toNat = bit.toNat := by omega
      rw [e1] at hr
      simp (disch := (first | assumption | omega | ((repeat (refine mr_FIX_up ?_ (by unfold mr_nst; omega))); assumption))) only [x86_11, x86_12, x86_13, x86_14, x86_17, x86_18, x86_19, x86_22, x86_24, x86_25, x86_26, x86_27, x86_28, ma_64i, mr_tm0, mr_P0, true_and]
      rcases mm_hs (show 0 ≤ bit by omega) h1 with ⟨c, d⟩ | ⟨c, d⟩
      · rw [c]
        simp (disch := (first | assumption | omega | ((repeat (refine mr_FIX_up ?_ (by unfold mr_nst; omega))); assumption))) only [x86_29, x86_32, x86_33, x86_34, x86_35, x86_38, x86_39, x86_40, x86_43, ma_64i, ma_32i, mr_tm0, mr_P0, true_and]
        refine ⟨fun z => absurd trivial z, fun _ => ih _ _ _ _ (by omega) (by omega) (by omega) ?_⟩
        rw [e2, d, mt_p, mt_p2, hr]
      · simp (disch := (first | assumption | omega | ((repeat (refine mr_FIX_up ?_ (by unfold mr_nst; omega))); assumption))) only [x86_29, x86_40, x86_43, ma_32i]
        refine ⟨fun _ => ih _ _ _ _ (by omega) (by omega) (by omega) ?_, fun z => absurd c z⟩
        rw [e2, d, mt_p2, hr]
theorem mm_inv {b : Int} (b0 : 0 ≤ b) (b1 : b < 65521) {sh : ma_S} {M : ma_M} {Q : Option ma_V → ma_S → ma_M → Prop} (q : Q (some (1, mt_inv b)) sh M) : mr_do 86 [(1, b)] sh M Q := by
  simp only [x86, x86_0, x86_1, x86_2, x86_4]
  exact mm_invl b0 b1 q 18 16 1 _ _ (by decide) (by decide) (by decide) (by rw [show ((16 : Int) + 1).toNat = 17 from rfl, mm_h17]; rfl)
def mm_row (M : ma_M) (v : Int) : Int → Int := fun i => M 91 (9 * v + i)
def mm_rb (M : ma_M) (v : Int) : Prop := ∀ i, 0 ≤ i → i ≤ 8 → 0 ≤ M 91 (9 * v + i) ∧ M 91 (9 * v + i) < 65521
/-- only row v of the series and the product change -/
def mm_fr (M M2 : ma_M) (v : Int) : Prop := (∀ c k, c ≠ 91 → c ≠ 92 → M2 c k = M c k) ∧ ∀ k, ¬ (9 * v ≤ k ∧ k < 9 * v + 9) → M2 91 k = M 91 k
theorem mm_fr_r (M : ma_M) (v : Int) : mm_fr M M v := ⟨fun _ _ _ _ => rfl, fun _ _ => rfl⟩
theorem mm_fr_t {M M2 M3 : ma_M} {v : Int} (h : mm_fr M M2 v) (h2 : mm_fr M2 M3 v) : mm_fr M M3 v := ⟨fun c k h1 h3 => (h2.1 c k h1 h3).trans (h.1 c k h1 h3), fun k hk => (h2.2 k hk).trans (h.2 k hk)⟩
theorem mm_fr_F {M M2 : ma_M} {v : Int} (hF : mr_FIX M) (h : mm_fr M M2 v) : mr_FIX M2 := md_fr hF (p := fun c => c = 91 ∨ c = 92) (fun c k hc => h.1 c k (by omega) (by omega)) (fun c hc => by omega)
theorem mm_fr_row {M M2 : ma_M} {v a i : Int} (h : mm_fr M M2 v) (ha : a ≠ v) (i0 : 0 ≤ i) (i1 : i ≤ 8) : M2 91 (9 * a + i) = M 91 (9 * a + i) := h.2 _ (by omega)
theorem mm_fr_up {M M1 : ma_M} {v k x : Int} (h : mm_fr M M1 v) (k0 : 0 ≤ k) (k1 : k ≤ 8) : mm_fr M (ma_up M1 91 (9 * v + k) x) v := ⟨fun c j h1 h2 => (ma_up_ne h1).trans (h.1 c j h1 h2), fun j hj => (ma_up_ne2 (by omega)).trans (h.2 j hj)⟩
/-- copy -/
theorem mm_copyl {M : ma_M} (hF : mr_FIX M) {v a : Int} (v0 : 0 ≤ v) (v1 : v < 24) (a0 : 0 ≤ a) (a1 : a < 24) (hav : a ≠ v) {Q : Option ma_V → ma_S → ma_M → Prop} (cont : ∀ M2 : ma_M, mm_fr M M2 v → (∀ n, 0 ≤ n → n ≤ 8 → M2 91 (9 * v + n) = M 91 (9 * a + n)) → Q none mr_SH M2) : ∀ (n : Nat) (k : Int) (M1 : ma_M), (9 - k).toNat < n → 0 ≤ k → k ≤ 9 → mm_fr M M1 v → (∀ n, 0 ≤ n → n < k → M1 91 (9 * v + n) = M 91 (9 * a + n)) → ma_wp 88 2 [(2, 80), (0, v), (0, a), (0, k)] [] mr_SH M1 Q := by
  intro n
  induction n with
  | zero => intro k M1 h; omega
  | succ n ih =>
    intro k M1 hn h0 h1 hf hr
    have hF1 := mm_fr_F hF hf
    simp (disch := (first | assumption | omega | ((repeat (refine mr_FIX_up ?_ (by unfold mr_nst; omega))); assumption))) only [x88_2, x88_3, x88_5]
    refine ⟨fun h => ?_, fun h => ?_⟩
    · simp only [x88_36]
      exact cont M1 hf (fun n n0 n1 => hr n n0 (by omega))
    · simp (disch := (first | assumption | omega | ((repeat (refine mr_FIX_up ?_ (by unfold mr_nst; omega))); assumption))) only [s88_8, s88_9, x88_12, x88_14, x88_15, x88_16, x88_17, s88_18, s88_19, x88_22, x88_24, x88_25, x88_26, x88_27, s88_28, s88_29, x88_30, x88_33, ma_32i]
      refine ⟨by omega, by omega, ih (k + 1) _ (by omega) (by omega) (by omega) (mm_fr_up hf (by omega) (by omega)) (fun n n0 n1 => ?_)⟩
      by_cases e : n = k
      · subst e
        rw [ma_up_s]
        exact mm_fr_row hf hav n0 (by omega)
      · rw [ma_up_ne2 (by omega)]
        exact hr n n0 (by omega)
theorem mm_copy {M : ma_M} (hF : mr_FIX M) {v a : Int} (v0 : 0 ≤ v) (v1 : v < 24) (a0 : 0 ≤ a) (a1 : a < 24) (hav : a ≠ v) {Q : Option ma_V → ma_S → ma_M → Prop} (cont : ∀ M2 : ma_M, mm_fr M M2 v → (∀ n, 0 ≤ n → n ≤ 8 → M2 91 (9 * v + n) = M 91 (9 * a + n)) → Q none mr_SH M2) : mr_do 88 [(2, 80), (0, v), (0, a)] mr_SH M Q := by
  simp only [x88, x88_0, x88_1]
  exact mm_copyl hF v0 v1 a0 a1 hav cont 10 0 M (by decide) (by decide) (by decide) (mm_fr_r M v) (fun n n0 n1 => by omega)
/-- one -/
theorem mm_onel {M : ma_M} (hF : mr_FIX M) {v c : Int} (v0 : 0 ≤ v) (v1 : v < 24) {Q : Option ma_V → ma_S → ma_M → Prop} (cont : ∀ M2 : ma_M, mm_fr M M2 v → (∀ n, 0 ≤ n → n ≤ 8 → M2 91 (9 * v + n) = if n = 0 then c else 0) → Q none mr_SH M2) : ∀ (n : Nat) (k z : Int) (M1 : ma_M), (9 - k).toNat < n → 0 ≤ k → k ≤ 9 → mm_fr M M1 v → (∀ n, 0 ≤ n → n < k → M1 91 (9 * v + n) = 0) → ma_wp 89 3 [(2, 80), (0, v), (1, c), (3, z), (0, k)] [] mr_SH M1 Q := by
  intro n
  induction n with
  | zero => intro k z M1 h; omega
  | succ n ih =>
    intro k z M1 hn h0 h1 hf hr
    have hF1 := mm_fr_F hF hf
    simp (disch := (first | assumption | omega | ((repeat (refine mr_FIX_up ?_ (by unfold mr_nst; omega))); assumption))) only [x89_3, x89_5, x89_7]
    refine ⟨fun h => ?_, fun h => ?_⟩
    · simp (disch := (first | assumption | omega | ((repeat (refine mr_FIX_up ?_ (by unfold mr_nst; omega))); assumption))) only [s89_29, s89_30, x89_33, x89_35, x89_36, x89_37, s89_38, x89_39, ma_32i]
      have e : 9 * v = 9 * v + 0 := by omega
      refine ⟨by omega, cont _ ?_ (fun n n0 n1 => ?_)⟩
      · rw [e]; exact mm_fr_up hf (by decide) (by decide)
      · by_cases e2 : n = 0
        · subst e2
          rw [← e, ma_up_s, if_pos rfl]
        · rw [ma_up_ne2 (by omega), if_neg e2]
          exact hr n n0 (by omega)
    · simp (disch := (first | assumption | omega | ((repeat (refine mr_FIX_up ?_ (by unfold mr_nst; omega))); assumption))) only [s89_10, s89_11, x89_14, x89_16, x89_17, x89_18, x89_20, x89_21, s89_22, x89_23, x89_26, ma_32i]
      refine ⟨by omega, ih (k + 1) _ _ (by omega) (by omega) (by omega) (mm_fr_up hf (by omega) (by omega)) (fun n n0 n1 => ?_)⟩
      by_cases e : n = k
      · subst e
        rw [ma_up_s]
      · rw [ma_up_ne2 (by omega)]
        exact hr n n0 (by omega)
theorem mm_one {M : ma_M} (hF : mr_FIX M) {v c : Int} (v0 : 0 ≤ v) (v1 : v < 24) {Q : Option ma_V → ma_S → ma_M → Prop} (cont : ∀ M2 : ma_M, mm_fr M M2 v → (∀ n, 0 ≤ n → n ≤ 8 → M2 91 (9 * v + n) = if n = 0 then c else 0) → Q none mr_SH M2) : mr_do 89 [(2, 80), (0, v), (1, c)] mr_SH M Q := by
  simp only [x89, x89_0, x89_1]
  exact mm_onel hF v0 v1 cont 10 0 _ M (by decide) (by decide) (by decide) (mm_fr_r M v) (fun n n0 n1 => by omega)
/-- times -/
theorem mt_sm (s t : Int) : (s % 65521 + t) % 65521 = (s + t) % 65521 := by omega
set_option maxHeartbeats 1000000 in
theorem mm_timesi {M : ma_M} {M1 : ma_M} (hF1 : mr_FIX M1) (h91 : ∀ k, M1 91 k = M 91 k) {v a n : Int} (v0 : 0 ≤ v) (v1 : v < 24) (a0 : 0 ≤ a) (a1 : a < 24) (n0 : 0 ≤ n) (n1 : n ≤ 8) (hv : mm_rb M v) (ha : mm_rb M a) {Q : Option ma_V → ma_S → ma_M → Prop} (cont : ∀ z i : Int, ma_wp 87 61 [(2, 80), (0, v), (0, a), (0, n), (1, mt_mul (mm_row M v) (mm_row M a) n), (3, z), (0, i)] [] mr_SH M1 Q) : ∀ (m : Nat) (i s z : Int), (n + 1 - i).toNat < m → 0 ≤ i → i ≤ n + 1 → s = ms_s (fun i => mm_row M v i * mm_row M a (n - i)) i.toNat % 65521 → ma_wp 87 13 [(2, 80), (0, v), (0, a), (0, n), (1, s), (3, z), (0, i)] [] mr_SH M1 Q := by
  intro m
  induction m with
  | zero => intro i s z h; omega
  | succ m ih =>
    intro i s z hm h0 h1 hs
    simp (disch := (first | assumption | omega | ((repeat (refine mr_FIX_up ?_ (by unfold mr_nst; omega))); assumption))) only [x87_13, x87_15, x87_16]
    refine ⟨fun h => ?_, fun h => ?_⟩
    · have e : i.toNat = n.toNat + 1 := by omega
      rw [e] at hs
      rw [hs]
      exact cont _ _
    · have b1 := hv i h0 (by omega)
      have b2 := ha (n - i) (by omega) (by omega)
      have m1 := mr_pp b1.1 (by omega) b2.1 (by omega)
      have e1 : 9 * a + n - i = 9 * a + (n - i) := by omega
      simp (disch := (first | assumption | omega | ((repeat (refine mr_FIX_up ?_ (by unfold mr_nst; omega))); assumption))) only [x87_19, s87_21, s87_22, x87_25, x87_27, x87_28, x87_29, x87_31, s87_32, s87_33, s87_34, x87_37, x87_39, x87_40, x87_41, x87_42, x87_43, x87_45, s87_46, x87_47, x87_48, x87_49, x87_52, x87_53, x87_55, x87_58, ma_32i, ma_64i, mr_tm0, mr_P0, true_and, h91, e1]
      refine ⟨by omega, by omega, ih (i + 1) _ _ (by omega) (by omega) (by omega) ?_⟩
      have e2 : (i + 1).toNat = i.toNat + 1 := by omega
      rw [e2, ms_s, hs, mt_sm]
      have e3 : ((i.toNat : Nat) : Int) = i := by omega
      rw [e3]
      rfl
set_option maxHeartbeats 1000000 in
theorem mm_timeso {M : ma_M} (hF : mr_FIX M) {v a : Int} (v0 : 0 ≤ v) (v1 : v < 24) (a0 : 0 ≤ a) (a1 : a < 24) (hv : mm_rb M v) (ha : mm_rb M a) {Q : Option ma_V → ma_S → ma_M → Prop} (cont : ∀ (M2 : ma_M) (n z : Int) (a4 a6 : ma_V), (∀ c k, c ≠ 92 → M2 c k = M c k) → (∀ i, 0 ≤ i → i ≤ 8 → M2 92 i = mt_mul (mm_row M v) (mm_row M a) i) → ma_wp 87 75 [(2, 80), (0, v), (0, a), (0, n), a4, (3, z), a6] [] mr_SH M2 Q) : ∀ (m : Nat) (n z : Int) (M1 : ma_M) (a4 a6 : ma_V), (n + 1).toNat < m → -1 ≤ n → n ≤ 8 → (∀ c k, c ≠ 92 → M1 c k = M c k) → (∀ i, n < i → i ≤ 8 → M1 92 i = mt_mul (mm_row M v) (mm_row M a) i) → ma_wp 87 3 [(2, 80), (0, v), (0, a), (0, n), a4, (3, z), a6] [] mr_SH M1 Q := by
  intro m
  induction m with
  | zero => intro n z M1 a4 a6 h; omega
  | succ m ih =>
    intro n z M1 a4 a6 hm h0 h1 hf hr
    have hF1 : mr_FIX M1 := md_fr hF (p := fun c => c = 92) (fun c k hc => hf c k hc) (fun c hc => by omega)
    simp (disch := (first | assumption | omega | ((repeat (refine mr_FIX_up ?_ (by unfold mr_nst; omega))); assumption))) only [x87_3, x87_4]
    refine ⟨fun h => ?_, fun h => ?_⟩
    · exact cont M1 n z a4 a6 hf (fun i i0 i1 => hr i (by omega) i1)
    · simp (disch := (first | assumption | omega | ((repeat (refine mr_FIX_up ?_ (by unfold mr_nst; omega))); assumption))) only [x87_7, x87_8, x87_10, x87_11]
      refine mm_timesi hF1 (fun k => hf 91 k (by omega)) v0 v1 a0 a1 (by omega) h1 hv ha (fun z i => ?_) (n.toNat + 2) 0 0 _ (by omega) (by omega) (by omega) rfl
      simp (disch := (first | assumption | omega | ((repeat (refine mr_FIX_up ?_ (by unfold mr_nst; omega))); assumption))) only [s87_61, s87_62, x87_65, x87_66, s87_68, x87_69, x87_72, ma_32i]
      refine ⟨by omega, ih _ _ _ _ _ (by omega) (by omega) (by omega) (fun c k hc => (ma_up_ne hc).trans (hf c k hc)) (fun j j0 j1 => ?_)⟩
      by_cases e : j = n
      · subst e
        rw [ma_up_s]
      · rw [ma_up_ne2 (by omega)]
        exact hr j (by omega) j1
theorem mm_timesc {M : ma_M} {M1 : ma_M} (hF : mr_FIX M) (hf1 : ∀ c k, c ≠ 92 → M1 c k = M c k) {v a : Int} {g : Int → Int} (v0 : 0 ≤ v) (v1 : v < 24) (hg : ∀ i, 0 ≤ i → i ≤ 8 → M1 92 i = g i) {Q : Option ma_V → ma_S → ma_M → Prop} (cont : ∀ M2 : ma_M, mm_fr M M2 v → (∀ n, 0 ≤ n → n ≤ 8 → M2 91 (9 * v + n) = g n) → Q none mr_SH M2) : ∀ (m : Nat) (k z : Int) (M2 : ma_M) (a4 a6 : ma_V), (9 - k).toNat < m → 0 ≤ k → k ≤ 9 → mm_fr M M2 v → (∀ i, M2 92 i = M1 92 i) → (∀ n, 0 ≤ n → n < k → M2 91 (9 * v + n) = g n) → ma_wp 87 77 [(2, 80), (0, v), (0, a), (0, k), a4, (3, z), a6] [] mr_SH M2 Q := by
  intro m
  induction m with
  | zero => intro k z M2 a4 a6 h; omega
  | succ m ih =>
    intro k z M2 a4 a6 hm h0 h1 hf h92 hr
    have hF1 := mm_fr_F hF hf
    simp (disch := (first | assumption | omega | ((repeat (refine mr_FIX_up ?_ (by unfold mr_nst; omega))); assumption))) only [x87_77, x87_78, x87_80]
    refine ⟨fun h => ?_, fun h => ?_⟩
    · simp only [x87_106]
      exact cont M2 hf (fun n n0 n1 => hr n n0 (by omega))
    · simp (disch := (first | assumption | omega | ((repeat (refine mr_FIX_up ?_ (by unfold mr_nst; omega))); assumption))) only [s87_83, s87_84, x87_87, x87_89, x87_90, x87_91, x87_92, s87_93, s87_94, x87_97, s87_98, s87_99, x87_100, x87_103, ma_32i]
      refine ⟨by omega, by omega, ih (k + 1) _ _ _ _ (by omega) (by omega) (by omega) (mm_fr_up hf (by omega) (by omega)) (fun i => (ma_up_ne (by omega)).trans (h92 i)) (fun n n0 n1 => ?_)⟩
      by_cases e : n = k
      · subst e
        rw [ma_up_s, h92]
        exact hg n n0 (by omega)
      · rw [ma_up_ne2 (by omega)]
        exact hr n n0 (by omega)
theorem mm_times {M : ma_M} (hF : mr_FIX M) {v a : Int} (v0 : 0 ≤ v) (v1 : v < 24) (a0 : 0 ≤ a) (a1 : a < 24) (hv : mm_rb M v) (ha : mm_rb M a) {Q : Option ma_V → ma_S → ma_M → Prop} (cont : ∀ M2 : ma_M, mm_fr M M2 v → (∀ n, 0 ≤ n → n ≤ 8 → M2 91 (9 * v + n) = mt_mul (mm_row M v) (mm_row M a) n) → Q none mr_SH M2) : mr_do 87 [(2, 80), (0, v), (0, a)] mr_SH M Q := by
  simp only [x87, x87_0, x87_2]
  refine mm_timeso hF v0 v1 a0 a1 hv ha (fun M2 n z a4 a6 hf hr => ?_) 10 8 _ M _ _ (by decide) (by decide) (by decide) (fun _ _ _ => rfl) (fun i i0 i1 => by omega)
  simp only [x87_75, x87_76]
  exact mm_timesc hF hf v0 v1 hr cont 10 0 _ M2 _ _ (by decide) (by decide) (by decide) ⟨fun c k _ h => hf c k h, fun k _ => hf 91 k (by decide)⟩ (fun _ => rfl) (fun n n0 n1 => by omega)
/-- divide -/
theorem mt_sd (A y q : Int) : (A % 65521 + (65521 - y) * q) % 65521 = (A - y * q) % 65521 := by
  rw [mq_eq]
  simp only [mq_add, mq_sub, mq_mul, mq_mod, mq_P]
  grind
theorem mt_ml (A c : Int) : (A % 65521 * c) % 65521 = (A * c) % 65521 := by
  rw [mq_eq]
  simp only [mq_mul, mq_mod]
set_option maxHeartbeats 1000000 in
theorem mm_divi {M : ma_M} {M1 : ma_M} {v a b n c : Int} (hF1 : mr_FIX M1) (hf : mm_fr M M1 v) (v0 : 0 ≤ v) (v1 : v < 24) (b0 : 0 ≤ b) (b1 : b < 24) (hbv : b ≠ v) (n0 : 0 ≤ n) (n1 : n ≤ 8) (hb : mm_rb M b) {q : Int → Int} (hq : ∀ k, 0 ≤ k → k < n → M1 91 (9 * v + k) = q k ∧ 0 ≤ q k ∧ q k < 65521) {A : Int} {Q : Option ma_V → ma_S → ma_M → Prop} (cont : ∀ z z2 i : Int, ma_wp 90 95 [(2, 80), (0, v), (0, a), (0, b), (1, c), (3, z), (0, n), (1, (A - ms_s (fun i => mm_row M b (i + 1) * q (n - 1 - i)) n.toNat) % 65521), (3, z2), (0, i)] [] mr_SH M1 Q) : ∀ (m : Nat) (i s z z2 : Int), (n + 1 - i).toNat < m → 1 ≤ i → i ≤ n + 1 → s = (A - ms_s (fun i => mm_row M b (i + 1) * q (n - 1 - i)) (i - 1).toNat) % 65521 → ma_wp 90 41 [(2, 80), (0, v), (0, a), (0, b), (1, c), (3, z), (0, n), (1, s), (3, z2), (0, i)] [] mr_SH M1 Q := by
  intro m
  induction m with
  | zero => intro i s z z2 h; omega
  | succ m ih =>
    intro i s z z2 hm h0 h1 hs
    simp (disch := (first | assumption | omega | ((repeat (refine mr_FIX_up ?_ (by unfold mr_nst; omega))); assumption))) only [x90_41, x90_43, x90_45]
    refine ⟨fun h => ?_, fun h => ?_⟩
    · have e : (i - 1).toNat = n.toNat := by omega
      rw [e] at hs
      rw [hs]
      exact cont _ _ _
    · have b1 := hb i (by omega) (by omega)
      obtain ⟨e4, b2, b3⟩ := hq (n - i) (by omega) (by omega)
      have m1 := mr_pp (a := 65521 - M 91 (9 * b + i)) (b := q (n - i)) (by omega) (by omega) b2 (by omega)
      have e1 : 9 * v + n - i = 9 * v + (n - i) := by omega
      have e5 : M1 91 (9 * b + i) = M 91 (9 * b + i) := mm_fr_row hf hbv (by omega) (by omega)
      simp (disch := (first | assumption | omega | ((repeat (refine mr_FIX_up ?_ (by unfold mr_nst; omega))); assumption))) only [x90_48, x90_50, s90_53, s90_54, x90_57, x90_59, x90_60, x90_61, x90_63, s90_64, x90_65, s90_66, s90_67, x90_70, x90_72, x90_73, x90_74, x90_76, x90_77, x90_79, s90_80, x90_81, x90_82, x90_83, x90_86, x90_87, x90_89, x90_92, ma_32i, ma_64i, mr_tm0, mr_P0, true_and, e1, e4, e5]
      refine ⟨by omega, by omega, ih (i + 1) _ _ _ (by omega) (by omega) (by omega) ?_⟩
      have e2 : (i + 1 - 1).toNat = (i - 1).toNat + 1 := by omega
      rw [e2, ms_s, hs, mt_sd]
      have e3 : (((i - 1).toNat : Nat) : Int) = i - 1 := by omega
      have e6 : n - 1 - (i - 1) = n - i := by omega
      have e7 : i - 1 + 1 = i := by omega
      rw [e3, e6, e7, Int.sub_sub]
      rfl
set_option maxHeartbeats 1000000 in
theorem mm_divo {M : ma_M} (hF : mr_FIX M) {v a b : Int} (v0 : 0 ≤ v) (v1 : v < 24) (a0 : 0 ≤ a) (a1 : a < 24) (hav : a ≠ v) (b0 : 0 ≤ b) (b1 : b < 24) (hbv : b ≠ v) (ha : mm_rb M a) (hb : mm_rb M b) {Q : Option ma_V → ma_S → ma_M → Prop} (cont : ∀ M2 : ma_M, mm_fr M M2 v → (∀ n, 0 ≤ n → n ≤ 8 → M2 91 (9 * v + n) = mt_div (mm_row M a) (mm_row M b) n) → Q none mr_SH M2) : ∀ (m : Nat) (n z z2 : Int) (M1 : ma_M) (a7 a9 : ma_V), (9 - n).toNat < m → 0 ≤ n → n ≤ 9 → mm_fr M M1 v → (∀ i, 0 ≤ i → i < n → M1 91 (9 * v + i) = mt_div (mm_row M a) (mm_row M b) i) → ma_wp 90 17 [(2, 80), (0, v), (0, a), (0, b), (1, mt_inv (mm_row M b 0)), (3, z), (0, n), a7, (3, z2), a9] [] mr_SH M1 Q := by
  intro m
  induction m with
  | zero => intro n z z2 M1 a7 a9 h; omega
  | succ m ih =>
    intro n z z2 M1 a7 a9 hm h0 h1 hf hr
    have hF1 := mm_fr_F hF hf
    simp (disch := (first | assumption | omega | ((repeat (refine mr_FIX_up ?_ (by unfold mr_nst; omega))); assumption))) only [x90_17, x90_19, x90_21]
    refine ⟨fun h => ?_, fun h => ?_⟩
    · simp only [x90_122]
      exact cont M1 hf (fun i i0 i1 => hr i i0 (by omega))
    · have e1 : M1 91 (9 * a + n) = M 91 (9 * a + n) := mm_fr_row hf hav h0 (by omega)
      have bn := ha n h0 (by omega)
      simp (disch := (first | assumption | omega | ((repeat (refine mr_FIX_up ?_ (by unfold mr_nst; omega))); assumption))) only [s90_24, s90_25, x90_28, x90_30, x90_31, x90_32, x90_34, s90_35, x90_36, x90_38, x90_39, ma_32i, e1]
      refine ⟨by omega, ?_⟩
      refine mm_divi hF1 hf v0 v1 b0 b1 hbv h0 (by omega) hb (q := mt_div (mm_row M a) (mm_row M b)) (A := M 91 (9 * a + n)) (fun k k0 k1 => ⟨hr k k0 k1, mt_div_b _ _ k0 (by omega)⟩) (fun z z2 i => ?_) (n.toNat + 2) 1 _ _ _ (by omega) (by omega) (by omega) ?_
      · have ib := mt_p_b (mm_row M b 0) mt_E
        have m1 := mr_pp (a := (M 91 (9 * a + n) - ms_s (fun i => mm_row M b (i + 1) * mt_div (mm_row M a) (mm_row M b) (n - 1 - i)) n.toNat) % 65521) (b := mt_inv (mm_row M b 0)) (by omega) (by omega) ib.1 (Int.le_of_lt ib.2)
        simp (disch := (first | assumption | omega | ((repeat (refine mr_FIX_up ?_ (by unfold mr_nst; omega))); assumption))) only [s90_95, s90_96, x90_99, x90_101, x90_102, x90_103, x90_105, x90_106, x90_108, x90_110, x90_111, x90_114, s90_115, x90_116, x90_119, ma_32i, ma_64i, mr_tm0, mr_P0, true_and]
        refine ⟨by omega, ih (n + 1) _ _ _ _ _ (by omega) (by omega) (by omega) (mm_fr_up hf (by omega) (by omega)) (fun j j0 j1 => ?_)⟩
        by_cases e : j = n
        · subst e
          rw [ma_up_s, mt_ml, mt_div_eq _ _ j0 (by omega)]
          rfl
        · rw [ma_up_ne2 (by omega)]
          exact hr j j0 (by omega)
      · rw [show ((1 : Int) - 1).toNat = 0 from rfl, ms_s]
        omega
theorem mm_divide {M : ma_M} (hF : mr_FIX M) {v a b : Int} (v0 : 0 ≤ v) (v1 : v < 24) (a0 : 0 ≤ a) (a1 : a < 24) (hav : a ≠ v) (b0 : 0 ≤ b) (b1 : b < 24) (hbv : b ≠ v) (ha : mm_rb M a) (hb : mm_rb M b) {Q : Option ma_V → ma_S → ma_M → Prop} (cont : ∀ M2 : ma_M, mm_fr M M2 v → (∀ n, 0 ≤ n → n ≤ 8 → M2 91 (9 * v + n) = mt_div (mm_row M a) (mm_row M b) n) → Q none mr_SH M2) : mr_do 90 [(2, 80), (0, v), (0, a), (0, b)] mr_SH M Q := by
  have h0 := hb 0 (by decide) (by decide)
  rw [Int.add_zero] at h0
  simp (disch := (first | assumption | omega | ((repeat (refine mr_FIX_up ?_ (by unfold mr_nst; omega))); assumption))) only [x90, s90_0, s90_1, x90_4, x90_6, x90_7, s90_8, x90_9, ma_32i]
  refine ⟨by omega, mm_inv h0.1 h0.2 ?_⟩
  simp only [Option.toList_some, Option.toList_none, List.cons_append, List.nil_append]
  simp (disch := (first | assumption | omega | ((repeat (refine mr_FIX_up ?_ (by unfold mr_nst; omega))); assumption))) only [x90_12, x90_14, x90_15]
  have e : mt_inv (M 91 (9 * b)) = mt_inv (mm_row M b 0) := by unfold mm_row; rw [Int.add_zero]
  rw [e]
  exact mm_divo hF v0 v1 a0 a1 hav b0 b1 hbv ha hb cont 10 0 _ _ M _ _ (by decide) (by decide) (by decide) (mm_fr_r M v) (fun n n0 n1 => by omega)
