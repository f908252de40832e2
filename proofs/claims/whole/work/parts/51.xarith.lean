theorem mb_shr1 {r : Int} (h0 : 0 ≤ r) (h1 : r < 2147483648) : ma_shr r 1 = r / 2 := by
  unfold ma_shr
  have e : (Int32.ofInt 1 &&& 31 : Int32) = 1 := by decide
  rw [e]
  show (Int32.ofInt r >>> (1 : Int32)).toBitVec.toInt = r / 2
  rw [Int32.toBitVec_shiftRight]
  have e2 : (BitVec.smod (1 : Int32).toBitVec 32) = 1#32 := by decide
  have e3 : (Int32.ofInt r).toBitVec = BitVec.ofInt 32 r := rfl
  rw [e2, e3, BitVec.sshiftRight', BitVec.toInt_sshiftRight, BitVec.toInt_ofInt]
  have e4 : Int.bmod r (2^32) = r := by
    rw [Int.bmod_def]; omega
  rw [e4, Int.shiftRight_eq_div_pow]
  rfl
theorem mb_and1 {r : Int} (h0 : 0 ≤ r) (h1 : r < 2147483648) : ma_and r 1 = r % 2 := by
  unfold ma_and
  show (Int32.ofInt r &&& Int32.ofInt 1).toBitVec.toInt = r % 2
  rw [Int32.toBitVec_and]
  have e3 : (Int32.ofInt r).toBitVec = BitVec.ofInt 32 r := rfl
  have e4 : (Int32.ofInt 1).toBitVec = 1#32 := rfl
  rw [e3, e4]
  have e5 : BitVec.ofInt 32 r = BitVec.ofNat 32 r.toNat := by
    apply BitVec.eq_of_toNat_eq
    simp
    omega
  rw [e5, BitVec.toInt_eq_toNat_of_lt, BitVec.toNat_and, BitVec.toNat_ofNat]
  · show ((r.toNat % 2^32 &&& 1 : Nat) : Int) = r % 2
    rw [Nat.and_one_is_mod]
    omega
  · rw [BitVec.toNat_and, BitVec.toNat_ofNat]
    show 2 * (r.toNat % 2^32 &&& 1) < 2^32
    rw [Nat.and_one_is_mod]
    omega
/-! the program's arithmetic -/
theorem mx_times {a b : Int} (a0 : 0 ≤ a) (a1 : a ≤ 65521) (b0 : 0 ≤ b) (b1 : b ≤ 65521) (sh : ma_S) (M : ma_M) (Q : Option ma_V → ma_S → ma_M → Prop) : mr_do 1 [(0, a), (0, b)] sh M Q ↔ Q (some (0, a * b % 65521)) sh M := by
  have m1 := mr_pp a0 a1 b0 b1
  simp (disch := (first | assumption | omega | ((repeat (refine mr_FIX_up ?_ (by unfold mr_nst; omega))); assumption))) only [x1, x1_0, x1_1, x1_2, x1_3, x1_4, x1_5, x1_8, x1_9, x1_10, ma_64i, ma_32i, mr_tm0, mr_P0, true_and]
theorem mf_step (x : mq_F) (n : Nat) : mf_p x n = mf_p (x * x) (n / 2) * mf_p x (n % 2) := by
  rw [mf_p2, ← mf_pa]
  congr 1
  omega
set_option maxHeartbeats 1000000 in
theorem mx_raisel {b e : Int} {sh : ma_S} {M : ma_M} {Q : Option ma_V → ma_S → ma_M → Prop} (q : Q (some (0, mt_p b e.toNat)) sh M) : ∀ (n : Nat) (r s t z1 z2 : Int), t.toNat < n → 0 ≤ r → r < 65521 → 0 ≤ s → s < 65521 → 0 ≤ t → t < 2147483648 → mq r * mf_p (mq s) t.toNat = mf_p (mq b) e.toNat → ma_wp 2 9 [(0, b), (0, e), (1, r), (3, z1), (1, s), (3, z2), (0, t)] [] sh M Q := by
  intro n
  induction n with
  | zero => intro r s t z1 z2 h; omega
  | succ n ih =>
    intro r s t z1 z2 hn r0 r1 s0 s1 t0 t1 hq
    simp (disch := (first | assumption | omega | ((repeat (refine mr_FIX_up ?_ (by unfold mr_nst; omega))); assumption))) only [x2_9, x2_11]
    refine ⟨fun h => ?_, fun h => ?_⟩
    · obtain rfl : t = 0 := by omega
      have pb := mt_p_b b e.toNat
      have hr : r = mt_p b e.toNat := by
        refine mq_inj r0 r1 pb.1 pb.2 ?_
        rw [mq_p, ← hq]
        show mq r = mq r * 1
        grind
      simp (disch := (first | assumption | omega | ((repeat (refine mr_FIX_up ?_ (by unfold mr_nst; omega))); assumption))) only [x2_50, x2_51, x2_52, ma_32i]
      rw [hr]
      exact q
    · have m1 := mr_pp r0 (by omega) s0 (show s ≤ 65521 by omega)
      have m2 := mr_pp s0 (by omega) s0 (show s ≤ 65521 by omega)
      have ea := mb_and1 t0 t1
      have es := mb_shr1 t0 t1
      have e2 : (t / 2).toNat = t.toNat / 2 := by omega
      rw [mf_step] at hq
      simp (disch := (first | assumption | omega | ((repeat (refine mr_FIX_up ?_ (by unfold mr_nst; omega))); assumption))) only [x2_14, x2_16, x2_17, x2_18, ea]
      refine ⟨fun z => ?_, fun z => ?_⟩
      · simp (disch := (first | assumption | omega | ((repeat (refine mr_FIX_up ?_ (by unfold mr_nst; omega))); assumption))) only [x2_30, x2_32, x2_34, x2_35, x2_38, x2_39, x2_41, x2_43, x2_44, x2_45, x2_47, es, ma_64i, mr_tm0, mr_P0, true_and]
        refine ih _ _ _ _ _ (by omega) r0 r1 (by omega) (by omega) (by omega) (by omega) ?_
        have e3 : t.toNat % 2 = 0 := by omega
        rw [e3] at hq
        rw [mq_mod, mq_mul, e2, ← hq]
        show mq r * mf_p (mq s * mq s) (t.toNat / 2) = mq r * (mf_p (mq s * mq s) (t.toNat / 2) * 1)
        grind
      · simp (disch := (first | assumption | omega | ((repeat (refine mr_FIX_up ?_ (by unfold mr_nst; omega))); assumption))) only [x2_21, x2_22, x2_24, x2_25, x2_28, x2_29, x2_30, x2_32, x2_34, x2_35, x2_38, x2_39, x2_41, x2_43, x2_44, x2_45, x2_47, es, ma_64i, mr_tm0, mr_P0, true_and]
        refine ih _ _ _ _ _ (by omega) (by omega) (by omega) (by omega) (by omega) (by omega) (by omega) ?_
        have e3 : t.toNat % 2 = 1 := by omega
        rw [e3] at hq
        rw [mq_mod, mq_mul, mq_mod, mq_mul, e2, ← hq]
        show mq r * mq s * mf_p (mq s * mq s) (t.toNat / 2) = mq r * (mf_p (mq s * mq s) (t.toNat / 2) * (1 * mq s))
        grind
theorem mx_raise {b e : Int} (b0 : 0 ≤ b) (b1 : b < 65521) (e0 : 0 ≤ e) (e1 : e < 2147483648) {sh : ma_S} {M : ma_M} {Q : Option ma_V → ma_S → ma_M → Prop} (q : Q (some (0, mt_p b e.toNat)) sh M) : mr_do 2 [(0, b), (0, e)] sh M Q := by
  simp (disch := (first | assumption | omega | ((repeat (refine mr_FIX_up ?_ (by unfold mr_nst; omega))); assumption))) only [x2, x2_0, x2_1, x2_2, x2_3, x2_4, x2_6, x2_7]
  refine mx_raisel q (e.toNat + 1) 1 b e _ _ (by omega) (by decide) (by decide) b0 b1 e0 e1 ?_
  rw [mq_1]
  grind
/-- an int[] of length n -/
def mx_ar (r n : Int) : Prop := r ≠ -1 ∧ ma_al mr_SH r 0 = n
theorem mx_rw {v : Int} (h0 : 0 ≤ v) (h1 : v < 24) : mx_ar (10 + v) 9 := ⟨by omega, ml_rows h0 h1⟩
theorem mx_t {p : Prop} (h : p) : p = True := eq_true h
/-- fill -/
theorem mx_filll {M : ma_M} {r n x : Int} (hr : mx_ar r n) (hn : n ≤ 1000) {Q : Option ma_V → ma_S → ma_M → Prop} (cont : ∀ M2 : ma_M, (∀ c k, ¬ (c = r ∧ 0 ≤ k ∧ k < n) → M2 c k = M c k) → (∀ k, 0 ≤ k → k < n → M2 r k = x) → Q none mr_SH M2) : ∀ (m : Nat) (i : Int) (M1 : ma_M), (n - i).toNat < m → 0 ≤ i → (∀ c k, ¬ (c = r ∧ 0 ≤ k ∧ k < n) → M1 c k = M c k) → (∀ k, 0 ≤ k → k < i → M1 r k = x) → ma_wp 114 5 [(2, r), (0, x), (0, i), (0, n)] [] mr_SH M1 Q := by
  obtain ⟨r1, r2⟩ := hr
  intro m
  induction m with
  | zero => intro i M1 h; omega
  | succ m ih =>
    intro i M1 hm h0 hf hx
    simp (disch := (first | assumption | omega | ((repeat (refine mr_FIX_up ?_ (by unfold mr_nst; omega))); assumption))) only [x114_5, x114_6, x114_7]
    refine ⟨fun h => ?_, fun h => ?_⟩
    · simp (disch := (first | assumption | omega | ((repeat (refine mr_FIX_up ?_ (by unfold mr_nst; omega))); assumption))) only [x114_20]
      exact cont M1 hf (fun k k0 k1 => hx k k0 (by omega))
    · simp (disch := (first | assumption | omega | ((repeat (refine mr_FIX_up ?_ (by unfold mr_nst; omega))); assumption))) only [x114_10, x114_11, x114_12, x114_13, x114_14, x114_17, r2, mx_t r1, true_and, ma_32i]
      refine ⟨by omega, ih (i + 1) _ (by omega) (by omega) (fun c k hc => ?_) (fun k k0 k1 => ?_)⟩
      · by_cases e : c = r
        · rw [ma_up_ne2 (by omega)]; exact hf c k hc
        · rw [ma_up_ne e]; exact hf c k hc
      · by_cases e : k = i
        · subst e; rw [ma_up_s]
        · rw [ma_up_ne2 e]; exact hx k k0 (by omega)
theorem mx_fill {M : ma_M} {r n x : Int} (hr : mx_ar r n) (n0 : 0 ≤ n) (hn : n ≤ 1000) {Q : Option ma_V → ma_S → ma_M → Prop} (cont : ∀ M2 : ma_M, (∀ c k, ¬ (c = r ∧ 0 ≤ k ∧ k < n) → M2 c k = M c k) → (∀ k, 0 ≤ k → k < n → M2 r k = x) → Q none mr_SH M2) : mr_do 114 [(2, r), (0, x)] mr_SH M Q := by
  obtain ⟨r1, r2⟩ := id hr
  simp (disch := (first | assumption | omega | ((repeat (refine mr_FIX_up ?_ (by unfold mr_nst; omega))); assumption))) only [x114, x114_0, x114_1, x114_2, x114_3, x114_4, mx_t r1, true_and, r2]
  exact ⟨by omega, mx_filll hr hn cont (n.toNat + 1) 0 M (by omega) (by omega) (fun _ _ _ => rfl) (fun k k0 k1 => by omega)⟩
/-- addUp -/
theorem mx_addl {M : ma_M} {r x y o g : Int} (hr : mx_ar r 9) (hx : mx_ar x 9) (hy : mx_ar y 9) (hrx : x ≠ r) (hry : y ≠ r) (o1 : o ≤ 8) (hg : g = 1 ∨ g = -1) (bx : ∀ n, 0 ≤ n → n ≤ o → 0 ≤ M x n ∧ M x n < 65521) (by_ : ∀ n, 0 ≤ n → n ≤ o → 0 ≤ M y n ∧ M y n < 65521) {Q : Option ma_V → ma_S → ma_M → Prop} (cont : ∀ M2 : ma_M, (∀ c k, ¬ (c = r ∧ 0 ≤ k ∧ k ≤ o) → M2 c k = M c k) → (∀ n, 0 ≤ n → n ≤ o → M2 r n = (M x n + g * M y n) % 65521) → Q none mr_SH M2) : ∀ (m : Nat) (i : Int) (M1 : ma_M), (o + 1 - i).toNat < m → 0 ≤ i → (∀ c k, ¬ (c = r ∧ 0 ≤ k ∧ k ≤ o) → M1 c k = M c k) → (∀ n, 0 ≤ n → n < i → M1 r n = (M x n + g * M y n) % 65521) → ma_wp 20 3 [(2, r), (2, x), (2, y), (0, g), (0, o), (0, i)] [] mr_SH M1 Q := by
  obtain ⟨r1, r2⟩ := hr
  obtain ⟨x1, x2⟩ := hx
  obtain ⟨y1, y2⟩ := hy
  intro m
  induction m with
  | zero => intro i M1 h; omega
  | succ m ih =>
    intro i M1 hm h0 hf hv
    simp (disch := (first | assumption | omega | ((repeat (refine mr_FIX_up ?_ (by unfold mr_nst; omega))); assumption))) only [x20_3, x20_5, x20_7]
    refine ⟨fun h => ?_, fun h => ?_⟩
    · simp (disch := (first | assumption | omega | ((repeat (refine mr_FIX_up ?_ (by unfold mr_nst; omega))); assumption))) only [x20_35]
      exact cont M1 hf (fun k k0 k1 => hv k k0 (by omega))
    · have ex : M1 x i = M x i := hf x i (by omega)
      have ey : M1 y i = M y i := hf y i (by omega)
      have b1 := bx i h0 (by omega)
      have b2 := by_ i h0 (by omega)
      have m1 : -65521 ≤ g * M y i ∧ g * M y i ≤ 65521 := by rcases hg with rfl | rfl <;> omega
      simp (disch := (first | assumption | omega | ((repeat (refine mr_FIX_up ?_ (by unfold mr_nst; omega))); assumption))) only [x20_10, x20_11, x20_13, x20_14, x20_16, x20_17, x20_18, x20_19, x20_21, x20_22, x20_23, x20_24, x20_25, x20_28, x20_29, x20_32, r2, x2, y2, mx_t r1, mx_t x1, mx_t y1, true_and, ma_32i, ex, ey, mr_standFor, Option.toList_some, Option.toList_none, List.cons_append, List.nil_append]
      refine ⟨by omega, by omega, by omega, ih (i + 1) _ (by omega) (by omega) (fun c k hc => ?_) (fun k k0 k1 => ?_)⟩
      · by_cases e : c = r
        · rw [ma_up_ne2 (by omega)]; exact hf c k hc
        · rw [ma_up_ne e]; exact hf c k hc
      · by_cases e : k = i
        · subst e; rw [ma_up_s]
        · rw [ma_up_ne2 e]; exact hv k k0 (by omega)
theorem mx_add {M : ma_M} {r x y o g : Int} (hr : mx_ar r 9) (hx : mx_ar x 9) (hy : mx_ar y 9) (hrx : x ≠ r) (hry : y ≠ r) (o0 : 0 ≤ o) (o1 : o ≤ 8) (hg : g = 1 ∨ g = -1) (bx : ∀ n, 0 ≤ n → n ≤ o → 0 ≤ M x n ∧ M x n < 65521) (by_ : ∀ n, 0 ≤ n → n ≤ o → 0 ≤ M y n ∧ M y n < 65521) {Q : Option ma_V → ma_S → ma_M → Prop} (cont : ∀ M2 : ma_M, (∀ c k, ¬ (c = r ∧ 0 ≤ k ∧ k ≤ o) → M2 c k = M c k) → (∀ n, 0 ≤ n → n ≤ o → M2 r n = (M x n + g * M y n) % 65521) → Q none mr_SH M2) : mr_do 20 [(2, r), (2, x), (2, y), (0, g), (0, o)] mr_SH M Q := by
  simp only [x20, x20_0, x20_1]
  exact mx_addl hr hx hy hrx hry o1 hg bx by_ cont (o.toNat + 2) 0 M (by omega) (by omega) (fun _ _ _ => rfl) (fun k k0 k1 => by omega)
/-- multiplyBy -/
theorem ms_sb {f : Int → Int} : ∀ n : Nat, (∀ i : Int, 0 ≤ i → i < n → 0 ≤ f i ∧ f i ≤ 4293001441) → 0 ≤ ms_s f n ∧ ms_s f n ≤ 4293001441 * (n : Int)
  | 0, _ => by unfold ms_s; omega
  | n + 1, h => by
    have h1 := ms_sb n (fun i i0 i1 => h i i0 (by omega))
    have h2 := h n (by omega) (by omega)
    rw [ms_s]
    omega
set_option maxHeartbeats 1000000 in
theorem mx_muli {M M1 : ma_M} {r f o k : Int} (hr : mx_ar r 9) (hf : mx_ar f 9) (k0 : 0 ≤ k) (k1 : k ≤ 8) (br : ∀ n, 0 ≤ n → n ≤ k → M1 r n = M r n ∧ 0 ≤ M r n ∧ M r n < 65521) (bf : ∀ n, 0 ≤ n → n ≤ k → M1 f n = M f n ∧ 0 ≤ M f n ∧ M f n < 65521) {Q : Option ma_V → ma_S → ma_M → Prop} (cont : ∀ z i : Int, ma_wp 21 42 [(2, r), (2, f), (0, o), (0, k), (1, ms_s (fun i => M r i * M f (k - i)) (k.toNat + 1)), (3, z), (0, i)] [] mr_SH M1 Q) : ∀ (m : Nat) (i s z : Int), (k + 1 - i).toNat < m → 0 ≤ i → i ≤ k + 1 → s = ms_s (fun i => M r i * M f (k - i)) i.toNat → ma_wp 21 12 [(2, r), (2, f), (0, o), (0, k), (1, s), (3, z), (0, i)] [] mr_SH M1 Q := by
  obtain ⟨r1, r2⟩ := hr
  obtain ⟨f1, f2⟩ := hf
  intro m
  induction m with
  | zero => intro i s z h; omega
  | succ m ih =>
    intro i s z hm h0 h1 hs
    simp (disch := (first | assumption | omega | ((repeat (refine mr_FIX_up ?_ (by unfold mr_nst; omega))); assumption))) only [x21_12, x21_14, x21_15]
    refine ⟨fun h => ?_, fun h => ?_⟩
    · have e : i.toNat = k.toNat + 1 := by omega
      rw [e] at hs
      rw [hs]
      exact cont _ _
    · obtain ⟨e1, b1, b2⟩ := br i h0 (by omega)
      obtain ⟨e2, b3, b4⟩ := bf (k - i) (by omega) (by omega)
      have m1 := mr_pp b1 (by omega) b3 (show M f (k - i) ≤ 65521 by omega)
      have sb : 0 ≤ s ∧ s ≤ 4293001441 * (i.toNat : Int) := by
        rw [hs]
        exact ms_sb _ (fun j j0 j1 => by
          obtain ⟨_, c1, c2⟩ := br j j0 (by omega)
          obtain ⟨_, c3, c4⟩ := bf (k - j) (by omega) (by omega)
          exact mr_pp c1 (by omega) c3 (by omega))
      simp (disch := (first | assumption | omega | ((repeat (refine mr_FIX_up ?_ (by unfold mr_nst; omega))); assumption))) only [x21_18, x21_20, x21_21, x21_23, x21_24, x21_25, x21_26, x21_27, x21_29, x21_30, x21_31, x21_32, x21_33, x21_34, x21_36, x21_39, r2, f2, mx_t r1, mx_t f1, true_and, ma_32i, ma_64i, e1, e2]
      refine ⟨by omega, by omega, ih (i + 1) _ _ (by omega) (by omega) (by omega) ?_⟩
      have e3 : (i + 1).toNat = i.toNat + 1 := by omega
      rw [e3, ms_s, hs]
      have e4 : ((i.toNat : Nat) : Int) = i := by omega
      rw [e4]
set_option maxHeartbeats 1000000 in
theorem mx_mull {M : ma_M} {r f o : Int} (hr : mx_ar r 9) (hf : mx_ar f 9) (o1 : o ≤ 8) (br : ∀ n, 0 ≤ n → n ≤ o → 0 ≤ M r n ∧ M r n < 65521) (bf : ∀ n, 0 ≤ n → n ≤ o → 0 ≤ M f n ∧ M f n < 65521) {Q : Option ma_V → ma_S → ma_M → Prop} (cont : ∀ M2 : ma_M, (∀ c k, ¬ (c = r ∧ 0 ≤ k ∧ k ≤ o) → M2 c k = M c k) → (∀ n, 0 ≤ n → n ≤ o → M2 r n = mt_mul (M r) (M f) n) → Q none mr_SH M2) : ∀ (m : Nat) (k z : Int) (M1 : ma_M) (a4 a6 : ma_V), (k + 1).toNat < m → -1 ≤ k → k ≤ o → (∀ c i, ¬ (c = r ∧ k < i ∧ i ≤ o) → M1 c i = M c i) → (∀ n, k < n → n ≤ o → M1 r n = mt_mul (M r) (M f) n) → ma_wp 21 2 [(2, r), (2, f), (0, o), (0, k), a4, (3, z), a6] [] mr_SH M1 Q := by
  obtain ⟨r1, r2⟩ := id hr
  intro m
  induction m with
  | zero => intro k z M1 a4 a6 h; omega
  | succ m ih =>
    intro k z M1 a4 a6 hm h0 h1 hfr hv
    simp (disch := (first | assumption | omega | ((repeat (refine mr_FIX_up ?_ (by unfold mr_nst; omega))); assumption))) only [x21_2, x21_3]
    refine ⟨fun h => ?_, fun h => ?_⟩
    · simp (disch := (first | assumption | omega | ((repeat (refine mr_FIX_up ?_ (by unfold mr_nst; omega))); assumption))) only [x21_58]
      exact cont M1 (fun c i hc => hfr c i (by omega)) (fun n n0 n1 => hv n (by omega) n1)
    · simp (disch := (first | assumption | omega | ((repeat (refine mr_FIX_up ?_ (by unfold mr_nst; omega))); assumption))) only [x21_6, x21_7, x21_9, x21_10]
      refine mx_muli (M := M) hr hf (by omega) (by omega) (fun n n0 n1 => ⟨hfr r n (by omega), br n n0 (by omega)⟩) (fun n n0 n1 => ⟨hfr f n (by omega), bf n n0 (by omega)⟩) (fun z i => ?_) (k.toNat + 2) 0 0 _ (by omega) (by omega) (by omega) rfl
      have sb : 0 ≤ ms_s (fun i => M r i * M f (k - i)) (k.toNat + 1) ∧ ms_s (fun i => M r i * M f (k - i)) (k.toNat + 1) ≤ 4293001441 * ((k.toNat + 1 : Nat) : Int) := ms_sb _ (fun j j0 j1 => by
          obtain ⟨c1, c2⟩ := br j j0 (by omega)
          obtain ⟨c3, c4⟩ := bf (k - j) (by omega) (by omega)
          exact mr_pp c1 (by omega) c3 (by omega))
      simp (disch := (first | assumption | omega | ((repeat (refine mr_FIX_up ?_ (by unfold mr_nst; omega))); assumption))) only [x21_42, x21_43, x21_44, x21_46, x21_49, x21_50, x21_51, x21_52, x21_55, r2, mx_t r1, true_and, ma_32i, ma_64i, mr_tm0, mr_P0]
      refine ⟨by omega, ih _ _ _ _ _ (by omega) (by omega) (by omega) (fun c i hc => ?_) (fun n n0 n1 => ?_)⟩
      · by_cases e : c = r
        · rw [ma_up_ne2 (by omega)]; exact hfr c i (by omega)
        · rw [ma_up_ne e]; exact hfr c i (by omega)
      · by_cases e : n = k
        · subst e; rw [ma_up_s]; rfl
        · rw [ma_up_ne2 e]; exact hv n (by omega) n1
theorem mx_mul {M : ma_M} {r f o : Int} (hr : mx_ar r 9) (hf : mx_ar f 9) (o0 : 0 ≤ o) (o1 : o ≤ 8) (br : ∀ n, 0 ≤ n → n ≤ o → 0 ≤ M r n ∧ M r n < 65521) (bf : ∀ n, 0 ≤ n → n ≤ o → 0 ≤ M f n ∧ M f n < 65521) {Q : Option ma_V → ma_S → ma_M → Prop} (cont : ∀ M2 : ma_M, (∀ c k, ¬ (c = r ∧ 0 ≤ k ∧ k ≤ o) → M2 c k = M c k) → (∀ n, 0 ≤ n → n ≤ o → M2 r n = mt_mul (M r) (M f) n) → Q none mr_SH M2) : mr_do 21 [(2, r), (2, f), (0, o)] mr_SH M Q := by
  simp only [x21, x21_0, x21_1]
  exact mx_mull hr hf o1 br bf cont (o.toNat + 2) o _ M _ _ (by omega) (by omega) (by omega) (fun _ _ _ => rfl) (fun n n0 n1 => by omega)
