/-! size: tables of nodes, each number out of those of the nodes before -/
def mc_tb (st : (Int → Int) → Int → Int) : Nat → Int → Int
  | 0 => fun _ => 0
  | k + 1 => fun v => if v = k then st (mc_tb st k) v else mc_tb st k v
theorem mc_tb_lt (st : (Int → Int) → Int → Int) (v : Int) : ∀ (m n : Nat), v < n → mc_tb st (n + m) v = mc_tb st n v
  | 0, n, h => rfl
  | m + 1, n, h => by
    show (if v = ((n + m : Nat) : Int) then _ else mc_tb st (n + m) v) = _
    rw [if_neg (by omega)]
    exact mc_tb_lt st v m n h
theorem mc_tbE {st : (Int → Int) → Int → Int} {v : Int} (v0 : 0 ≤ v) (v1 : v < 24) (loc : ∀ T T' : Int → Int, (∀ u, 0 ≤ u → u < v → T u = T' u) → st T v = st T' v) : mc_tb st 24 v = st (mc_tb st 24) v := by
  have e : mc_tb st 24 v = mc_tb st (v.toNat + 1) v := by
    have := mc_tb_lt st v (24 - (v.toNat + 1)) (v.toNat + 1) (by omega)
    rwa [show v.toNat + 1 + (24 - (v.toNat + 1)) = 24 by omega] at this
  rw [e]
  show (if v = ((v.toNat : Nat) : Int) then st (mc_tb st v.toNat) v else _) = _
  rw [if_pos (by omega)]
  refine loc _ _ (fun u u0 u1 => ?_)
  have := mc_tb_lt st u (24 - v.toNat) v.toNat (by omega)
  rw [show v.toNat + (24 - v.toNat) = 24 by omega] at this
  exact this.symm
/-- folded nodes -/
def mc_f1 (M : ma_M) (V : Int → Int → Int) (T : Int → Int) (v : Int) : Int := if M 2 v = 8 ∨ (M 2 v ≤ 6 ∧ T (M 3 v) = 1 ∧ T (M 4 v) = 1 ∧ V v 9 = 0) then 1 else 0
def mc_F (M : ma_M) (V : Int → Int → Int) : Int → Int := mc_tb (mc_f1 M V) 24
theorem mc_op {M : ma_M} (hI : mr_INV M) {v : Int} (v0 : 0 ≤ v) (v1 : v < M 1 0) (h : M 2 v ≤ 6) : (0 ≤ M 3 v ∧ M 3 v < v) ∧ (0 ≤ M 4 v ∧ M 4 v < v) := ⟨(mt_opn_of hI v0 v1 h).2.1, (mt_opn_of hI v0 v1 h).2.2.1⟩
theorem mc_FE {M : ma_M} (hI : mr_INV M) (V : Int → Int → Int) {v : Int} (v0 : 0 ≤ v) (v1 : v < M 1 0) : mc_F M V v = mc_f1 M V (mc_F M V) v := by
  have hN := hI.2.1.1.2.1
  refine mc_tbE v0 (by omega) (fun T T' h => ?_)
  unfold mc_f1
  by_cases q : M 2 v ≤ 6
  · have ho := mc_op hI v0 v1 q
    rw [h _ ho.1.1 ho.1.2, h _ ho.2.1 ho.2.2]
  · have e : ∀ T : Int → Int, (M 2 v = 8 ∨ (M 2 v ≤ 6 ∧ T (M 3 v) = 1 ∧ T (M 4 v) = 1 ∧ V v 9 = 0)) ↔ M 2 v = 8 := fun T => ⟨fun z => z.elim id (fun z => absurd z.1 q), Or.inl⟩
    simp only [e]
theorem mc_F01 {M : ma_M} (hI : mr_INV M) (V : Int → Int → Int) {v : Int} (v0 : 0 ≤ v) (v1 : v < M 1 0) : mc_F M V v = 0 ∨ mc_F M V v = 1 := by
  rw [mc_FE hI V v0 v1]
  unfold mc_f1
  split
  · exact Or.inr rfl
  · exact Or.inl rfl
/-- what makes nodes alike -/
abbrev mc_x (k : Int) : Prop := k = 0 ∨ k = 2 ∨ k = 4 ∨ k = 5
def mc_K (M : ma_M) (V : Int → Int → Int) (F T : Int → Int) (u : Int) : Int × Int × Int × Int :=
  if F u = 1 then (9, V u 0, 0, 0) else if M 2 u = 7 then (7, u, 0, 0) else
  (M 2 u, M 5 u, if mc_x (M 2 u) then min (T (M 3 u)) (T (M 4 u)) else T (M 3 u), if mc_x (M 2 u) then max (T (M 3 u)) (T (M 4 u)) else T (M 4 u))
def mc_ls (K : Int → Int × Int × Int × Int) (v : Int) : Nat → Int → Int
  | 0, _ => v
  | k + 1, u => if u < v then (if K u = K v then u else mc_ls K v k (u + 1)) else v
theorem mc_ls_p {K : Int → Int × Int × Int × Int} {v : Int} : ∀ (k : Nat) (u : Int), (v - u).toNat < k → u ≤ v → (u ≤ mc_ls K v k u ∧ mc_ls K v k u ≤ v) ∧ K (mc_ls K v k u) = K v ∧ ∀ w, u ≤ w → w < mc_ls K v k u → K w ≠ K v
  | 0, u, h, _ => by omega
  | k + 1, u, h, hu => by
    unfold mc_ls
    by_cases c : u < v
    · rw [if_pos c]
      by_cases e : K u = K v
      · rw [if_pos e]
        exact ⟨⟨Int.le_refl u, hu⟩, e, fun w a b => by omega⟩
      · rw [if_neg e]
        obtain ⟨⟨a, b⟩, d, f⟩ := mc_ls_p (K := K) (v := v) k (u + 1) (by omega) (by omega)
        refine ⟨⟨by omega, b⟩, d, fun w w0 w1 => ?_⟩
        by_cases q : w = u
        · subst q; exact e
        · exact f w (by omega) w1
    · rw [if_neg c]
      exact ⟨⟨hu, Int.le_refl v⟩, rfl, fun w a b => by omega⟩
theorem mc_ls_cg {K K' : Int → Int × Int × Int × Int} {v : Int} : ∀ (k : Nat) (u : Int), 0 ≤ u → (∀ w, 0 ≤ w → w ≤ v → K w = K' w) → 0 ≤ v → mc_ls K v k u = mc_ls K' v k u
  | 0, _, _, _, _ => rfl
  | k + 1, u, u0, h, v0 => by
    unfold mc_ls
    by_cases c : u < v
    · rw [if_pos c, if_pos c, h u u0 (by omega), h v v0 (Int.le_refl v), mc_ls_cg k (u + 1) (by omega) h v0]
    · rw [if_neg c, if_neg c]
def mc_m (M : ma_M) (V : Int → Int → Int) : Int → Int := mc_tb (fun T v => mc_ls (mc_K M V (mc_F M V) T) v 25 0) 24
theorem mc_K_cg {M : ma_M} (hI : mr_INV M) {V : Int → Int → Int} {T T' : Int → Int} {w : Int} (w0 : 0 ≤ w) (w1 : w < M 1 0) (h : ∀ u, 0 ≤ u → u < w → T u = T' u) : mc_K M V (mc_F M V) T w = mc_K M V (mc_F M V) T' w := by
  unfold mc_K
  by_cases a : mc_F M V w = 1
  · rw [if_pos a, if_pos a]
  · rw [if_neg a, if_neg a]
    by_cases b : M 2 w = 7
    · rw [if_pos b, if_pos b]
    · rw [if_neg b, if_neg b]
      have k8 := (hI.2.2.1 w w0 w1).1.2.2
      have n8 : M 2 w ≠ 8 := fun z => a (by rw [mc_FE hI V w0 w1]; unfold mc_f1; rw [if_pos (Or.inl z)])
      have ho := mc_op hI w0 w1 (by omega)
      rw [h _ ho.1.1 ho.1.2, h _ ho.2.1 ho.2.2]
/-- the key of a node -/
def mc_k (M : ma_M) (V : Int → Int → Int) : Int → Int × Int × Int × Int := mc_K M V (mc_F M V) (mc_m M V)
theorem mc_mE {M : ma_M} (hI : mr_INV M) (V : Int → Int → Int) {v : Int} (v0 : 0 ≤ v) (v1 : v < M 1 0) : mc_m M V v = mc_ls (mc_k M V) v 25 0 := by
  have hN := hI.2.1.1.2.1
  exact mc_tbE (st := fun T v => mc_ls (mc_K M V (mc_F M V) T) v 25 0) v0 (by omega) (fun T T' h => mc_ls_cg 25 0 (by decide) (fun w w0 w1 => mc_K_cg hI w0 (by omega) (fun u u0 u1 => h u u0 (by omega))) v0)
theorem mc_m_p {M : ma_M} (hI : mr_INV M) (V : Int → Int → Int) {v : Int} (v0 : 0 ≤ v) (v1 : v < M 1 0) : (0 ≤ mc_m M V v ∧ mc_m M V v ≤ v) ∧ mc_k M V (mc_m M V v) = mc_k M V v ∧ ∀ w, 0 ≤ w → w < mc_m M V v → mc_k M V w ≠ mc_k M V v := by
  have hN := hI.2.1.1.2.1
  rw [mc_mE hI V v0 v1]
  exact mc_ls_p 25 0 (by omega) v0
theorem mc_eq {M : ma_M} (hI : mr_INV M) (V : Int → Int → Int) {u v : Int} (u0 : 0 ≤ u) (u1 : u < M 1 0) (v0 : 0 ≤ v) (v1 : v < M 1 0) : mc_m M V u = mc_m M V v ↔ mc_k M V u = mc_k M V v := by
  obtain ⟨a1, b1, c1⟩ := mc_m_p hI V u0 u1
  obtain ⟨a2, b2, c2⟩ := mc_m_p hI V v0 v1
  refine ⟨fun h => ?_, fun h => ?_⟩
  · rw [← b1, ← b2, h]
  · rcases Int.lt_trichotomy (mc_m M V u) (mc_m M V v) with q | q | q
    · exact absurd (b1.trans h) (c2 _ a1.1 q)
    · exact q
    · exact absurd (b2.trans h.symm) (c1 _ a2.1 q)
theorem mc_mm {a b c d : Int} : (min a b = min c d ∧ max a b = max c d) ↔ ((a = c ∧ b = d) ∨ (a = d ∧ b = c)) := by omega
/-- keys of nodes that are not folded -/
theorem mc_k_op {M : ma_M} (hI : mr_INV M) {V : Int → Int → Int} {u v : Int} (hu : mc_F M V u ≠ 1) (hv : mc_F M V v ≠ 1) (u7 : M 2 u ≠ 7) (hk : M 2 u = M 2 v) : mc_k M V u = mc_k M V v ↔ M 5 u = M 5 v ∧ ((mc_m M V (M 3 u) = mc_m M V (M 3 v) ∧ mc_m M V (M 4 u) = mc_m M V (M 4 v)) ∨ (mc_x (M 2 u) ∧ mc_m M V (M 3 u) = mc_m M V (M 4 v) ∧ mc_m M V (M 4 u) = mc_m M V (M 3 v))) := by
  unfold mc_k mc_K
  rw [if_neg hu, if_neg hv, if_neg u7, if_neg (show ¬ M 2 v = 7 by omega), ← hk]
  simp only [Prod.mk.injEq, true_and]
  by_cases x : mc_x (M 2 u)
  · simp only [x, if_true, mc_mm, true_and]
  · simp only [x, if_false, false_and, or_false]
theorem mc_k_7 {M : ma_M} {V : Int → Int → Int} {u v : Int} (huv : u ≠ v) (hu : mc_F M V u ≠ 1) (hv : mc_F M V v ≠ 1) (h : M 2 u = 7 ∨ M 2 u ≠ M 2 v) : mc_k M V u ≠ mc_k M V v := by
  unfold mc_k mc_K
  rw [if_neg hu, if_neg hv]
  intro e
  by_cases u7 : M 2 u = 7
  · rw [if_pos u7] at e
    by_cases v7 : M 2 v = 7
    · rw [if_pos v7] at e
      simp only [Prod.mk.injEq, true_and, and_true] at e
      exact huv e
    · rw [if_neg v7] at e
      simp only [Prod.mk.injEq] at e
      exact v7 e.1.symm
  · rw [if_neg u7] at e
    by_cases v7 : M 2 v = 7
    · rw [if_pos v7] at e
      simp only [Prod.mk.injEq] at e
      exact u7 e.1
    · rw [if_neg v7] at e
      simp only [Prod.mk.injEq] at e
      exact h.elim u7 (fun h => h e.1)
theorem mc_k_F {M : ma_M} {V : Int → Int → Int} {u v : Int} (hu : mc_F M V u = 1) (hv : mc_F M V v = 1) : mc_k M V u = mc_k M V v ↔ V u 0 = V v 0 := by
  unfold mc_k mc_K
  rw [if_pos hu, if_pos hv]
  simp only [Prod.mk.injEq, true_and, and_true]
theorem mc_k_FN {M : ma_M} (hI : mr_INV M) {V : Int → Int → Int} {u v : Int} (v0 : 0 ≤ v) (v1 : v < M 1 0) (hu : mc_F M V u = 1) (hv : mc_F M V v ≠ 1) : mc_k M V u ≠ mc_k M V v := by
  have k8 := (hI.2.2.1 v v0 v1).1.2.2
  unfold mc_k mc_K
  rw [if_pos hu, if_neg hv]
  intro e
  by_cases v7 : M 2 v = 7
  · rw [if_pos v7] at e
    simp only [Prod.mk.injEq] at e
    exact absurd e.1 (by decide)
  · rw [if_neg v7] at e
    simp only [Prod.mk.injEq] at e
    omega
/-! live nodes -/
def mc_o (M : ma_M) : Nat → Int → Int
  | 0 => fun _ => 0
  | i + 1 => fun w => if w = M 54 i then 1 else mc_o M i w
def mc_Lv (M : ma_M) (F : Int → Int) : Nat → Int → Int
  | 0 => mc_o M (M 0 11).toNat
  | k + 1 => fun w => if (mc_Lv M F k (M 1 0 - 1 - k) = 1 ∧ F (M 1 0 - 1 - k) = 0 ∧ M 2 (M 1 0 - 1 - k) ≤ 6) ∧ (w = M 3 (M 1 0 - 1 - k) ∨ w = M 4 (M 1 0 - 1 - k)) then 1 else mc_Lv M F k w
theorem mc_o01 (M : ma_M) (w : Int) : ∀ k : Nat, mc_o M k w = 0 ∨ mc_o M k w = 1
  | 0 => Or.inl rfl
  | k + 1 => by
    show (if w = M 54 k then (1 : Int) else mc_o M k w) = 0 ∨ (if w = M 54 k then (1 : Int) else mc_o M k w) = 1
    split
    · exact Or.inr rfl
    · exact mc_o01 M w k
theorem mc_Lv_s (M : ma_M) (F : Int → Int) (k : Nat) (w : Int) : mc_Lv M F (k + 1) w = if (mc_Lv M F k (M 1 0 - 1 - k) = 1 ∧ F (M 1 0 - 1 - k) = 0 ∧ M 2 (M 1 0 - 1 - k) ≤ 6) ∧ (w = M 3 (M 1 0 - 1 - k) ∨ w = M 4 (M 1 0 - 1 - k)) then 1 else mc_Lv M F k w := rfl
theorem mc_Lv01 (M : ma_M) (F : Int → Int) (w : Int) : ∀ k : Nat, mc_Lv M F k w = 0 ∨ mc_Lv M F k w = 1
  | 0 => mc_o01 M w _
  | k + 1 => by
    rw [mc_Lv_s]
    split
    · exact Or.inr rfl
    · exact mc_Lv01 M F w k
/-- a node's mark stands once the nodes after it are done -/
theorem mc_Lv_st {M : ma_M} (hI : mr_INV M) (F : Int → Int) {w : Int} : ∀ (j k : Nat), M 1 0 - 1 - k ≤ w → (k + j : Nat) ≤ M 1 0 → mc_Lv M F (k + j) w = mc_Lv M F k w
  | 0, _, _, _ => rfl
  | j + 1, k, h, hk => by
    rw [show k + (j + 1) = (k + j) + 1 by omega, mc_Lv_s, if_neg, mc_Lv_st hI F j k h (by omega)]
    rintro ⟨⟨_, _, c⟩, d⟩
    have ho := mc_op hI (v := M 1 0 - 1 - (k + j : Nat)) (by omega) (by omega) c
    omega
/-! counting -/
def mc_cn (l m : Int → Int) : Nat → Int → Int
  | 0 => fun _ => 0
  | k + 1 => fun c => if l k = 1 ∧ m k = c then 1 else mc_cn l m k c
def mc_cd (N : Int) (l m : Int → Int) : Nat → Int → Int
  | 0 => fun _ => 0
  | k + 1 => fun c => if l (N - 1 - k) = 1 ∧ m (N - 1 - k) = c then 1 else mc_cd N l m k c
theorem mc_cn_p (l m : Int → Int) (c : Int) : ∀ k : Nat, (mc_cn l m k c = 1 ∧ ∃ i : Int, 0 ≤ i ∧ i < k ∧ l i = 1 ∧ m i = c) ∨ (mc_cn l m k c = 0 ∧ ∀ i : Int, 0 ≤ i → i < k → ¬ (l i = 1 ∧ m i = c))
  | 0 => Or.inr ⟨rfl, fun i a b => by omega⟩
  | k + 1 => by
    have e : mc_cn l m (k + 1) c = if l k = 1 ∧ m k = c then 1 else mc_cn l m k c := rfl
    rw [e]
    by_cases h : l k = 1 ∧ m k = c
    · rw [if_pos h]
      exact Or.inl ⟨rfl, k, by omega, by omega, h⟩
    · rw [if_neg h]
      rcases mc_cn_p l m c k with ⟨a, i, b, d, f⟩ | ⟨a, b⟩
      · exact Or.inl ⟨a, i, b, by omega, f⟩
      · refine Or.inr ⟨a, fun i i0 i1 => ?_⟩
        by_cases q : i = k
        · subst q; exact h
        · exact b i i0 (by omega)
theorem mc_cd_p (N : Int) (l m : Int → Int) (c : Int) : ∀ k : Nat, (mc_cd N l m k c = 1 ∧ ∃ i : Int, N - k ≤ i ∧ i < N ∧ l i = 1 ∧ m i = c) ∨ (mc_cd N l m k c = 0 ∧ ∀ i : Int, N - k ≤ i → i < N → ¬ (l i = 1 ∧ m i = c))
  | 0 => Or.inr ⟨rfl, fun i a b => by omega⟩
  | k + 1 => by
    have e : mc_cd N l m (k + 1) c = if l (N - 1 - k) = 1 ∧ m (N - 1 - k) = c then 1 else mc_cd N l m k c := rfl
    rw [e]
    by_cases h : l (N - 1 - k) = 1 ∧ m (N - 1 - k) = c
    · rw [if_pos h]
      exact Or.inl ⟨rfl, N - 1 - k, by omega, by omega, h⟩
    · rw [if_neg h]
      rcases mc_cd_p N l m c k with ⟨a, i, b, d, f⟩ | ⟨a, b⟩
      · exact Or.inl ⟨a, i, by omega, d, f⟩
      · refine Or.inr ⟨a, fun i i0 i1 => ?_⟩
        by_cases q : i = N - 1 - k
        · subst q; exact h
        · exact b i (by omega) i1
theorem mc_cnd {N : Int} (h0 : 0 ≤ N) (l m : Int → Int) (c : Int) : mc_cn l m N.toNat c = mc_cd N l m N.toNat c := by
  rcases mc_cn_p l m c N.toNat with ⟨a, i, b, d, f⟩ | ⟨a, b⟩
  · rcases mc_cd_p N l m c N.toNat with ⟨a', _⟩ | ⟨_, b'⟩
    · rw [a, a']
    · exact absurd f (b' i (by omega) (by omega))
  · rcases mc_cd_p N l m c N.toNat with ⟨_, i, b', d, f⟩ | ⟨a', _⟩
    · exact absurd f (b i (by omega) (by omega))
    · rw [a, a']
theorem mc_cn01 (l m : Int → Int) (k : Nat) (c : Int) : mc_cn l m k c = 0 ∨ mc_cn l m k c = 1 := (mc_cn_p l m c k).elim (fun h => Or.inr h.1) (fun h => Or.inl h.1)
theorem mc_cd01 (N : Int) (l m : Int → Int) (k : Nat) (c : Int) : mc_cd N l m k c = 0 ∨ mc_cd N l m k c = 1 := (mc_cd_p N l m c k).elim (fun h => Or.inr h.1) (fun h => Or.inl h.1)
theorem mc_s0 (f : Int → Int) : ∀ n : Nat, (∀ c : Int, 0 ≤ c → c < n → f c = 0) → ms_s f n = 0
  | 0, _ => rfl
  | n + 1, h => by
    show ms_s f n + f n = 0
    rw [mc_s0 f n (fun c a b => h c a (by omega)), h n (by omega) (by omega)]
    rfl
theorem mc_scg {f g : Int → Int} : ∀ n : Nat, (∀ c : Int, 0 ≤ c → c < n → f c = g c) → ms_s f n = ms_s g n
  | 0, _ => rfl
  | n + 1, h => by
    show ms_s f n + f n = ms_s g n + g n
    rw [mc_scg n (fun c a b => h c a (by omega)), h n (by omega) (by omega)]
theorem mc_supd {f : Int → Int} {p : Prop} [Decidable p] {c0 : Int} (c00 : 0 ≤ c0) (h01 : f c0 = 0 ∨ f c0 = 1) : ∀ n : Nat, ms_s (fun c => if p ∧ c0 = c then 1 else f c) n = ms_s f n + if (p ∧ f c0 = 0) ∧ c0 < n then 1 else 0
  | 0 => by
    rw [if_neg (by omega)]
    rfl
  | n + 1 => by
    show ms_s (fun c => if p ∧ c0 = c then 1 else f c) n + (if p ∧ c0 = (n : Int) then 1 else f n) = ms_s f n + f n + _
    rw [mc_supd c00 h01 n]
    by_cases hp : p
    · by_cases e : c0 = (n : Int)
      · rw [if_pos (show p ∧ c0 = (n : Int) from ⟨hp, e⟩), if_neg (show ¬ ((p ∧ f c0 = 0) ∧ c0 < (n : Int)) from fun z => by omega), ← e]
        rcases h01 with q | q
        · rw [if_pos (show (p ∧ f c0 = 0) ∧ c0 < ((n + 1 : Nat) : Int) from ⟨⟨hp, q⟩, by omega⟩), q]
        · rw [if_neg (show ¬ ((p ∧ f c0 = 0) ∧ c0 < ((n + 1 : Nat) : Int)) from fun z => by omega), q]; omega
      · rw [if_neg (show ¬ (p ∧ c0 = (n : Int)) from fun z => e z.2)]
        have : ((p ∧ f c0 = 0) ∧ c0 < (n : Int)) ↔ ((p ∧ f c0 = 0) ∧ c0 < ((n + 1 : Nat) : Int)) := ⟨fun z => ⟨z.1, by omega⟩, fun z => ⟨z.1, by omega⟩⟩
        simp only [this]
        omega
    · rw [if_neg (show ¬ (p ∧ c0 = (n : Int)) from fun z => hp z.1), if_neg (show ¬ ((p ∧ f c0 = 0) ∧ c0 < (n : Int)) from fun z => hp z.1.1), if_neg (show ¬ ((p ∧ f c0 = 0) ∧ c0 < ((n + 1 : Nat) : Int)) from fun z => hp z.1.1)]
      omega
