/-! the worst state -/
def mw_E (M : ma_M) (V : Int → Int → Int) (f t n : Int) : Prop := ∃ i, 0 ≤ i ∧ i < n ∧ (f = 0 ∨ M 55 i ≠ 0) ∧ mx_st V (M 54 i) = t
theorem mw_E_s {M : ma_M} {V : Int → Int → Int} {f t n : Int} (n0 : 0 ≤ n) : mw_E M V f t (n + 1) ↔ mw_E M V f t n ∨ ((f = 0 ∨ M 55 n ≠ 0) ∧ mx_st V (M 54 n) = t) := by
  constructor
  · rintro ⟨i, i0, i1, i2⟩
    by_cases e : i = n
    · subst e; exact Or.inr i2
    · exact Or.inl ⟨i, i0, by omega, i2⟩
  · rintro (⟨i, i0, i1, i2⟩ | h)
    · exact ⟨i, i0, by omega, i2⟩
    · exact ⟨n, n0, by omega, h⟩
def mw_W (M : ma_M) (V : Int → Int → Int) (f t n : Int) : Prop := (t = -1 ∧ mw_E M V f (-1) n) ∨ (t = -2 ∧ ¬ mw_E M V f (-1) n ∧ mw_E M V f (-2) n) ∨ (t = 0 ∧ ¬ mw_E M V f (-1) n ∧ ¬ mw_E M V f (-2) n)
theorem mx_st3 (V : Int → Int → Int) (u : Int) : mx_st V u = -1 ∨ mx_st V u = -2 ∨ mx_st V u = 0 := by
  unfold mx_st
  split
  · exact Or.inl rfl
  · split
    · exact Or.inr (Or.inl rfl)
    · exact Or.inr (Or.inr rfl)
theorem mw_step {M : ma_M} {V : Int → Int → Int} {f t n : Int} (n0 : 0 ≤ n) (h : mw_W M V f t n) (hc : f = 0 ∨ M 55 n ≠ 0) : mw_W M V f (if t = -1 ∨ mx_st V (M 54 n) = -1 then -1 else if t = -2 ∨ mx_st V (M 54 n) = -2 then -2 else 0) (n + 1) := by
  unfold mw_W at h ⊢
  rw [mw_E_s n0, mw_E_s n0]
  rcases h with ⟨rfl, h⟩ | ⟨rfl, h1, h2⟩ | ⟨rfl, h1, h2⟩
  · rw [if_pos (Or.inl rfl)]
    exact Or.inl ⟨rfl, Or.inl h⟩
  · rcases mx_st3 V (M 54 n) with z | z | z <;> rw [z]
    · exact Or.inl ⟨by decide, Or.inr ⟨hc, rfl⟩⟩
    · exact Or.inr (Or.inl ⟨by decide, fun w => w.elim h1 (fun w => absurd w.2 (by decide)), Or.inl h2⟩)
    · exact Or.inr (Or.inl ⟨by decide, fun w => w.elim h1 (fun w => absurd w.2 (by decide)), Or.inl h2⟩)
  · rcases mx_st3 V (M 54 n) with z | z | z <;> rw [z]
    · exact Or.inl ⟨by decide, Or.inr ⟨hc, rfl⟩⟩
    · exact Or.inr (Or.inl ⟨by decide, fun w => w.elim h1 (fun w => absurd w.2 (by decide)), Or.inr ⟨hc, rfl⟩⟩)
    · exact Or.inr (Or.inr ⟨by decide, fun w => w.elim h1 (fun w => absurd w.2 (by decide)), fun w => w.elim h2 (fun w => absurd w.2 (by decide))⟩)
theorem mw_skip {M : ma_M} {V : Int → Int → Int} {f t n : Int} (n0 : 0 ≤ n) (h : mw_W M V f t n) (hc : ¬ (f = 0 ∨ M 55 n ≠ 0)) : mw_W M V f t (n + 1) := by
  unfold mw_W at h ⊢
  rw [mw_E_s n0, mw_E_s n0]
  have e : ∀ X : Prop, ∀ t, (X ∨ ((f = 0 ∨ M 55 n ≠ 0) ∧ mx_st V (M 54 n) = t)) ↔ X := fun X t => ⟨fun z => z.elim id (fun w => absurd w.1 hc), Or.inl⟩
  rw [e, e]
  exact h
set_option maxHeartbeats 1000000 in
theorem mx_worstl {M S : ma_M} {V : Int → Int → Int} (hF : mr_FIX S) (hO : M 0 11 ≤ 5) (hN : M 1 0 ≤ 24) (hout : ∀ i, 0 ≤ i → i < M 0 11 → 0 ≤ M 54 i ∧ M 54 i < M 1 0) (e11 : S 0 11 = M 0 11) (e54 : ∀ i, S 54 i = M 54 i) (e55 : ∀ i, S 55 i = M 55 i) (e34 : ∀ u, 0 ≤ u → u < M 1 0 → S 34 u = mx_st V u) {f : Int} (hf : f = 0 ∨ f = 1) {Q : Option ma_V → ma_S → ma_M → Prop} (cont : ∀ t, mw_W M V f t (M 0 11) → Q (some (0, t)) mr_SH S) : ∀ (m : Nat) (i t : Int), (M 0 11 - i).toNat < m → 0 ≤ i → i ≤ M 0 11 → mw_W M V f t i → ma_wp 65 4 [(2, 0), (0, f), (0, t), (0, i)] [] mr_SH S Q := by
  intro m
  induction m with
  | zero => intro i t h; omega
  | succ m ih =>
    intro i t hm h0 h1 hW
    simp (disch := (first | assumption | omega | ((repeat (refine mr_FIX_up ?_ (by unfold mr_nst; omega))); assumption))) only [x65_4, s65_5, s65_6, x65_9, e11]
    refine ⟨fun h => ?_, fun h => ?_⟩
    · obtain rfl : i = M 0 11 := by omega
      simp (disch := (first | assumption | omega | ((repeat (refine mr_FIX_up ?_ (by unfold mr_nst; omega))); assumption))) only [x65_50, x65_51]
      exact cont t hW
    · have ho := hout i h0 (by omega)
      have i5 : 0 ≤ i ∧ i < 5 := by omega
      have v24 : 0 ≤ M 54 i ∧ M 54 i < 24 := by omega
      have go : f = 0 ∨ M 55 i ≠ 0 → ma_wp 65 25 [(2, 0), (0, f), (0, t), (0, i)] [] mr_SH S Q := fun hc => by
        simp (disch := (first | assumption | omega | ((repeat (refine mr_FIX_up ?_ (by unfold mr_nst; omega))); assumption))) only [x65_25, s65_26, s65_27, s65_30, s65_33, s65_34, x65_37, s65_38, s65_39, x65_40, mx_t i5, mx_t v24, true_and, e54, e34 _ ho.1 ho.2]
        rw [mx_worse]
        simp only [Option.toList_some, Option.toList_none, List.cons_append, List.nil_append]
        simp (disch := (first | assumption | omega | ((repeat (refine mr_FIX_up ?_ (by unfold mr_nst; omega))); assumption))) only [x65_43, x65_44, x65_47, ma_32i]
        exact ih (i + 1) _ (by omega) (by omega) (by omega) (mw_step h0 hW hc)
      rcases hf with rfl | rfl
      · simp (disch := (first | assumption | omega | ((repeat (refine mr_FIX_up ?_ (by unfold mr_nst; omega))); assumption))) [x65_12, x65_13]
        exact go (Or.inl rfl)
      · by_cases hw : M 55 i = 0
        · simp (disch := (first | assumption | omega | ((repeat (refine mr_FIX_up ?_ (by unfold mr_nst; omega))); assumption))) [x65_12, x65_13, s65_16, s65_17, x65_20, s65_21, x65_22, x65_44, x65_47, e55, hw, ma_32i]
          exact ⟨i5, ih (i + 1) t (by omega) (by omega) (by omega) (mw_skip h0 hW (fun z => by rcases z with z | z; exact absurd z (by decide); exact z hw))⟩
        · simp (disch := (first | assumption | omega | ((repeat (refine mr_FIX_up ?_ (by unfold mr_nst; omega))); assumption))) [x65_12, x65_13, s65_16, s65_17, x65_20, s65_21, x65_22, e55, hw]
          exact ⟨i5, go (Or.inr hw)⟩
theorem mw_W0 {M : ma_M} {V : Int → Int → Int} {f : Int} : mw_W M V f 0 0 := Or.inr (Or.inr ⟨rfl, fun ⟨i, a, b, _⟩ => by omega, fun ⟨i, a, b, _⟩ => by omega⟩)
theorem mx_worst {M S : ma_M} {V : Int → Int → Int} (hF : mr_FIX S) (hO0 : 0 ≤ M 0 11) (hO : M 0 11 ≤ 5) (hN : M 1 0 ≤ 24) (hout : ∀ i, 0 ≤ i → i < M 0 11 → 0 ≤ M 54 i ∧ M 54 i < M 1 0) (e11 : S 0 11 = M 0 11) (e54 : ∀ i, S 54 i = M 54 i) (e55 : ∀ i, S 55 i = M 55 i) (e34 : ∀ u, 0 ≤ u → u < M 1 0 → S 34 u = mx_st V u) {f : Int} (hf : f = 0 ∨ f = 1) {Q : Option ma_V → ma_S → ma_M → Prop} (cont : ∀ t, mw_W M V f t (M 0 11) → Q (some (0, t)) mr_SH S) : mr_do 65 [(2, 0), (0, f)] mr_SH S Q := by
  simp (disch := (first | assumption | omega | ((repeat (refine mr_FIX_up ?_ (by unfold mr_nst; omega))); assumption))) only [x65, x65_0, x65_1, x65_2, x65_3]
  exact mx_worstl hF hO hN hout e11 e54 e55 e34 hf cont ((M 0 11).toNat + 1) 0 0 (by omega) (by omega) hO0 mw_W0
theorem mw_W_u {M : ma_M} {V : Int → Int → Int} {f t t' n : Int} (h : mw_W M V f t n) (h' : mw_W M V f t' n) : t = t' := by
  rcases h with ⟨a, b⟩ | ⟨a, b, c⟩ | ⟨a, b, c⟩ <;> rcases h' with ⟨a', b'⟩ | ⟨a', b', c'⟩ | ⟨a', b', c'⟩
  · rw [a, a']
  · exact absurd b b'
  · exact absurd b b'
  · exact absurd b' b
  · rw [a, a']
  · exact absurd c c'
  · exact absurd b' b
  · exact absurd c' c
  · rw [a, a']
theorem mw_W_sm {M : ma_M} {V : Int → Int → Int} {f n : Int} (h : mw_W M V f 0 n) : ∀ i, 0 ≤ i → i < n → (f = 0 ∨ M 55 i ≠ 0) → mx_st V (M 54 i) = 0 := fun i i0 i1 hc => by
  rcases h with ⟨a, _⟩ | ⟨a, _⟩ | ⟨_, b, c⟩
  · exact absurd a (by decide)
  · exact absurd a (by decide)
  · rcases mx_st3 V (M 54 i) with z | z | z
    · exact absurd ⟨i, i0, i1, hc, z⟩ b
    · exact absurd ⟨i, i0, i1, hc, z⟩ c
    · exact z
theorem mx_st0 {V : Int → Int → Int} {u : Int} (h : mx_st V u = 0) (h9 : V u 9 = 0 ∨ V u 9 = 1) (h10 : V u 10 = 0 ∨ V u 10 = 1) : V u 9 = 0 ∧ V u 10 = 0 := by
  unfold mx_st at h
  rcases h9 with a | a
  · rcases h10 with b | b
    · exact ⟨a, b⟩
    · rw [a, b] at h; exact absurd h (by decide)
  · rw [a, if_pos rfl] at h; exact absurd h (by decide)
