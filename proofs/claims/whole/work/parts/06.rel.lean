theorem ma_32r (x : Int) : -2147483648 ≤ ma_32 x ∧ ma_32 x ≤ 2147483647 := by
  unfold ma_32 Int.bmod
  dsimp only
  split <;> omega
theorem ma_64r (x : Int) : -9223372036854775808 ≤ ma_64 x ∧ ma_64 x ≤ 9223372036854775807 := by
  unfold ma_64 Int.bmod
  dsimp only
  split <;> omega
theorem ma_32i {x : Int} (h1 : -2147483648 ≤ x) (h2 : x ≤ 2147483647) : ma_32 x = x := by
  unfold ma_32 Int.bmod
  dsimp only
  split <;> omega
theorem ma_64i {x : Int} (h1 : -9223372036854775808 ≤ x) (h2 : x ≤ 9223372036854775807) : ma_64 x = x := by
  unfold ma_64 Int.bmod
  dsimp only
  split <;> omega
theorem ma_t32 {x : Int} (h1 : -2147483648 ≤ x) (h2 : x ≤ 2147483647) : (Int32.ofInt x).toInt = x := by
  rw [Int32.toInt_ofInt]
  exact ma_32i h1 h2
theorem ma_t64 {x : Int} (h1 : -9223372036854775808 ≤ x) (h2 : x ≤ 9223372036854775807) : (Int64.ofInt x).toInt = x := by
  rw [Int64.toInt_ofInt]
  exact ma_64i h1 h2
theorem ma_o32 (x : Int) : Int32.ofInt (ma_32 x) = Int32.ofInt x := by
  apply Int32.toInt_inj.mp
  rw [Int32.toInt_ofInt, Int32.toInt_ofInt]
  exact Int.bmod_bmod
theorem ma_o64 (x : Int) : Int64.ofInt (ma_64 x) = Int64.ofInt x := by
  apply Int64.toInt_inj.mp
  rw [Int64.toInt_ofInt, Int64.toInt_ofInt]
  exact Int.bmod_bmod
theorem ma_r32 (x : Int32) : -2147483648 ≤ x.toInt ∧ x.toInt ≤ 2147483647 := by
  have h := ma_32r x.toInt
  have e : ma_32 x.toInt = x.toInt := by
    have h2 := congrArg Int32.toInt (Int32.ofInt_toInt x)
    rw [Int32.toInt_ofInt] at h2
    exact h2
  rw [e] at h
  exact h
theorem ma_r64 (x : Int64) : -9223372036854775808 ≤ x.toInt ∧ x.toInt ≤ 9223372036854775807 := by
  have h := ma_64r x.toInt
  have e : ma_64 x.toInt = x.toInt := by
    have h2 := congrArg Int64.toInt (Int64.ofInt_toInt x)
    rw [Int64.toInt_ofInt] at h2
    exact h2
  rw [e] at h
  exact h
def ma_tv (ad : Int → Nat) (v : ma_V) : Value := if v.1 = 0 then .int (Int32.ofInt v.2) else if v.1 = 1 then .long (Int64.ofInt v.2) else if v.2 = -1 then .null else .ref (ad v.2)
theorem ma_tv0 (ad : Int → Nat) (x : Int) : ma_tv ad (0, x) = .int (Int32.ofInt x) := rfl
theorem ma_tv1 (ad : Int → Nat) (x : Int) : ma_tv ad (1, x) = .long (Int64.ofInt x) := rfl
theorem ma_tv2 (ad : Int → Nat) {x : Int} (h : x ≠ -1) : ma_tv ad (2, x) = .ref (ad x) := by
  show (if x = -1 then Value.null else .ref (ad x)) = _
  rw [if_neg h]
def ma_ok (n : Nat) (v : ma_V) : Prop := (v.1 = 0 ∧ -2147483648 ≤ v.2 ∧ v.2 ≤ 2147483647) ∨ (v.1 = 1 ∧ -9223372036854775808 ≤ v.2 ∧ v.2 ≤ 9223372036854775807) ∨ (v.1 = 2 ∧ -2 ≤ v.2 ∧ v.2 < n)
theorem ma_ok0 {n : Nat} {x : Int} (h : ma_ok n (0, x)) : -2147483648 ≤ x ∧ x ≤ 2147483647 := by
  rcases h with ⟨-, h⟩ | ⟨h, -⟩ | ⟨h, -⟩
  · exact h
  · exact absurd (show (0 : Nat) = 1 from h) (by decide)
  · exact absurd (show (0 : Nat) = 2 from h) (by decide)
theorem ma_ok1 {n : Nat} {x : Int} (h : ma_ok n (1, x)) : -9223372036854775808 ≤ x ∧ x ≤ 9223372036854775807 := by
  rcases h with ⟨h, -⟩ | ⟨-, h⟩ | ⟨h, -⟩
  · exact absurd (show (1 : Nat) = 0 from h) (by decide)
  · exact h
  · exact absurd (show (1 : Nat) = 2 from h) (by decide)
theorem ma_ok2 {n : Nat} {x : Int} (h : ma_ok n (2, x)) : -2 ≤ x ∧ x < n := by
  rcases h with ⟨h, -⟩ | ⟨h, -⟩ | ⟨-, h⟩
  · exact absurd (show (2 : Nat) = 0 from h) (by decide)
  · exact absurd (show (2 : Nat) = 1 from h) (by decide)
  · exact h
theorem ma_i0 {n : Nat} {x : Int} (h : -2147483648 ≤ x ∧ x ≤ 2147483647) : ma_ok n (0, x) := Or.inl ⟨rfl, h⟩
theorem ma_i1 {n : Nat} {x : Int} (h : -9223372036854775808 ≤ x ∧ x ≤ 9223372036854775807) : ma_ok n (1, x) := Or.inr (Or.inl ⟨rfl, h⟩)
theorem ma_i2 {n : Nat} {x : Int} (h : -2 ≤ x ∧ x < n) : ma_ok n (2, x) := Or.inr (Or.inr ⟨rfl, h⟩)
theorem ma_ok_le {n k : Nat} (hk : n ≤ k) {v : ma_V} (h : ma_ok n v) : ma_ok k v := by
  rcases h with h | h | h
  · exact Or.inl h
  · exact Or.inr (Or.inl h)
  · exact Or.inr (Or.inr ⟨h.1, h.2.1, by have := h.2.2; omega⟩)
theorem ma_ok_t {n : Nat} {v : ma_V} (h : ma_ok n v) : v.1 = 0 ∨ v.1 = 1 ∨ v.1 = 2 := by
  rcases h with h | h | h
  · exact Or.inl h.1
  · exact Or.inr (Or.inl h.1)
  · exact Or.inr (Or.inr h.1)
theorem ma_cat1 {ad : Int → Nat} {v : ma_V} (h : v.1 ≠ 1) : (ma_tv ad v).category = 1 := by
  unfold ma_tv
  split
  · rfl
  · split <;> rfl
theorem ma_cat2 {ad : Int → Nat} {v : ma_V} (h : (ma_tv ad v).category = 2) : v.1 = 1 := by
  by_cases h1 : v.1 = 1
  · exact h1
  · rw [ma_cat1 h1] at h
    exact absurd h (by decide)
theorem ma_tv_eq {n : Nat} {ad ad' : Int → Nat} {v : ma_V} (h : ma_ok n v) (ha : ∀ r : Int, r < n → ad' r = ad r) : ma_tv ad' v = ma_tv ad v := by
  unfold ma_tv
  rcases h with h | h | h
  · rw [if_pos h.1, if_pos h.1]
  · rw [if_neg (by omega), if_pos h.1, if_neg (by omega), if_pos h.1]
  · rw [ha v.2 h.2.2]
def ma_oks (n : Nat) (st : List ma_V) : Prop := ∀ v ∈ st, ma_ok n v
def ma_okl (n : Nat) (al : List ma_V) : Prop := ∀ v ∈ al, v.1 = 3 ∨ ma_ok n v
theorem ma_oks_c {n : Nat} {v : ma_V} {st : List ma_V} (h : ma_ok n v) (hs : ma_oks n st) : ma_oks n (v :: st) := by
  intro w hw
  rcases List.mem_cons.mp hw with rfl | hw
  · exact h
  · exact hs w hw
theorem ma_oks_h {n : Nat} {v : ma_V} {st : List ma_V} (h : ma_oks n (v :: st)) : ma_ok n v := h v List.mem_cons_self
theorem ma_oks_t {n : Nat} {v : ma_V} {st : List ma_V} (h : ma_oks n (v :: st)) : ma_oks n st := fun w hw => h w (List.mem_cons_of_mem _ hw)
theorem ma_map_eq {n : Nat} {ad ad' : Int → Nat} {st : List ma_V} (h : ma_oks n st) (ha : ∀ r : Int, r < n → ad' r = ad r) : st.map (ma_tv ad') = st.map (ma_tv ad) := List.map_congr_left fun v hv => ma_tv_eq (h v hv) ha
/-! the slots of a frame -/
def ma_lv (ad : Int → Nat) (al : List ma_V) : List (Nat × Value) := (List.range al.length).filterMap (fun i => match al[i]? with
  | some v => if v.1 ≤ 2 then some (i, ma_tv ad v) else none
  | none => none)
theorem ma_lv_mem {ad : Int → Nat} {al : List ma_V} {q : Nat × Value} : q ∈ ma_lv ad al ↔ ∃ w, al[q.1]? = some w ∧ w.1 ≤ 2 ∧ q.2 = ma_tv ad w := by
  unfold ma_lv
  rw [List.mem_filterMap]
  constructor
  · rintro ⟨i, -, h⟩
    cases hi : al[i]? with
    | none => rw [hi] at h; cases h
    | some w =>
      rw [hi] at h
      by_cases hw : w.1 ≤ 2
      · simp only [hw, if_true] at h
        cases h
        exact ⟨w, hi, hw, rfl⟩
      · simp only [hw, if_false] at h
        cases h
  · rintro ⟨w, h1, h2, h3⟩
    refine ⟨q.1, List.mem_range.mpr (List.getElem?_eq_some_iff.mp h1).1, ?_⟩
    simp only [h1, h2, if_true]
    rw [← h3]
def ma_LR (ad : Int → Nat) (ls : Array Slot) (nL : Nat) (al : List ma_V) : Prop := al.length = nL ∧ lv_has ls nL (ma_lv ad al)
theorem ma_LR_at {ad : Int → Nat} {ls : Array Slot} {nL : Nat} {al : List ma_V} (h : ma_LR ad ls nL al) {i : Nat} {v : ma_V} (hi : al[i]? = some v) (hv : v.1 ≤ 2) : ls[i]? = some (.val (ma_tv ad v)) := h.2.2.2 (i, ma_tv ad v) (ma_lv_mem.mpr ⟨v, hi, hv, rfl⟩)
theorem ma_LR_eq {n nL : Nat} {ad ad' : Int → Nat} {ls : Array Slot} {al : List ma_V} (h : ma_LR ad ls nL al) (ho : ma_okl n al) (ha : ∀ r : Int, r < n → ad' r = ad r) : ma_LR ad' ls nL al := by
  refine ⟨h.1, h.2.1, h.2.2.1, fun q hq => ?_⟩
  obtain ⟨w, h1, h2, h3⟩ := ma_lv_mem.mp hq
  rcases ho w (List.mem_of_getElem? h1) with h4 | h4
  · omega
  · rw [h3, ma_tv_eq h4 ha]
    exact ma_LR_at h h1 h2
theorem ma_clr_get {al : List ma_V} {i j : Nat} {w : ma_V} (h : (ma_clr al i)[j]? = some w) (hw : w.1 ≤ 2) : al[j]? = some w ∧ ¬ (j + 1 = i ∧ w.1 = 1) := by
  unfold ma_clr at h
  by_cases hc : 1 ≤ i ∧ (al.getD (i - 1) ma_un).1 = 1
  · rw [if_pos hc] at h
    by_cases hj : i - 1 = j
    · subst hj
      rw [List.getElem?_set_self' ] at h
      cases hq : al[i - 1]? with
      | none => rw [hq] at h; cases h
      | some z =>
        rw [hq] at h
        cases h
        exact absurd (show (3 : Nat) ≤ 2 from hw) (by decide)
    · rw [List.getElem?_set_ne hj] at h
      exact ⟨h, fun z => hj (by omega)⟩
  · rw [if_neg hc] at h
    refine ⟨h, fun z => hc ⟨by omega, ?_⟩⟩
    have e : i - 1 = j := by omega
    rw [e, List.getD_eq_getElem?_getD, h]
    exact z.2
theorem ma_clr_len (al : List ma_V) (i : Nat) : (ma_clr al i).length = al.length := by
  unfold ma_clr
  split
  · exact List.length_set
  · rfl
theorem ma_LR1 {ad : Int → Nat} {ls ls' : Array Slot} {nL i : Nat} {al : List ma_V} {v : ma_V} (h : ma_LR ad ls nL al) (h' : lv_has ls' nL ((i, ma_tv ad v) :: (ma_lv ad al).filter (fun q => !(q.1 == i) && !(q.1 + 1 == i && q.2.category == 2)))) : ma_LR ad ls' nL ((ma_clr al i).set i v) := by
  refine ⟨by rw [List.length_set, ma_clr_len]; exact h.1, h'.1, h'.2.1, fun q hq => ?_⟩
  obtain ⟨w, h1, h2, h3⟩ := ma_lv_mem.mp hq
  by_cases hi : i = q.1
  · subst hi
    rw [List.getElem?_set_self'] at h1
    cases hq2 : (ma_clr al q.1)[q.1]? with
    | none => rw [hq2] at h1; cases h1
    | some z =>
      rw [hq2] at h1
      cases h1
      rw [h3]
      exact h'.2.2 (q.1, ma_tv ad v) List.mem_cons_self
  · rw [List.getElem?_set_ne hi] at h1
    obtain ⟨h4, h5⟩ := ma_clr_get h1 h2
    refine h'.2.2 q (List.mem_cons_of_mem _ (List.mem_filter.mpr ⟨ma_lv_mem.mpr ⟨w, h4, h2, h3⟩, ?_⟩))
    have e1 : (q.1 == i) = false := by simp; exact fun z => hi z.symm
    have e2 : (q.1 + 1 == i && q.2.category == 2) = false := by
      by_cases z1 : q.1 + 1 = i
      · have z2 : ¬ q.2.category = 2 := fun z => h5 ⟨z1, ma_cat2 (ad := ad) (by rw [← h3]; exact z)⟩
        simp [z2]
      · simp [z1]
    rw [e1, e2]
    rfl
theorem ma_LR2 {ad : Int → Nat} {ls ls' : Array Slot} {nL i : Nat} {al : List ma_V} {v : ma_V} (h : ma_LR ad ls nL al) (h' : lv_has ls' nL ((i, ma_tv ad v) :: (ma_lv ad al).filter (fun q => !(q.1 == i) && (!(q.1 == i + 1) && !(q.1 + 1 == i && q.2.category == 2))))) : ma_LR ad ls' nL (((ma_clr al i).set i v).set (i + 1) ma_un) := by
  refine ⟨by rw [List.length_set, List.length_set, ma_clr_len]; exact h.1, h'.1, h'.2.1, fun q hq => ?_⟩
  obtain ⟨w, h1, h2, h3⟩ := ma_lv_mem.mp hq
  by_cases hi1 : i + 1 = q.1
  · rw [hi1, List.getElem?_set_self'] at h1
    cases hq2 : ((ma_clr al i).set i v)[q.1]? with
    | none => rw [hq2] at h1; cases h1
    | some z =>
      rw [hq2] at h1
      cases h1
      exact absurd (show (3 : Nat) ≤ 2 from h2) (by decide)
  · rw [List.getElem?_set_ne hi1] at h1
    by_cases hi : i = q.1
    · subst hi
      rw [List.getElem?_set_self'] at h1
      cases hq2 : (ma_clr al q.1)[q.1]? with
      | none => rw [hq2] at h1; cases h1
      | some z =>
        rw [hq2] at h1
        cases h1
        rw [h3]
        exact h'.2.2 (q.1, ma_tv ad v) List.mem_cons_self
    · rw [List.getElem?_set_ne hi] at h1
      obtain ⟨h4, h5⟩ := ma_clr_get h1 h2
      refine h'.2.2 q (List.mem_cons_of_mem _ (List.mem_filter.mpr ⟨ma_lv_mem.mpr ⟨w, h4, h2, h3⟩, ?_⟩))
      have e1 : (q.1 == i) = false := by simp; exact fun z => hi z.symm
      have e0 : (q.1 == i + 1) = false := by simp; exact fun z => hi1 z.symm
      have e2 : (q.1 + 1 == i && q.2.category == 2) = false := by
        by_cases z1 : q.1 + 1 = i
        · have z2 : ¬ q.2.category = 2 := fun z => h5 ⟨z1, ma_cat2 (ad := ad) (by rw [← h3]; exact z)⟩
          simp [z2]
        · simp [z1]
      rw [e1, e0, e2]
      rfl
theorem ma_set_ok {n i : Nat} {al : List ma_V} {v : ma_V} (h : ma_okl n al) (hv : v.1 = 3 ∨ ma_ok n v) : ma_okl n (al.set i v) := by
  intro w hw
  rcases List.mem_or_eq_of_mem_set hw with hw | rfl
  · exact h w hw
  · exact hv
theorem ma_clr_ok {n i : Nat} {al : List ma_V} (h : ma_okl n al) : ma_okl n (ma_clr al i) := by
  unfold ma_clr
  split
  · exact ma_set_ok h (Or.inl rfl)
  · exact h
/-! what the groups of instructions ask -/
theorem ma_ps_i {al st al' st' : List ma_V} {t : Nat} {v lo hi : Int} (h : ma_ps al st t v lo hi = some (al', st')) : (lo ≤ v ∧ v ≤ hi) ∧ al = al' ∧ (t, v) :: st = st' := by
  unfold ma_ps at h
  split at h
  · next hc => cases h; exact ⟨hc, rfl, rfl⟩
  · cases h
theorem ma_ld_i {al st al' st' : List ma_V} {i t : Nat} (h : ma_ld al i t st = some (al', st')) : ∃ x : Int, al[i]? = some (t, x) ∧ (t = 2 → x ≠ -1) ∧ al = al' ∧ (t, x) :: st = st' := by
  unfold ma_ld at h
  split at h
  · next v hv =>
    split at h
    · next hc =>
      cases h
      obtain ⟨a, x⟩ := v
      obtain ⟨rfl, h2⟩ := hc
      exact ⟨x, hv, h2, rfl, rfl⟩
    · cases h
  · cases h
theorem ma_sv1_i {al st al' st' : List ma_V} {i t : Nat} (h : ma_sv1 al i t st = some (al', st')) : ∃ (x : Int) (r : List ma_V), st = (t, x) :: r ∧ (t = 2 → x ≠ -1) ∧ i < al.length ∧ (ma_clr al i).set i (t, x) = al' ∧ r = st' := by
  unfold ma_sv1 at h
  split at h
  · next v r =>
    split at h
    · next hc =>
      obtain ⟨a, x⟩ := v
      obtain ⟨rfl, h2⟩ := hc
      unfold ma_st1 at h
      split at h
      · next hi => cases h; exact ⟨x, _, rfl, h2, hi, rfl, rfl⟩
      · cases h
    · cases h
  · cases h
theorem ma_sv2_i {al st al' st' : List ma_V} {i : Nat} (h : ma_sv2 al i st = some (al', st')) : ∃ (x : Int) (r : List ma_V), st = (1, x) :: r ∧ i + 1 < al.length ∧ ((ma_clr al i).set i (1, x)).set (i + 1) ma_un = al' ∧ r = st' := by
  unfold ma_sv2 at h
  split at h
  · next v r =>
    split at h
    · next hc =>
      obtain ⟨a, x⟩ := v
      obtain rfl : a = 1 := hc
      unfold ma_st2 at h
      split at h
      · next hi => cases h; exact ⟨x, _, rfl, hi, rfl, rfl⟩
      · cases h
    · cases h
  · cases h
theorem ma_u1_i {al st al' st' : List ma_V} {t t' : Nat} {f : Int → Int} (h : ma_u1 t t' f al st = some (al', st')) : ∃ (x : Int) (r : List ma_V), st = (t, x) :: r ∧ al = al' ∧ (t', f x) :: r = st' := by
  unfold ma_u1 at h
  split at h
  · next v r =>
    split at h
    · next hc =>
      obtain ⟨a, x⟩ := v
      obtain rfl : a = t := hc
      cases h
      exact ⟨x, r, rfl, rfl, rfl⟩
    · cases h
  · cases h
theorem ma_b2_i {al st al' st' : List ma_V} {t1 t2 t' : Nat} {f : Int → Int → Int} (h : ma_b2 t1 t2 t' f al st = some (al', st')) : ∃ (x y : Int) (r : List ma_V), st = (t2, y) :: (t1, x) :: r ∧ al = al' ∧ (t', f x y) :: r = st' := by
  unfold ma_b2 at h
  split at h
  · next v w r =>
    split at h
    · next hc =>
      obtain ⟨a, y⟩ := v
      obtain ⟨b, x⟩ := w
      obtain ⟨h1, h2⟩ := hc
      obtain rfl : b = t1 := h1
      obtain rfl : a = t2 := h2
      cases h
      exact ⟨x, y, r, rfl, rfl, rfl⟩
    · cases h
  · cases h
theorem ma_d2_i {al st al' st' : List ma_V} {t t' : Nat} {f : Int → Int → Int} (h : ma_d2 t t' f al st = some (al', st')) : ∃ (x y : Int) (r : List ma_V), st = (t, y) :: (t, x) :: r ∧ y ≠ 0 ∧ al = al' ∧ (t', f x y) :: r = st' := by
  unfold ma_d2 at h
  split at h
  · next v w r =>
    split at h
    · next hc =>
      obtain ⟨a, y⟩ := v
      obtain ⟨b, x⟩ := w
      obtain ⟨⟨h1, h2⟩, h3⟩ := hc
      obtain rfl : b = t := h1
      obtain rfl : a = b := h2
      cases h
      exact ⟨x, y, r, rfl, h3, rfl, rfl⟩
    · cases h
  · cases h
