theorem ma_bd_mono {f g : Nat → Nat → List ma_V → List ma_V → ma_S → ma_M → Option (Option ma_V × ma_S × ma_M)} (hfg : ∀ mid pc al st sh M x, f mid pc al st sh M = some x → g mid pc al st sh M = some x) {mid pc : Nat} {al st : List ma_V} {sh : ma_S} {M : ma_M} {x : Option ma_V × ma_S × ma_M} (h : ma_bd f mid pc al st sh M = some x) : ma_bd g mid pc al st sh M = some x := by
  unfold ma_bd at h ⊢
  cases hl : ma_lk mid pc with
  | none => rw [hl] at h; cases h
  | some q =>
    obtain ⟨ins, len, lk⟩ := q
    simp only [hl] at h ⊢
    cases h1 : ma_s1 ins lk al st with
    | some q =>
      obtain ⟨al', st'⟩ := q
      simp only [h1] at h ⊢
      exact hfg _ _ _ _ _ _ _ h
    | none =>
      simp only [h1] at h ⊢
      cases h2 : ma_s2 ins pc len st with
      | some q =>
        obtain ⟨pc', st'⟩ := q
        simp only [h2] at h ⊢
        exact hfg _ _ _ _ _ _ _ h
      | none =>
        simp only [h2] at h ⊢
        cases h3 : ma_s3 ins lk st sh M with
        | some q =>
          obtain ⟨st', sh', M'⟩ := q
          simp only [h3] at h ⊢
          exact hfg _ _ _ _ _ _ _ h
        | none =>
          simp only [h3] at h ⊢
          cases h4 : ma_s4 mid ins st with
          | some r => simp only [h4] at h ⊢; exact h
          | none =>
            simp only [h4] at h ⊢
            cases h5 : ma_s5 ins lk st sh with
            | none => rw [h5] at h; cases h
            | some q =>
              obtain ⟨mid', args, rest⟩ := q
              simp only [h5] at h ⊢
              cases h6 : f mid' 0 (ma_en args (ma_mL mid')) [] sh M with
              | none => rw [h6] at h; cases h
              | some q =>
                obtain ⟨r, sh', M'⟩ := q
                rw [hfg _ _ _ _ _ _ _ h6]
                simp only [h6] at h ⊢
                exact hfg _ _ _ _ _ _ _ h
theorem ma_bd_i {f : Nat → Nat → List ma_V → List ma_V → ma_S → ma_M → Option (Option ma_V × ma_S × ma_M)} {mid pc : Nat} {al st : List ma_V} {sh : ma_S} {M : ma_M} {x : Option ma_V × ma_S × ma_M} (h : ma_bd f mid pc al st sh M = some x) :
    ∃ (ins : Instr) (len : Nat) (lk : List Int), ma_lk mid pc = some (ins, len, lk) ∧ ((∃ al' st', ma_s1 ins lk al st = some (al', st') ∧ f mid (pc + len) al' st' sh M = some x) ∨ (∃ pc' st', ma_s2 ins pc len st = some (pc', st') ∧ f mid pc' al st' sh M = some x) ∨ (∃ st' sh' M', ma_s3 ins lk st sh M = some (st', sh', M') ∧ f mid (pc + len) al st' sh' M' = some x) ∨ (∃ r, ma_s4 mid ins st = some r ∧ (r, sh, M) = x)
      ∨ (∃ mid' args rest r sh' M', ma_s5 ins lk st sh = some (mid', args, rest) ∧ f mid' 0 (ma_en args (ma_mL mid')) [] sh M = some (r, sh', M') ∧ f mid (pc + len) al (r.toList ++ rest) sh' M' = some x)) := by
  unfold ma_bd at h
  cases hl : ma_lk mid pc with
  | none => rw [hl] at h; cases h
  | some q =>
    obtain ⟨ins, len, lk⟩ := q
    refine ⟨ins, len, lk, rfl, ?_⟩
    simp only [hl] at h
    cases h1 : ma_s1 ins lk al st with
    | some q =>
      obtain ⟨al', st'⟩ := q
      simp only [h1] at h
      exact Or.inl ⟨al', st', rfl, h⟩
    | none =>
      simp only [h1] at h
      cases h2 : ma_s2 ins pc len st with
      | some q =>
        obtain ⟨pc', st'⟩ := q
        simp only [h2] at h
        exact Or.inr (Or.inl ⟨pc', st', rfl, h⟩)
      | none =>
        simp only [h2] at h
        cases h3 : ma_s3 ins lk st sh M with
        | some q =>
          obtain ⟨st', sh', M'⟩ := q
          simp only [h3] at h
          exact Or.inr (Or.inr (Or.inl ⟨st', sh', M', rfl, h⟩))
        | none =>
          simp only [h3] at h
          cases h4 : ma_s4 mid ins st with
          | some r =>
            simp only [h4] at h
            exact Or.inr (Or.inr (Or.inr (Or.inl ⟨r, rfl, Option.some.inj h⟩)))
          | none =>
            simp only [h4] at h
            cases h5 : ma_s5 ins lk st sh with
            | none => rw [h5] at h; cases h
            | some q =>
              obtain ⟨mid', args, rest⟩ := q
              simp only [h5] at h
              cases h6 : f mid' 0 (ma_en args (ma_mL mid')) [] sh M with
              | none => rw [h6] at h; cases h
              | some q =>
                obtain ⟨r, sh', M'⟩ := q
                simp only [h6] at h
                exact Or.inr (Or.inr (Or.inr (Or.inr ⟨mid', args, rest, r, sh', M', rfl, h6, h⟩)))
theorem ma_mono1 : ∀ (n mid pc : Nat) (al st : List ma_V) (sh : ma_S) (M : ma_M) (x : Option ma_V × ma_S × ma_M), ma_ex n mid pc al st sh M = some x → ma_ex (n + 1) mid pc al st sh M = some x
  | 0, _, _, _, _, _, _, _, h => by cases h
  | n + 1, _, _, _, _, _, _, _, h => ma_bd_mono (ma_mono1 n) h
theorem ma_mono {n k mid pc : Nat} {al st : List ma_V} {sh : ma_S} {M : ma_M} {x : Option ma_V × ma_S × ma_M} (hk : n ≤ k) (h : ma_ex n mid pc al st sh M = some x) : ma_ex k mid pc al st sh M = some x := by
  induction k with
  | zero =>
    obtain rfl : n = 0 := by omega
    exact h
  | succ k ih =>
    by_cases hn : n = k + 1
    · subst hn; exact h
    · exact ma_mono1 k _ _ _ _ _ _ _ (ih (by omega))
def ma_wp (mid pc : Nat) (al st : List ma_V) (sh : ma_S) (M : ma_M) (Q : Option ma_V → ma_S → ma_M → Prop) : Prop := ∃ (n : Nat) (r : Option ma_V) (sh' : ma_S) (M' : ma_M), ma_ex n mid pc al st sh M = some (r, sh', M') ∧ Q r sh' M'
def ma_run (mid : Nat) (args : List ma_V) (sh : ma_S) (M : ma_M) (r : Option ma_V) (sh' : ma_S) (M' : ma_M) : Prop := ∃ n : Nat, ma_ex n mid 0 (ma_en args (ma_mL mid)) [] sh M = some (r, sh', M')
section WP
variable {mid pc len : Nat} {ins : Instr} {lk : List Int} {al al' st st' : List ma_V} {sh sh' : ma_S} {M M' : ma_M} {Q : Option ma_V → ma_S → ma_M → Prop}
theorem ma_ex1 (n : Nat) (hl : ma_lk mid pc = some (ins, len, lk)) (h : ma_s1 ins lk al st = some (al', st')) : ma_ex (n + 1) mid pc al st sh M = ma_ex n mid (pc + len) al' st' sh M := by
  show ma_bd (ma_ex n) mid pc al st sh M = _
  unfold ma_bd
  simp only [hl, h]
theorem ma_ex2 (n : Nat) {pc' : Nat} (hl : ma_lk mid pc = some (ins, len, lk)) (h1 : ma_s1 ins lk al st = none) (h : ma_s2 ins pc len st = some (pc', st')) : ma_ex (n + 1) mid pc al st sh M = ma_ex n mid pc' al st' sh M := by
  show ma_bd (ma_ex n) mid pc al st sh M = _
  unfold ma_bd
  simp only [hl, h1, h]
theorem ma_ex3 (n : Nat) (hl : ma_lk mid pc = some (ins, len, lk)) (h1 : ma_s1 ins lk al st = none) (h2 : ma_s2 ins pc len st = none) (h : ma_s3 ins lk st sh M = some (st', sh', M')) : ma_ex (n + 1) mid pc al st sh M = ma_ex n mid (pc + len) al st' sh' M' := by
  show ma_bd (ma_ex n) mid pc al st sh M = _
  unfold ma_bd
  simp only [hl, h1, h2, h]
theorem ma_ex4 (n : Nat) {r : Option ma_V} (hl : ma_lk mid pc = some (ins, len, lk)) (h1 : ma_s1 ins lk al st = none) (h2 : ma_s2 ins pc len st = none) (h3 : ma_s3 ins lk st sh M = none) (h : ma_s4 mid ins st = some r) : ma_ex (n + 1) mid pc al st sh M = some (r, sh, M) := by
  show ma_bd (ma_ex n) mid pc al st sh M = _
  unfold ma_bd
  simp only [hl, h1, h2, h3, h]
theorem ma_exN (n : Nat) (hl : ma_lk mid pc = some (ins, len, lk)) (h1 : ma_s1 ins lk al st = none) (h2 : ma_s2 ins pc len st = none) (h3 : ma_s3 ins lk st sh M = none) (h4 : ma_s4 mid ins st = none) (h5 : ma_s5 ins lk st sh = none) : ma_ex n mid pc al st sh M = none := by
  cases n with
  | zero => rfl
  | succ n =>
    show ma_bd (ma_ex n) mid pc al st sh M = _
    unfold ma_bd
    simp only [hl, h1, h2, h3, h4, h5]
theorem ma_ex5 (n : Nat) {mid' : Nat} {args rest : List ma_V} (hl : ma_lk mid pc = some (ins, len, lk)) (h1 : ma_s1 ins lk al st = none) (h2 : ma_s2 ins pc len st = none) (h3 : ma_s3 ins lk st sh M = none) (h4 : ma_s4 mid ins st = none) (h5 : ma_s5 ins lk st sh = some (mid', args, rest)) :
    ma_ex (n + 1) mid pc al st sh M = match ma_ex n mid' 0 (ma_en args (ma_mL mid')) [] sh M with
      | some (r, sh', M') => ma_ex n mid (pc + len) al (r.toList ++ rest) sh' M'
      | none => none := by
  show ma_bd (ma_ex n) mid pc al st sh M = _
  unfold ma_bd
  simp only [hl, h1, h2, h3, h4, h5]
  cases ma_ex n mid' 0 (ma_en args (ma_mL mid')) [] sh M <;> rfl
theorem ma_wpS {mid2 pc2 : Nat} {al2 st2 : List ma_V} {sh2 : ma_S} {M2 : ma_M} (h : ∀ n, ma_ex (n + 1) mid pc al st sh M = ma_ex n mid2 pc2 al2 st2 sh2 M2) : ma_wp mid pc al st sh M Q ↔ ma_wp mid2 pc2 al2 st2 sh2 M2 Q := by
  constructor
  · rintro ⟨n, r, s1, m1, he, hq⟩
    cases n with
    | zero => cases he
    | succ n => rw [h n] at he; exact ⟨n, r, s1, m1, he, hq⟩
  · rintro ⟨n, r, s1, m1, he, hq⟩
    exact ⟨n + 1, r, s1, m1, by rw [h n]; exact he, hq⟩
theorem ma_wp1 (hl : ma_lk mid pc = some (ins, len, lk)) (h : ma_s1 ins lk al st = some (al', st')) : ma_wp mid pc al st sh M Q ↔ ma_wp mid (pc + len) al' st' sh M Q := ma_wpS (fun n => ma_ex1 n hl h)
theorem ma_wpN (hl : ma_lk mid pc = some (ins, len, lk)) (h1 : ma_s1 ins lk al st = none) (h2 : ma_s2 ins pc len st = none) (h3 : ma_s3 ins lk st sh M = none) (h4 : ma_s4 mid ins st = none) (h5 : ma_s5 ins lk st sh = none) : ¬ ma_wp mid pc al st sh M Q := by
  rintro ⟨n, r, s1, m1, he, hq⟩
  rw [ma_exN n hl h1 h2 h3 h4 h5] at he
  cases he
theorem ma_wp1c {cd : Prop} [Decidable cd] (hl : ma_lk mid pc = some (ins, len, lk)) (h : ma_s1 ins lk al st = if cd then some (al', st') else none) (h2 : ma_s2 ins pc len st = none) (h3 : ma_s3 ins lk st sh M = none) (h4 : ma_s4 mid ins st = none) (h5 : ma_s5 ins lk st sh = none) : ma_wp mid pc al st sh M Q ↔ cd ∧ ma_wp mid (pc + len) al' st' sh M Q := by
  by_cases hc : cd
  · rw [if_pos hc] at h
    rw [ma_wp1 hl h]
    exact ⟨fun x => ⟨hc, x⟩, fun x => x.2⟩
  · rw [if_neg hc] at h
    exact ⟨fun x => absurd x (ma_wpN hl h h2 h3 h4 h5), fun x => absurd x.1 hc⟩
theorem ma_wp2 {pc' : Nat} (hl : ma_lk mid pc = some (ins, len, lk)) (h1 : ma_s1 ins lk al st = none) (h : ma_s2 ins pc len st = some (pc', st')) : ma_wp mid pc al st sh M Q ↔ ma_wp mid pc' al st' sh M Q := ma_wpS (fun n => ma_ex2 n hl h1 h)
theorem ma_wp2c {cd : Prop} [Decidable cd] {pa pb : Nat} (hl : ma_lk mid pc = some (ins, len, lk)) (h1 : ma_s1 ins lk al st = none) (h : ma_s2 ins pc len st = some (if cd then pa else pb, st')) : ma_wp mid pc al st sh M Q ↔ (cd → ma_wp mid pa al st' sh M Q) ∧ (¬ cd → ma_wp mid pb al st' sh M Q) := by
  rw [ma_wp2 hl h1 h]
  by_cases hc : cd
  · rw [if_pos hc]
    exact ⟨fun x => ⟨fun _ => x, fun z => absurd hc z⟩, fun x => x.1 hc⟩
  · rw [if_neg hc]
    exact ⟨fun x => ⟨fun z => absurd z hc, fun _ => x⟩, fun x => x.2 hc⟩
theorem ma_wp3 (hl : ma_lk mid pc = some (ins, len, lk)) (h1 : ma_s1 ins lk al st = none) (h2 : ma_s2 ins pc len st = none) (h : ma_s3 ins lk st sh M = some (st', sh', M')) : ma_wp mid pc al st sh M Q ↔ ma_wp mid (pc + len) al st' sh' M' Q := ma_wpS (fun n => ma_ex3 n hl h1 h2 h)
theorem ma_wp3c {cd : Prop} [Decidable cd] (hl : ma_lk mid pc = some (ins, len, lk)) (h1 : ma_s1 ins lk al st = none) (h2 : ma_s2 ins pc len st = none) (h4 : ma_s4 mid ins st = none) (h5 : ma_s5 ins lk st sh = none) (h : ma_s3 ins lk st sh M = if cd then some (st', sh', M') else none) : ma_wp mid pc al st sh M Q ↔ cd ∧ ma_wp mid (pc + len) al st' sh' M' Q := by
  by_cases hc : cd
  · rw [if_pos hc] at h
    rw [ma_wp3 hl h1 h2 h]
    exact ⟨fun x => ⟨hc, x⟩, fun x => x.2⟩
  · rw [if_neg hc] at h
    exact ⟨fun x => absurd x (ma_wpN hl h1 h2 h h4 h5), fun x => absurd x.1 hc⟩
theorem ma_wp4 {r : Option ma_V} (hl : ma_lk mid pc = some (ins, len, lk)) (h1 : ma_s1 ins lk al st = none) (h2 : ma_s2 ins pc len st = none) (h3 : ma_s3 ins lk st sh M = none) (h : ma_s4 mid ins st = some r) : ma_wp mid pc al st sh M Q ↔ Q r sh M := by
  constructor
  · rintro ⟨n, r, s1, m1, he, hq⟩
    cases n with
    | zero => cases he
    | succ n =>
      rw [ma_ex4 n hl h1 h2 h3 h] at he
      cases he
      exact hq
  · intro hq
    exact ⟨1, r, sh, M, ma_ex4 0 hl h1 h2 h3 h, hq⟩
theorem ma_wp4c {cd : Prop} [Decidable cd] {r : Option ma_V} (hl : ma_lk mid pc = some (ins, len, lk)) (h1 : ma_s1 ins lk al st = none) (h2 : ma_s2 ins pc len st = none) (h3 : ma_s3 ins lk st sh M = none) (h : ma_s4 mid ins st = if cd then some r else none) (h5 : ma_s5 ins lk st sh = none) : ma_wp mid pc al st sh M Q ↔ cd ∧ Q r sh M := by
  by_cases hc : cd
  · rw [if_pos hc] at h
    rw [ma_wp4 hl h1 h2 h3 h]
    exact ⟨fun x => ⟨hc, x⟩, fun x => x.2⟩
  · rw [if_neg hc] at h
    exact ⟨fun x => absurd x (ma_wpN hl h1 h2 h3 h h5), fun x => absurd x.1 hc⟩
theorem ma_wp5 {mid' : Nat} {args rest : List ma_V} (hl : ma_lk mid pc = some (ins, len, lk)) (h1 : ma_s1 ins lk al st = none) (h2 : ma_s2 ins pc len st = none) (h3 : ma_s3 ins lk st sh M = none) (h4 : ma_s4 mid ins st = none) (h5 : ma_s5 ins lk st sh = some (mid', args, rest)) :
    ma_wp mid pc al st sh M Q ↔ ∃ (r : Option ma_V) (sh' : ma_S) (M' : ma_M), ma_run mid' args sh M r sh' M' ∧ ma_wp mid (pc + len) al (r.toList ++ rest) sh' M' Q := by
  constructor
  · rintro ⟨n, r, s1, m1, he, hq⟩
    cases n with
    | zero => cases he
    | succ n =>
      rw [ma_ex5 n hl h1 h2 h3 h4 h5] at he
      cases h6 : ma_ex n mid' 0 (ma_en args (ma_mL mid')) [] sh M with
      | none => rw [h6] at he; cases he
      | some q =>
        obtain ⟨r', s2, m2⟩ := q
        rw [h6] at he
        exact ⟨r', s2, m2, ⟨n, h6⟩, n, r, s1, m1, he, hq⟩
  · rintro ⟨r', s2, m2, ⟨n1, h6⟩, n2, r, s1, m1, he, hq⟩
    refine ⟨max n1 n2 + 1, r, s1, m1, ?_, hq⟩
    rw [ma_ex5 _ hl h1 h2 h3 h4 h5, ma_mono (Nat.le_max_left n1 n2) h6]
    exact ma_mono (Nat.le_max_right n1 n2) he
theorem ma_wp5c {cd : Prop} [Decidable cd] {mid' : Nat} {args rest : List ma_V} (hl : ma_lk mid pc = some (ins, len, lk)) (h1 : ma_s1 ins lk al st = none) (h2 : ma_s2 ins pc len st = none) (h3 : ma_s3 ins lk st sh M = none) (h4 : ma_s4 mid ins st = none) (h5 : ma_s5 ins lk st sh = if cd then some (mid', args, rest) else none) :
    ma_wp mid pc al st sh M Q ↔ cd ∧ ∃ (r : Option ma_V) (sh' : ma_S) (M' : ma_M), ma_run mid' args sh M r sh' M' ∧ ma_wp mid (pc + len) al (r.toList ++ rest) sh' M' Q := by
  by_cases hc : cd
  · rw [if_pos hc] at h5
    rw [ma_wp5 hl h1 h2 h3 h4 h5]
    exact ⟨fun x => ⟨hc, x⟩, fun x => x.2⟩
  · rw [if_neg hc] at h5
    exact ⟨fun x => absurd x (ma_wpN hl h1 h2 h3 h4 h5), fun x => absurd x.1 hc⟩
end WP
