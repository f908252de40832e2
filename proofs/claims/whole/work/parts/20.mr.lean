def mr_do (k : Nat) (args : List ma_V) (sh : ma_S) (M : ma_M) (Q : Option ma_V → ma_S → ma_M → Prop) : Prop := ∃ (r : Option ma_V) (sh' : ma_S) (M' : ma_M), ma_run k args sh M r sh' M' ∧ Q r sh' M'
theorem mr_do_wp {k : Nat} {args al : List ma_V} {sh : ma_S} {M : ma_M} {Q : Option ma_V → ma_S → ma_M → Prop} (h : ma_en args (ma_mL k) = al) : mr_do k args sh M Q ↔ ma_wp k 0 al [] sh M Q := by
  subst h
  constructor
  · rintro ⟨r, sh', M', ⟨n, h⟩, hq⟩
    exact ⟨n, r, sh', M', h, hq⟩
  · rintro ⟨n, r, sh', M', h, hq⟩
    exact ⟨r, sh', M', ⟨n, h⟩, hq⟩
theorem ma_wp_mono {k pc : Nat} {al st : List ma_V} {sh : ma_S} {M : ma_M} {Q Q' : Option ma_V → ma_S → ma_M → Prop} (h : ma_wp k pc al st sh M Q) (hq : ∀ r sh' M', Q r sh' M' → Q' r sh' M') : ma_wp k pc al st sh M Q' := by
  obtain ⟨n, r, sh', M', h1, h2⟩ := h
  exact ⟨n, r, sh', M', h1, hq _ _ _ h2⟩
theorem mr_do_mono {k : Nat} {args : List ma_V} {sh : ma_S} {M : ma_M} {Q Q' : Option ma_V → ma_S → ma_M → Prop} (h : mr_do k args sh M Q) (hq : ∀ r sh' M', Q r sh' M' → Q' r sh' M') : mr_do k args sh M Q' := by
  obtain ⟨r, sh', M', h1, h2⟩ := h
  exact ⟨r, sh', M', h1, hq _ _ _ h2⟩
section MR
variable {mid pc len : Nat} {ins : Instr} {lk : List Int} {al al' st st' : List ma_V} {sh sh' : ma_S} {M M' : ma_M} {Q : Option ma_V → ma_S → ma_M → Prop}
theorem mr_ld {i : Nat} {x : Int} (hl : ma_lk mid pc = some (ins, len, lk)) (hs : ma_s1 ins lk al st = ma_ld al i 2 st) (hi : al[i]? = some (2, x)) (h2 : ma_s2 ins pc len st = none) (h3 : ma_s3 ins lk st sh M = none) (h4 : ma_s4 mid ins st = none) (h5 : ma_s5 ins lk st sh = none) : ma_wp mid pc al st sh M Q ↔ x ≠ -1 ∧ ma_wp mid (pc + len) al ((2, x) :: st) sh M Q := by
  refine ma_wp1c hl (hs.trans ?_) h2 h3 h4 h5
  unfold ma_ld
  simp [hi]
theorem mr_if {cd : Prop} [Decidable cd] {pa pb : Nat} (hl : ma_lk mid pc = some (ins, len, lk)) (h1 : ma_s1 ins lk al st = none) (h : ma_s2 ins pc len st = some (if decide cd = true then pa else pb, st')) : ma_wp mid pc al st sh M Q ↔ (cd → ma_wp mid pa al st' sh M Q) ∧ (¬ cd → ma_wp mid pb al st' sh M Q) := by
  rw [ma_wp2 hl h1 h]
  by_cases hc : cd
  · rw [if_pos (decide_eq_true hc)]
    exact ⟨fun x => ⟨fun _ => x, fun z => absurd hc z⟩, fun x => x.1 hc⟩
  · rw [if_neg (fun z => hc (of_decide_eq_true z))]
    exact ⟨fun x => ⟨fun z => absurd z hc, fun _ => x⟩, fun x => x.2 hc⟩
theorem mr_call {m' : Nat} {args rest : List ma_V} (hl : ma_lk mid pc = some (ins, len, lk)) (h1 : ma_s1 ins lk al st = none) (h2 : ma_s2 ins pc len st = none) (h3 : ma_s3 ins lk st sh M = none) (h4 : ma_s4 mid ins st = none) (h5 : ma_s5 ins lk st sh = some (m', args, rest)) :
    ma_wp mid pc al st sh M Q ↔ mr_do m' args sh M (fun r sh' M' => ma_wp mid (pc + len) al (r.toList ++ rest) sh' M' Q) := ma_wp5 hl h1 h2 h3 h4 h5
theorem mr_callc {cd : Prop} [Decidable cd] {m' : Nat} {args rest : List ma_V} (hl : ma_lk mid pc = some (ins, len, lk)) (h1 : ma_s1 ins lk al st = none) (h2 : ma_s2 ins pc len st = none) (h3 : ma_s3 ins lk st sh M = none) (h4 : ma_s4 mid ins st = none) (h5 : ma_s5 ins lk st sh = if cd then some (m', args, rest) else none) :
    ma_wp mid pc al st sh M Q ↔ cd ∧ mr_do m' args sh M (fun r sh' M' => ma_wp mid (pc + len) al (r.toList ++ rest) sh' M' Q) := ma_wp5c hl h1 h2 h3 h4 h5
end MR
