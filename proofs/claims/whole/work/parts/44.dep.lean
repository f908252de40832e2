/-! bits of reach -/
theorem mb_or {x y : Int} (hx0 : 0 ≤ x) (hx : x < 32) (hy0 : 0 ≤ y) (hy : y < 32) : (0 ≤ ma_or x y ∧ ma_or x y < 32) ∧ ∀ j : Int, 0 ≤ j → j < 5 → (ma_and (ma_shr (ma_or x y) j) 1 = 0 ↔ ma_and (ma_shr x j) 1 = 0 ∧ ma_and (ma_shr y j) 1 = 0) := by
  have h : ∀ a, a < 32 → ∀ b, b < 32 → (0 ≤ ma_or ((a : Nat) : Int) ((b : Nat) : Int) ∧ ma_or ((a : Nat) : Int) ((b : Nat) : Int) < 32) ∧ ∀ j, j < 5 → (ma_and (ma_shr (ma_or ((a : Nat) : Int) ((b : Nat) : Int)) ((j : Nat) : Int)) 1 = 0 ↔ ma_and (ma_shr ((a : Nat) : Int) ((j : Nat) : Int)) 1 = 0 ∧ ma_and (ma_shr ((b : Nat) : Int) ((j : Nat) : Int)) 1 = 0) := by decide +kernel
  have h1 := h x.toNat (by omega) y.toNat (by omega)
  rw [Int.toNat_of_nonneg hx0, Int.toNat_of_nonneg hy0] at h1
  refine ⟨h1.1, fun j hj0 hj => ?_⟩
  have h2 := h1.2 j.toNat (by omega)
  rw [Int.toNat_of_nonneg hj0] at h2
  exact h2
theorem mb_shl {d : Int} (hd0 : 0 ≤ d) (hd : d < 5) : (0 ≤ ma_shl 1 d ∧ ma_shl 1 d < 32) ∧ ∀ j : Int, 0 ≤ j → j < 5 → (ma_and (ma_shr (ma_shl 1 d) j) 1 = 0 ↔ d ≠ j) := by
  have h : ∀ a, a < 5 → (0 ≤ ma_shl 1 ((a : Nat) : Int) ∧ ma_shl 1 ((a : Nat) : Int) < 32) ∧ ∀ j, j < 5 → (ma_and (ma_shr (ma_shl 1 ((a : Nat) : Int)) ((j : Nat) : Int)) 1 = 0 ↔ ((a : Nat) : Int) ≠ ((j : Nat) : Int)) := by decide +kernel
  have h1 := h d.toNat (by omega)
  rw [Int.toNat_of_nonneg hd0] at h1
  refine ⟨h1.1, fun j hj0 hj => ?_⟩
  have h2 := h1.2 j.toNat (by omega)
  rw [Int.toNat_of_nonneg hj0] at h2
  exact h2
theorem mb_0 {j : Int} (hj0 : 0 ≤ j) (hj : j < 5) : ma_and (ma_shr 0 j) 1 = 0 := by
  have h : ∀ j, j < 5 → ma_and (ma_shr 0 ((j : Nat) : Int)) 1 = 0 := by decide +kernel
  have h1 := h j.toNat (by omega)
  rw [Int.toNat_of_nonneg hj0] at h1
  exact h1
theorem mb_rr {M : ma_M} (hI : mr_INV M) : ∀ (n : Nat) (v : Int), v.toNat < n → 0 ≤ v → v < M 1 0 → 0 ≤ M 6 v ∧ M 6 v < 32 := by
  intro n
  induction n with
  | zero => intro v h; omega
  | succ n ih =>
    intro v hn h0 hv
    have hc := hI.2.1
    unfold mr_cnt at hc
    obtain ⟨a, b, c, d, f⟩ := hI.2.2.1 v h0 hv
    by_cases k1 : M 2 v ≤ 5
    · have b := b k1
      rw [b.2.2.2.2.2.2.2]
      have h1 := ih (M 3 v) (by omega) (by omega) (by omega)
      have h2 := ih (M 4 v) (by omega) (by omega) (by omega)
      exact (mb_or h1.1 h1.2 h2.1 h2.2).1
    · by_cases k2 : M 2 v = 6
      · have c := c k2
        rw [c.2.2.2.2.2.2.2]
        split
        · omega
        · have h1 := ih (M 3 v) (by omega) (by omega) (by omega)
          have h2 := ih (M 4 v) (by omega) (by omega) (by omega)
          exact (mb_or h1.1 h1.2 h2.1 h2.2).1
      · by_cases k3 : M 2 v = 7
        · have d := d k3
          rw [d.2.2.2.2.1]
          exact (mb_shl d.2.1 (by omega)).1
        · have f := f (by omega)
          omega
theorem mb_r {M : ma_M} (hI : mr_INV M) {v : Int} (h0 : 0 ≤ v) (hv : v < M 1 0) : 0 ≤ M 6 v ∧ M 6 v < 32 := mb_rr hI (v.toNat + 1) v (by omega) h0 hv
/-- does node v depend on input j -/
theorem md_reaches {M : ma_M} (hF : mr_FIX M) {v j : Int} (h0 : 0 ≤ v) (hv : v < 24) (Q : Option ma_V → ma_S → ma_M → Prop) : mr_do 8 [(2, 1), (0, v), (0, j)] mr_SH M Q ↔ Q (some (0, if ma_and (ma_shr (M 6 v) j) 1 = 0 then 0 else 1)) mr_SH M := by
  by_cases h : ma_and (ma_shr (M 6 v) j) 1 = 0
  · simp (disch := (first | assumption | omega | ((repeat (refine mr_FIX_up ?_ (by unfold mr_nst; omega))); assumption))) [x8, s8_0, s8_1, x8_4, s8_5, x8_6, x8_7, x8_8, x8_9, x8_10, x8_13, x8_14, x8_17, x8_18, h, h0, hv]
  · simp (disch := (first | assumption | omega | ((repeat (refine mr_FIX_up ?_ (by unfold mr_nst; omega))); assumption))) [x8, s8_0, s8_1, x8_4, s8_5, x8_6, x8_7, x8_8, x8_9, x8_10, x8_13, x8_14, x8_17, x8_18, h, h0, hv]
/-! the reference's depends -/
theorem md_fr {M M1 : ma_M} (hF : mr_FIX M) {p : Int → Prop} (hfr : ∀ c k, ¬ p c → M1 c k = M c k) (hp : ∀ c, p c → 10 ≤ c ∧ c ≤ 34 ∨ c = 36 ∨ (38 ≤ c ∧ c ≤ 41) ∨ (44 ≤ c ∧ c ≤ 55) ∨ (57 ≤ c ∧ c ≤ 79) ∨ 81 ≤ c) : mr_FIX M1 := mr_FIX_eq hF (fun c i hn => hfr c i (fun hz => hn (by have := hp c hz; unfold mr_nst; omega)))
set_option maxHeartbeats 1000000 in
theorem md_l1 {M : ma_M} (hI : mr_INV M) {i j : Int} (hi0 : 0 ≤ i) (hi : i < M 0 11) {Q : Option ma_V → ma_S → ma_M → Prop} (cont : ∀ M2 : ma_M, (∀ c k, c ≠ 95 → M2 c k = M c k) → (∀ u, 0 ≤ u → u < M 1 0 → M2 95 u = if u = M 54 i then 1 else 0) → ma_wp 100 55 [(2, 80), (0, i), (0, j), (0, M 1 0)] [] mr_SH M2 Q) :
    ∀ (n : Nat) (v : Int) (M1 : ma_M), (M 1 0 - v).toNat < n → 0 ≤ v → v ≤ M 1 0 → (∀ c k, c ≠ 95 → M1 c k = M c k) → (∀ u, 0 ≤ u → u < v → M1 95 u = if u = M 54 i then 1 else 0) → ma_wp 100 20 [(2, 80), (0, i), (0, j), (0, v)] [] mr_SH M1 Q := by
  obtain ⟨hF, ⟨⟨n1, n2, n3⟩, ⟨i1, i2, i3⟩, ⟨o1, o2, o3⟩⟩, hnd, hfr, hin, hnum, hout, hmar, hsn⟩ := id hI
  have ho := hout i hi0 hi
  intro n
  induction n with
  | zero => intro v M1 h; omega
  | succ n ih =>
    intro v M1 hn h0 hv hM hm
    have hF1 : mr_FIX M1 := md_fr hF (p := fun c => c = 95) (fun c k h => hM c k h) (fun c h => by omega)
    have e1 : M1 80 0 = M 1 0 := (hM 80 0 (by omega)).trans n3
    simp (disch := (first | assumption | omega | ((repeat (refine mr_FIX_up ?_ (by unfold mr_nst; omega))); assumption))) only [x100_20, s100_21, s100_22, x100_25, e1]
    refine ⟨fun h => ?_, fun h => ?_⟩
    · obtain rfl : v = M 1 0 := by omega
      exact cont M1 hM hm
    · have e2 : M1 88 i = M 54 i := (hM 88 i (by omega)).trans ho.1
      have e3 : ma_32 (v + 1) = v + 1 := ma_32i (by omega) (by omega)
      simp (disch := (first | assumption | omega | ((repeat (refine mr_FIX_up ?_ (by unfold mr_nst; omega))); assumption))) only [s100_28, s100_29, x100_32, x100_33, s100_34, s100_35, x100_38, s100_39, x100_40, x100_43, x100_44, x100_47, s100_48, x100_49, x100_52, e2, e3]
      refine ⟨by omega, fun h1 => ⟨⟨by omega, by simp⟩, ?_⟩, fun h1 => ⟨⟨by omega, by simp⟩, ?_⟩⟩
      · refine ih (v + 1) _ (by omega) (by omega) (by omega) (fun c k hc => ?_) (fun u hu0 hu => ?_)
        · rw [ma_up_ne hc]
          exact hM c k hc
        · by_cases e : u = v
          · subst e
            rw [ma_up_s, if_neg h1]
          · rw [ma_up_ne2 e]
            exact hm u hu0 (by omega)
      · refine ih (v + 1) _ (by omega) (by omega) (by omega) (fun c k hc => ?_) (fun u hu0 hu => ?_)
        · rw [ma_up_ne hc]
          exact hM c k hc
        · by_cases e : u = v
          · subst e
            rw [ma_up_s, if_pos (by omega)]
          · rw [ma_up_ne2 e]
            exact hm u hu0 (by omega)
theorem md_logic {mk mk' : Int → Int} {P : Int → Prop} {v l r w : Int} {X : Prop} (hA : X ↔ (∃ u, 0 ≤ u ∧ u ≤ v ∧ mk u ≠ 0 ∧ P u) ∨ (v < w ∧ mk w ≠ 0)) (hv0 : 0 ≤ v) (hmk : mk v ≠ 0) (hl : 0 ≤ l ∧ l < v) (hr : 0 ≤ r ∧ r < v) (hP : P v ↔ P l ∨ P r) (hw : w ≠ v) (h1 : ∀ u, u = l ∨ u = r → mk' u = 1) (h2 : ∀ u, u ≠ l → u ≠ r → mk' u = mk u) : X ↔ (∃ u, 0 ≤ u ∧ u ≤ v - 1 ∧ mk' u ≠ 0 ∧ P u) ∨ (v - 1 < w ∧ mk' w ≠ 0) := by
  have keep : ∀ u, mk u ≠ 0 → mk' u ≠ 0 := fun u hu => by
    by_cases e1 : u = l
    · rw [h1 u (Or.inl e1)]; decide
    · by_cases e2 : u = r
      · rw [h1 u (Or.inr e2)]; decide
      · rw [h2 u e1 e2]; exact hu
  rw [hA]
  constructor
  · rintro (⟨u, a, b, c, d⟩ | ⟨a, b⟩)
    · by_cases e : u = v
      · subst e
        rcases hP.mp d with d | d
        · exact Or.inl ⟨l, by omega, by omega, by rw [h1 l (Or.inl rfl)]; decide, d⟩
        · exact Or.inl ⟨r, by omega, by omega, by rw [h1 r (Or.inr rfl)]; decide, d⟩
      · exact Or.inl ⟨u, a, by omega, keep u c, d⟩
    · exact Or.inr ⟨by omega, keep w b⟩
  · rintro (⟨u, a, b, c, d⟩ | ⟨a, b⟩)
    · by_cases e1 : u = l
      · exact Or.inl ⟨v, hv0, by omega, hmk, hP.mpr (Or.inl (e1 ▸ d))⟩
      · by_cases e2 : u = r
        · exact Or.inl ⟨v, hv0, by omega, hmk, hP.mpr (Or.inr (e2 ▸ d))⟩
        · rw [h2 u e1 e2] at c
          exact Or.inl ⟨u, a, by omega, c, d⟩
    · rw [h2 w (by omega) (by omega)] at b
      exact Or.inr ⟨by omega, b⟩
theorem md_logic0 {mk : Int → Int} {P : Int → Prop} {v w : Int} {X : Prop} (hA : X ↔ (∃ u, 0 ≤ u ∧ u ≤ v ∧ mk u ≠ 0 ∧ P u) ∨ (v < w ∧ mk w ≠ 0)) (hv0 : 0 ≤ v) (h : mk v ≠ 0 → (P v ↔ v = w)) : X ↔ (∃ u, 0 ≤ u ∧ u ≤ v - 1 ∧ mk u ≠ 0 ∧ P u) ∨ (v - 1 < w ∧ mk w ≠ 0) := by
  rw [hA]
  constructor
  · rintro (⟨u, a, b, c, d⟩ | ⟨a, b⟩)
    · by_cases e : u = v
      · subst e
        have := (h c).mp d
        exact Or.inr ⟨by omega, this ▸ c⟩
      · exact Or.inl ⟨u, a, by omega, c, d⟩
    · exact Or.inr ⟨by omega, b⟩
  · rintro (⟨u, a, b, c, d⟩ | ⟨a, b⟩)
    · exact Or.inl ⟨u, a, by omega, c, d⟩
    · by_cases e : v = w
      · subst e
        exact Or.inl ⟨v, hv0, by omega, b, (h b).mpr rfl⟩
      · exact Or.inr ⟨by omega, b⟩
def md_A (M M1 : ma_M) (i j v : Int) : Prop := (¬ ma_and (ma_shr (M 6 (M 54 i)) j) 1 = 0) ↔ (∃ u, 0 ≤ u ∧ u ≤ v ∧ M1 95 u ≠ 0 ∧ ¬ ma_and (ma_shr (M 6 u) j) 1 = 0) ∨ (v < M 7 j ∧ M1 95 (M 7 j) ≠ 0)
set_option maxHeartbeats 2000000 in
theorem md_l2 {M : ma_M} (hI : mr_INV M) {i j : Int} (hi0 : 0 ≤ i) (hi : i < M 0 11) (hj0 : 0 ≤ j) (hj : j < M 1 1) {Q : Option ma_V → ma_S → ma_M → Prop} (cont : ∀ M2 : ma_M, (∀ c k, c ≠ 95 → M2 c k = M c k) → Q (some (0, if ma_and (ma_shr (M 6 (M 54 i)) j) 1 = 0 then 0 else 1)) mr_SH M2) :
    ∀ (n : Nat) (v : Int) (M1 : ma_M), (v + 1).toNat < n → -1 ≤ v → v < M 1 0 → (∀ c k, c ≠ 95 → M1 c k = M c k) → (∀ u, 0 ≤ u → u < M 1 0 → M1 95 u = 0 ∨ M1 95 u = 1) → md_A M M1 i j v → ma_wp 100 62 [(2, 80), (0, i), (0, j), (0, v)] [] mr_SH M1 Q := by
  obtain ⟨hF, ⟨⟨n1, n2, n3⟩, ⟨i1, i2, i3⟩, ⟨o1, o2, o3⟩⟩, hnd, hfr, hin, hnum, hout, hmar, hsn⟩ := id hI
  have ho := hout i hi0 hi
  have hn7 := hin j hj0 hj
  intro n
  induction n with
  | zero => intro v M1 h; omega
  | succ n ih =>
    intro v M1 hn h0 hv hM h01 hA
    have hF1 : mr_FIX M1 := md_fr hF (p := fun c => c = 95) (fun c k h => hM c k h) (fun c h => by omega)
    simp (disch := (first | assumption | omega | ((repeat (refine mr_FIX_up ?_ (by unfold mr_nst; omega))); assumption))) only [x100_62, x100_63]
    refine ⟨fun h => ?_, fun h => ?_⟩
    · have e1 : M1 85 j = M 7 j := (hM 85 j (by omega)).trans hn7.2.2.1
      simp (disch := (first | assumption | omega | ((repeat (refine mr_FIX_up ?_ (by unfold mr_nst; omega))); assumption))) only [s100_147, s100_148, s100_151, s100_152, x100_155, s100_156, s100_157, x100_158, e1]
      refine ⟨by omega, by omega, h01 (M 7 j) hn7.1 hn7.2.1, ?_⟩
      have hc := cont M1 hM
      obtain rfl : v = -1 := by omega
      have hA2 : (¬ ma_and (ma_shr (M 6 (M 54 i)) j) 1 = 0) ↔ M1 95 (M 7 j) ≠ 0 := by
        unfold md_A at hA
        rw [hA]
        constructor
        · rintro (⟨u, a, b, -⟩ | ⟨-, a⟩)
          · omega
          · exact a
        · intro a
          exact Or.inr ⟨by omega, a⟩
      by_cases hb : ma_and (ma_shr (M 6 (M 54 i)) j) 1 = 0
      · rw [if_pos hb] at hc
        have : M1 95 (M 7 j) = 0 := by
          rcases h01 (M 7 j) hn7.1 hn7.2.1 with z | z
          · exact z
          · exact absurd hb (hA2.mpr (by rw [z]; decide))
        rw [this]
        exact hc
      · rw [if_neg hb] at hc
        have : M1 95 (M 7 j) = 1 := by
          rcases h01 (M 7 j) hn7.1 hn7.2.1 with z | z
          · exact absurd z (hA2.mp hb)
          · exact z
        rw [this]
        exact hc
    · have hv0 : 0 ≤ v := by omega
      obtain ⟨a, b, c, d, f⟩ := hnd v hv0 hv
      have e3 : ma_32 (v + (-1)) = v - 1 := by rw [ma_32i (by omega) (by omega)]; omega
      have e81 : M1 81 v = M 2 v := (hM 81 v (by omega)).trans a.1
      have e82 : M1 82 v = M 82 v := hM 82 v (by omega)
      have e83 : M1 83 v = M 83 v := hM 83 v (by omega)
      have skip : (M1 95 v ≠ 0 → (¬ ma_and (ma_shr (M 6 v) j) 1 = 0 ↔ v = M 7 j)) → ma_wp 100 62 [(2, 80), (0, i), (0, j), (0, v - 1)] [] mr_SH M1 Q := fun hs => ih (v - 1) M1 (by omega) (by omega) (by omega) hM h01 (md_logic0 (P := fun u => ¬ ma_and (ma_shr (M 6 u) j) 1 = 0) (mk := M1 95) hA hv0 hs)
      simp (disch := (first | assumption | omega | ((repeat (refine mr_FIX_up ?_ (by unfold mr_nst; omega))); assumption))) only [s100_66, s100_67, x100_70, s100_71, x100_72, s100_75, s100_76, x100_79, s100_80, x100_81, x100_83, e81]
      refine ⟨by omega, fun hm0 => ?_, fun hm0 => ⟨by omega, fun hk => ?_, fun hk => ?_⟩⟩
      · simp (disch := (first | assumption | omega | ((repeat (refine mr_FIX_up ?_ (by unfold mr_nst; omega))); assumption))) only [x100_141, x100_144, e3]
        exact skip (fun z => absurd hm0 z)
      · simp (disch := (first | assumption | omega | ((repeat (refine mr_FIX_up ?_ (by unfold mr_nst; omega))); assumption))) only [x100_141, x100_144, e3]
        refine skip (fun _ => ?_)
        by_cases k7 : M 2 v = 7
        · have d := d k7
          rw [d.2.2.2.2.1, (mb_shl d.2.1 (by omega)).2 j hj0 (by omega)]
          constructor
          · intro z
            have z2 : M 5 v = j := by omega
            rw [← z2]
            exact d.2.2.2.1.symm
          · intro z z2
            exact z2 (by rw [z]; exact hn7.2.2.2.2)
        · have f := f (by omega)
          rw [f.2.2.2.1]
          constructor
          · intro z
            exact absurd (mb_0 hj0 (by omega)) z
          · intro z
            rw [z] at k7
            exact absurd hn7.2.2.2.1 k7
      · have vne : M 7 j ≠ v := fun z => by
          have := hn7.2.2.2.1
          rw [z] at this
          omega
        simp (disch := (first | assumption | omega | ((repeat (refine mr_FIX_up ?_ (by unfold mr_nst; omega))); assumption))) only [s100_86, s100_87, x100_90, s100_91, x100_92, x100_94, s100_97, s100_98, x100_101, s100_102, x100_103, e81, e83]
        have two : ∀ l r : Int, 0 ≤ l → l < v → 0 ≤ r → r < v → M 6 v = ma_or (M 6 l) (M 6 r) → ∀ M2 : ma_M, (∀ c k, c ≠ 95 → M2 c k = M c k) → (∀ u, u = l ∨ u = r → M2 95 u = 1) → (∀ u, u ≠ l → u ≠ r → M2 95 u = M1 95 u) → ma_wp 100 62 [(2, 80), (0, i), (0, j), (0, v - 1)] [] mr_SH M2 Q := by
          intro l r l0 l1 r0 r1 hor M2 g1 g2 g3
          refine ih (v - 1) M2 (by omega) (by omega) (by omega) g1 (fun u u0 u1 => ?_) (md_logic (P := fun u => ¬ ma_and (ma_shr (M 6 u) j) 1 = 0) (mk := M1 95) (mk' := M2 95) hA hv0 hm0 ⟨l0, l1⟩ ⟨r0, r1⟩ ?_ vne g2 g3)
          · by_cases e1 : u = l ∨ u = r
            · exact Or.inr (g2 u e1)
            · rw [g3 u (by omega) (by omega)]
              exact h01 u u0 u1
          · have r1' := mb_r hI l0 (by omega)
            have r2' := mb_r hI r0 (by omega)
            rw [hor, (mb_or r1'.1 r1'.2 r2'.1 r2'.2).2 j hj0 (by omega)]
            exact Decidable.not_and_iff_not_or_not
        refine ⟨by omega, fun k6 => ?_, fun k6 => ⟨by omega, fun hr => ?_, fun hr => ?_⟩⟩
        · have b := b (by omega)
          simp (disch := (first | assumption | omega | ((repeat (refine mr_FIX_up ?_ (by unfold mr_nst; omega))); assumption))) only [s100_106, s100_107, s100_110, s100_111, x100_114, s100_115, x100_116, s100_117, e82]
          refine ⟨by omega, ⟨⟨by omega, by simp⟩, ?_⟩⟩
          have e81b : ma_up M1 95 (M 82 v) 1 81 v = M 2 v := by rw [ma_up_ne (by omega)]; exact e81
          have e83b : ma_up M1 95 (M 82 v) 1 83 v = M 83 v := by rw [ma_up_ne (by omega)]; exact e83
          simp (disch := (first | assumption | omega | ((repeat (refine mr_FIX_up ?_ (by unfold mr_nst; omega))); assumption))) only [s100_118, s100_119, x100_122, s100_123, x100_124, x100_126, e81b]
          refine ⟨by omega, fun z => absurd z k6, fun _ => ?_⟩
          simp (disch := (first | assumption | omega | ((repeat (refine mr_FIX_up ?_ (by unfold mr_nst; omega))); assumption))) only [s100_129, s100_130, s100_133, s100_134, x100_137, s100_138, x100_139, s100_140, x100_141, x100_144, e83b, e3]
          refine ⟨by omega, ⟨⟨by omega, by simp⟩, ?_⟩⟩
          refine two (M 82 v) (M 83 v) (by omega) (by omega) (by omega) (by omega) (by rw [b.2.2.2.2.1, b.2.2.2.2.2.1]; exact b.2.2.2.2.2.2.2) _ (fun c k hc => ?_) (fun u hu => ?_) (fun u h1 h2 => ?_)
          · rw [ma_up_ne hc, ma_up_ne hc]
            exact hM c k hc
          · by_cases e1 : u = M 83 v
            · subst e1
              exact ma_up_s
            · rw [ma_up_ne2 e1]
              rcases hu with hu | hu
              · subst hu
                exact ma_up_s
              · exact absurd hu e1
          · rw [ma_up_ne2 h2, ma_up_ne2 h1]
        · have c := c (by omega)
          simp (disch := (first | assumption | omega | ((repeat (refine mr_FIX_up ?_ (by unfold mr_nst; omega))); assumption))) only [x100_141, x100_144, e3]
          refine skip (fun _ => ?_)
          rw [c.2.2.2.2.2.2.2, if_pos (by omega)]
          constructor
          · intro z
            exact absurd (mb_0 hj0 (by omega)) z
          · intro z
            exact absurd z.symm vne
        · have c := c (by omega)
          simp (disch := (first | assumption | omega | ((repeat (refine mr_FIX_up ?_ (by unfold mr_nst; omega))); assumption))) only [s100_106, s100_107, s100_110, s100_111, x100_114, s100_115, x100_116, s100_117, e82]
          refine ⟨by omega, ⟨⟨by omega, by simp⟩, ?_⟩⟩
          have e81b : ma_up M1 95 (M 82 v) 1 81 v = M 2 v := by rw [ma_up_ne (by omega)]; exact e81
          simp (disch := (first | assumption | omega | ((repeat (refine mr_FIX_up ?_ (by unfold mr_nst; omega))); assumption))) only [s100_118, s100_119, x100_122, s100_123, x100_124, x100_126, e81b]
          refine ⟨by omega, fun _ => ?_, fun z => absurd (by omega) z⟩
          simp (disch := (first | assumption | omega | ((repeat (refine mr_FIX_up ?_ (by unfold mr_nst; omega))); assumption))) only [x100_141, x100_144, e3]
          refine two (M 82 v) (M 82 v) (by omega) (by omega) (by omega) (by omega) (by rw [c.2.2.2.1, c.2.2.2.2.2.2.2, if_neg (by omega), c.2.2.1]) _ (fun c k hc => ?_) (fun u hu => ?_) (fun u h1 h2 => ?_)
          · rw [ma_up_ne hc]
            exact hM c k hc
          · have hu2 : u = M 82 v := by omega
            subst hu2
            exact ma_up_s
          · rw [ma_up_ne2 h1]
theorem md_dep {M : ma_M} (hI : mr_INV M) {i j : Int} (hi0 : 0 ≤ i) (hi : i < M 0 11) (hj0 : 0 ≤ j) (hj : j < M 1 1) {Q : Option ma_V → ma_S → ma_M → Prop} (cont : ∀ M2 : ma_M, (∀ c k, c ≠ 95 → M2 c k = M c k) → Q (some (0, if ma_and (ma_shr (M 6 (M 54 i)) j) 1 = 0 then 0 else 1)) mr_SH M2) : mr_do 100 [(2, 80), (0, i), (0, j)] mr_SH M Q := by
  obtain ⟨hF, ⟨⟨n1, n2, n3⟩, ⟨i1, i2, i3⟩, ⟨o1, o2, o3⟩⟩, hnd, hfr, hin, hnum, hout, hmar, hsn⟩ := id hI
  have ho := hout i hi0 hi
  have c1 : ¬ i < 0 := by omega
  have c2 : ¬ j < 0 := by omega
  have c3 : ¬ M 0 11 ≤ i := by omega
  have c4 : ¬ M 1 1 ≤ j := by omega
  have hn7 := hin j hj0 hj
  rw [x100]
  simp (disch := (first | assumption | omega | ((repeat (refine mr_FIX_up ?_ (by unfold mr_nst; omega))); assumption))) [s100_0, x100_1, s100_2, x100_5, s100_8, x100_9, s100_10, x100_13, x100_16, x100_17, x100_18, x100_19, x75, x75_0, x75_1, x75_4, s75_5, s75_6, x75_9, x75_12, x75_13, x75_16, x75_17, x76, x76_0, x76_1, x76_4, s76_5, s76_6, x76_9, x76_12, x76_13, x76_16, x76_17, i3, o3, c1, c2, c3, c4]
  refine md_l1 hI hi0 hi (fun M2 hM2 hm2 => ?_) ((M 1 0).toNat + 1) 0 M (by omega) (by omega) (by omega) (fun _ _ _ => rfl) (fun u h0 h1 => by omega)
  have hF2 : mr_FIX M2 := md_fr hF (p := fun c => c = 95) (fun c k h => hM2 c k h) (fun c h => by omega)
  have e2 : M2 88 i = M 54 i := (hM2 88 i (by omega)).trans ho.1
  simp (disch := (first | assumption | omega | ((repeat (refine mr_FIX_up ?_ (by unfold mr_nst; omega))); assumption))) only [s100_55, s100_56, x100_59, s100_60, x100_61, e2]
  refine ⟨by omega, md_l2 hI hi0 hi hj0 hj cont ((M 54 i + 1).toNat + 1) (M 54 i) M2 (by omega) (by omega) (by omega) hM2 (fun u h0 h1 => ?_) ?_⟩
  · rw [hm2 u h0 h1]
    split
    · exact Or.inr rfl
    · exact Or.inl rfl
  · unfold md_A
    constructor
    · intro z
      exact Or.inl ⟨M 54 i, by omega, by omega, by rw [hm2 _ (by omega) (by omega), if_pos rfl]; decide, z⟩
    · rintro (⟨u, a, b, c, d⟩ | ⟨a, b⟩)
      · rw [hm2 u a (by omega)] at c
        by_cases e : u = M 54 i
        · rw [← e]
          exact d
        · rw [if_neg e] at c
          exact absurd rfl c
      · rw [hm2 (M 7 j) (by omega) (by omega), if_neg (by omega)] at b
        exact absurd rfl b
theorem mr_keep95 {M M2 : ma_M} (hI : mr_INV M) {p : Int → Prop} (h : ∀ c k, ¬ p c → M2 c k = M c k) (hp : ∀ c, p c → mr_scr c ∧ ¬ (10 ≤ c ∧ c ≤ 33)) : mr_INV M2 := mr_INV_scr hI (fun c i hc => h c i (fun z => hc (hp c z).1)) (fun v k h0 h1 _ _ _ => h _ _ (fun z => (hp _ z).2 (by omega)))
set_option maxHeartbeats 2000000 in
theorem mp_depends : mr_p2 53 100 := by
  intro M i j hI ha hb
  obtain ⟨hF, ⟨⟨n1, n2, n3⟩, ⟨i1, i2, i3⟩, ⟨o1, o2, o3⟩⟩, hnd, hfr, hin, hnum, hout, hmar, hsn⟩ := id hI
  unfold mr_pair
  by_cases c1 : i < 0
  · exact ⟨0, by simp (disch := (first | assumption | omega | ((repeat (refine mr_FIX_up ?_ (by unfold mr_nst; omega))); assumption))) [x53, s53_0, x53_1, s53_2, x53_5, s53_8, s53_9, x53_12, s53_13, x53_16, s53_19, s53_20, s53_23, s53_24, x53_27, s53_28, x53_29, s53_30, x53_33, x53_36, x53_37, x53_40, x53_41, x61, x61_0, x61_1, x61_4, s61_5, s61_6, x61_9, x61_12, x61_13, x61_16, x61_17, x100, s100_0, x100_1, s100_2, x100_5, s100_8, x100_9, s100_10, x100_13, x100_16, x100_17, x100_18, x100_19, s100_21, s100_22, x100_25, s100_28, s100_29, x100_32, x100_33, s100_34, s100_35, x100_38, s100_39, x100_40, x100_43, x100_44, x100_47, s100_48, x100_49, x100_52, s100_55, s100_56, x100_59, s100_60, x100_61, x100_63, s100_66, s100_67, x100_70, s100_71, x100_72, s100_75, s100_76, x100_79, s100_80, x100_81, x100_83, s100_86, s100_87, x100_90, s100_91, x100_92, x100_94, s100_97, s100_98, x100_101, s100_102, x100_103, s100_106, s100_107, s100_110, s100_111, x100_114, s100_115, x100_116, s100_117, s100_118, s100_119, x100_122, s100_123, x100_124, x100_126, s100_129, s100_130, s100_133, s100_134, x100_137, s100_138, x100_139, s100_140, x100_141, x100_144, s100_147, s100_148, s100_151, s100_152, x100_155, s100_156, s100_157, x100_158, x75, x75_0, x75_1, x75_4, s75_5, s75_6, x75_9, x75_12, x75_13, x75_16, x75_17, x76, x76_0, x76_1, x76_4, s76_5, s76_6, x76_9, x76_12, x76_13, x76_16, x76_17, i3, o3, c1, hI]⟩
  · by_cases c3 : M 0 11 ≤ i
    · have c3b : ¬ i < M 0 11 := by omega
      exact ⟨0, by simp (disch := (first | assumption | omega | ((repeat (refine mr_FIX_up ?_ (by unfold mr_nst; omega))); assumption))) [x53, s53_0, x53_1, s53_2, x53_5, s53_8, s53_9, x53_12, s53_13, x53_16, s53_19, s53_20, s53_23, s53_24, x53_27, s53_28, x53_29, s53_30, x53_33, x53_36, x53_37, x53_40, x53_41, x61, x61_0, x61_1, x61_4, s61_5, s61_6, x61_9, x61_12, x61_13, x61_16, x61_17, x100, s100_0, x100_1, s100_2, x100_5, s100_8, x100_9, s100_10, x100_13, x100_16, x100_17, x100_18, x100_19, s100_21, s100_22, x100_25, s100_28, s100_29, x100_32, x100_33, s100_34, s100_35, x100_38, s100_39, x100_40, x100_43, x100_44, x100_47, s100_48, x100_49, x100_52, s100_55, s100_56, x100_59, s100_60, x100_61, x100_63, s100_66, s100_67, x100_70, s100_71, x100_72, s100_75, s100_76, x100_79, s100_80, x100_81, x100_83, s100_86, s100_87, x100_90, s100_91, x100_92, x100_94, s100_97, s100_98, x100_101, s100_102, x100_103, s100_106, s100_107, s100_110, s100_111, x100_114, s100_115, x100_116, s100_117, s100_118, s100_119, x100_122, s100_123, x100_124, x100_126, s100_129, s100_130, s100_133, s100_134, x100_137, s100_138, x100_139, s100_140, x100_141, x100_144, s100_147, s100_148, s100_151, s100_152, x100_155, s100_156, s100_157, x100_158, x75, x75_0, x75_1, x75_4, s75_5, s75_6, x75_9, x75_12, x75_13, x75_16, x75_17, x76, x76_0, x76_1, x76_4, s76_5, s76_6, x76_9, x76_12, x76_13, x76_16, x76_17, i3, o3, c1, c3, c3b, hI]⟩
    · have c3b : i < M 0 11 := by omega
      by_cases c2 : j < 0
      · exact ⟨0, by simp (disch := (first | assumption | omega | ((repeat (refine mr_FIX_up ?_ (by unfold mr_nst; omega))); assumption))) [x53, s53_0, x53_1, s53_2, x53_5, s53_8, s53_9, x53_12, s53_13, x53_16, s53_19, s53_20, s53_23, s53_24, x53_27, s53_28, x53_29, s53_30, x53_33, x53_36, x53_37, x53_40, x53_41, x61, x61_0, x61_1, x61_4, s61_5, s61_6, x61_9, x61_12, x61_13, x61_16, x61_17, x6, x6_0, x6_1, x6_4, s6_5, s6_6, x6_9, x6_12, x6_13, x6_16, x6_17, x100, s100_0, x100_1, s100_2, x100_5, s100_8, x100_9, s100_10, x100_13, x100_16, x100_17, x100_18, x100_19, s100_21, s100_22, x100_25, s100_28, s100_29, x100_32, x100_33, s100_34, s100_35, x100_38, s100_39, x100_40, x100_43, x100_44, x100_47, s100_48, x100_49, x100_52, s100_55, s100_56, x100_59, s100_60, x100_61, x100_63, s100_66, s100_67, x100_70, s100_71, x100_72, s100_75, s100_76, x100_79, s100_80, x100_81, x100_83, s100_86, s100_87, x100_90, s100_91, x100_92, x100_94, s100_97, s100_98, x100_101, s100_102, x100_103, s100_106, s100_107, s100_110, s100_111, x100_114, s100_115, x100_116, s100_117, s100_118, s100_119, x100_122, s100_123, x100_124, x100_126, s100_129, s100_130, s100_133, s100_134, x100_137, s100_138, x100_139, s100_140, x100_141, x100_144, s100_147, s100_148, s100_151, s100_152, x100_155, s100_156, s100_157, x100_158, x75, x75_0, x75_1, x75_4, s75_5, s75_6, x75_9, x75_12, x75_13, x75_16, x75_17, x76, x76_0, x76_1, x76_4, s76_5, s76_6, x76_9, x76_12, x76_13, x76_16, x76_17, i3, o3, c1, c2, c3, c3b, hI]⟩
      · by_cases c4 : M 1 1 ≤ j
        · have c4b : ¬ j < M 1 1 := by omega
          exact ⟨0, by simp (disch := (first | assumption | omega | ((repeat (refine mr_FIX_up ?_ (by unfold mr_nst; omega))); assumption))) [x53, s53_0, x53_1, s53_2, x53_5, s53_8, s53_9, x53_12, s53_13, x53_16, s53_19, s53_20, s53_23, s53_24, x53_27, s53_28, x53_29, s53_30, x53_33, x53_36, x53_37, x53_40, x53_41, x61, x61_0, x61_1, x61_4, s61_5, s61_6, x61_9, x61_12, x61_13, x61_16, x61_17, x6, x6_0, x6_1, x6_4, s6_5, s6_6, x6_9, x6_12, x6_13, x6_16, x6_17, x100, s100_0, x100_1, s100_2, x100_5, s100_8, x100_9, s100_10, x100_13, x100_16, x100_17, x100_18, x100_19, s100_21, s100_22, x100_25, s100_28, s100_29, x100_32, x100_33, s100_34, s100_35, x100_38, s100_39, x100_40, x100_43, x100_44, x100_47, s100_48, x100_49, x100_52, s100_55, s100_56, x100_59, s100_60, x100_61, x100_63, s100_66, s100_67, x100_70, s100_71, x100_72, s100_75, s100_76, x100_79, s100_80, x100_81, x100_83, s100_86, s100_87, x100_90, s100_91, x100_92, x100_94, s100_97, s100_98, x100_101, s100_102, x100_103, s100_106, s100_107, s100_110, s100_111, x100_114, s100_115, x100_116, s100_117, s100_118, s100_119, x100_122, s100_123, x100_124, x100_126, s100_129, s100_130, s100_133, s100_134, x100_137, s100_138, x100_139, s100_140, x100_141, x100_144, s100_147, s100_148, s100_151, s100_152, x100_155, s100_156, s100_157, x100_158, x75, x75_0, x75_1, x75_4, s75_5, s75_6, x75_9, x75_12, x75_13, x75_16, x75_17, x76, x76_0, x76_1, x76_4, s76_5, s76_6, x76_9, x76_12, x76_13, x76_16, x76_17, i3, o3, c1, c2, c3, c3b, c4, c4b, hI]⟩
        · have c4b : j < M 1 1 := by omega
          have ho := hout i (by omega) c3b
          have fin : mr_do 100 [(2, 80), (0, i), (0, j)] mr_SH M (fun r2 sh2 M2 => r2 = some (0, if ma_and (ma_shr (M 6 (M 54 i)) j) 1 = 0 then 0 else 1) ∧ sh2 = mr_SH ∧ (∀ k, M2 (-2) k = M (-2) k) ∧ mr_INV M2) := md_dep hI (by omega) c3b (by omega) c4b (fun M2 h => ⟨rfl, rfl, fun k => h (-2) k (by omega), mr_keep95 hI (p := fun c => c = 95) (fun c k hc => h c k hc) (fun c hc => ⟨by unfold mr_scr; omega, by omega⟩)⟩)
          refine ⟨if ma_and (ma_shr (M 6 (M 54 i)) j) 1 = 0 then 0 else 1, ?_⟩
          by_cases hb2 : ma_and (ma_shr (M 6 (M 54 i)) j) 1 = 0
          · rw [if_pos hb2] at fin ⊢
            simp (disch := (first | assumption | omega | ((repeat (refine mr_FIX_up ?_ (by unfold mr_nst; omega))); assumption))) [x53, s53_0, x53_1, s53_2, x53_5, s53_8, s53_9, x53_12, s53_13, x53_16, s53_19, s53_20, s53_23, s53_24, x53_27, s53_28, x53_29, s53_30, x53_33, x53_36, x53_37, x53_40, x53_41, x61, x61_0, x61_1, x61_4, s61_5, s61_6, x61_9, x61_12, x61_13, x61_16, x61_17, x6, x6_0, x6_1, x6_4, s6_5, s6_6, x6_9, x6_12, x6_13, x6_16, x6_17, x8, s8_0, s8_1, x8_4, s8_5, x8_6, x8_7, x8_8, x8_9, x8_10, x8_13, x8_14, x8_17, x8_18, i3, o3, c1, c2, c3, c3b, c4, c4b, hb2]
            exact ⟨by omega, by omega, fin⟩
          · rw [if_neg hb2] at fin ⊢
            simp (disch := (first | assumption | omega | ((repeat (refine mr_FIX_up ?_ (by unfold mr_nst; omega))); assumption))) [x53, s53_0, x53_1, s53_2, x53_5, s53_8, s53_9, x53_12, s53_13, x53_16, s53_19, s53_20, s53_23, s53_24, x53_27, s53_28, x53_29, s53_30, x53_33, x53_36, x53_37, x53_40, x53_41, x61, x61_0, x61_1, x61_4, s61_5, s61_6, x61_9, x61_12, x61_13, x61_16, x61_17, x6, x6_0, x6_1, x6_4, s6_5, s6_6, x6_9, x6_12, x6_13, x6_16, x6_17, x8, s8_0, s8_1, x8_4, s8_5, x8_6, x8_7, x8_8, x8_9, x8_10, x8_13, x8_14, x8_17, x8_18, i3, o3, c1, c2, c3, c3b, c4, c4b, hb2]
            exact ⟨by omega, by omega, fin⟩
