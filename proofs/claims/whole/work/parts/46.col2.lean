theorem md_keep53 {M M1 : ma_M} (hI : mr_INV M) (hM : ∀ c k, c ≠ 53 → M1 c k = M c k) : mr_INV M1 := mr_keep95 hI (p := fun c => c = 53) (fun c k h => hM c k h) (fun c h => ⟨by unfold mr_scr; omega, by omega⟩)
theorem md_keep9 {M M1 : ma_M} (hI : mr_INV M) (hM : ∀ c k, c ≠ 95 → c ≠ 96 → M1 c k = M c k) : mr_INV M1 := mr_keep95 hI (p := fun c => c = 95 ∨ c = 96) (fun c k h => hM c k (by omega) (by omega)) (fun c h => ⟨by unfold mr_scr; omega, by omega⟩)
set_option maxHeartbeats 2000000 in
theorem mp_colour : mr_p1 54 103 := by
  intro M j hI ha
  obtain ⟨hF, ⟨⟨n1, n2, n3⟩, ⟨i1, i2, i3⟩, ⟨o1, o2, o3⟩⟩, hnd, hfr, hin, hnum, hout, hmar, hsn⟩ := id hI
  unfold mr_pair
  by_cases c1 : j < 0
  · exact ⟨-3, by simp (disch := (first | assumption | omega | ((repeat (refine mr_FIX_up ?_ (by unfold mr_nst; omega))); assumption))) [x54, s54_0, s54_1, x54_4, s54_5, x54_8, x54_11, x54_13, s54_14, s54_15, s54_18, s54_19, x54_22, s54_23, x54_24, x6, x6_0, x6_1, x6_4, s6_5, s6_6, x6_9, x6_12, x6_13, x6_16, x6_17, x103, s103_0, x103_1, s103_2, x103_5, x103_8, x103_10, s103_11, s103_12, s103_15, s103_16, x103_19, s103_20, x103_21, x75, x75_0, x75_1, x75_4, s75_5, s75_6, x75_9, x75_12, x75_13, x75_16, x75_17, i3, c1, hI]⟩
  · by_cases c2 : M 1 1 ≤ j
    · have c2b : ¬ j < M 1 1 := by omega
      exact ⟨-3, by simp (disch := (first | assumption | omega | ((repeat (refine mr_FIX_up ?_ (by unfold mr_nst; omega))); assumption))) [x54, s54_0, s54_1, x54_4, s54_5, x54_8, x54_11, x54_13, s54_14, s54_15, s54_18, s54_19, x54_22, s54_23, x54_24, x6, x6_0, x6_1, x6_4, s6_5, s6_6, x6_9, x6_12, x6_13, x6_16, x6_17, x103, s103_0, x103_1, s103_2, x103_5, x103_8, x103_10, s103_11, s103_12, s103_15, s103_16, x103_19, s103_20, x103_21, x75, x75_0, x75_1, x75_4, s75_5, s75_6, x75_9, x75_12, x75_13, x75_16, x75_17, i3, c1, c2, c2b, hI]⟩
    · have c2b : j < M 1 1 := by omega
      have key2 : ∀ M1 : ma_M, (∀ c k, c ≠ 53 → M1 c k = M c k) → mr_do 103 ((2, 80) :: [(0, j)]) mr_SH M1 (fun r2 sh2 M2 => ∃ g : Int → Int, r2 = some (0, g j) ∧ sh2 = mr_SH ∧ (∀ c k, c ≠ 53 → c ≠ 95 → c ≠ 96 → M2 c k = M c k) ∧ mr_INV M2 ∧ ∀ u, 0 ≤ u → u < M 1 1 → md_col M g u) := by
        intro M1 hM1
        have hI1 := md_keep53 hI hM1
        have hF1 := hI1.1
        have e1 : M1 80 5 = M 1 1 := (hM1 80 5 (by omega)).trans i3
        have e2 : M1 1 1 = M 1 1 := hM1 1 1 (by omega)
        simp (disch := (first | assumption | omega | ((repeat (refine mr_FIX_up ?_ (by unfold mr_nst; omega))); assumption))) [x103, s103_0, x103_1, s103_2, x103_5, x103_8, x103_10, s103_11, s103_12, x75, x75_0, x75_1, x75_4, s75_5, s75_6, x75_9, x75_12, x75_13, x75_16, x75_17, e1, c1, c2, c2b]
        refine md_shade hI1 (fun M2 hM2 hc2 => ?_)
        have hI2 := md_keep9 hI1 hM2
        have hF2 := hI2.1
        simp only [Option.toList_some, Option.toList_none, List.cons_append, List.nil_append]
        simp (disch := (first | assumption | omega | ((repeat (refine mr_FIX_up ?_ (by unfold mr_nst; omega))); assumption))) only [s103_15, s103_16, x103_19, s103_20, x103_21]
        refine ⟨by omega, M2 96, rfl, trivial, fun c k h1 h2 h3 => (hM2 c k h2 h3).trans (hM1 c k h1), hI2, fun u u0 u1 => md_col_eq (fun c i h => (hM1 c i (by omega)).symm) (fun _ _ _ => rfl) u0 (hc2 u u0 (by omega))⟩
      have hx : mr_do 54 ((2, 0) :: [(0, j)]) mr_SH M (fun r1 sh1 M1 => ∃ g : Int → Int, r1 = some (0, g j) ∧ sh1 = mr_SH ∧ (∀ c k, c ≠ 53 → M1 c k = M c k) ∧ ∀ u, 0 ≤ u → u < M 1 1 → md_col M g u) := by
        simp (disch := (first | assumption | omega | ((repeat (refine mr_FIX_up ?_ (by unfold mr_nst; omega))); assumption))) [x54, s54_0, s54_1, x54_4, s54_5, x54_8, x54_11, x54_13, s54_14, s54_15, x6, x6_0, x6_1, x6_4, s6_5, s6_6, x6_9, x6_12, x6_13, x6_16, x6_17, c1, c2, c2b]
        refine md_paint hI (fun M2 hM2 hc2 => ?_)
        have hF2 := (md_keep53 hI hM2).1
        simp only [Option.toList_some, Option.toList_none, List.cons_append, List.nil_append]
        simp (disch := (first | assumption | omega | ((repeat (refine mr_FIX_up ?_ (by unfold mr_nst; omega))); assumption))) only [s54_18, s54_19, x54_22, s54_23, x54_24]
        exact ⟨by omega, M2 53, rfl, trivial, hM2, hc2⟩
      obtain ⟨r1, sh1, M1, hrun, g, rfl, rfl, hM1, hg⟩ := hx
      refine ⟨g j, some (0, g j), mr_SH, M1, hrun, rfl, rfl, fun i => hM1 (-2) i (by omega), ?_⟩
      refine mr_do_mono (key2 M1 hM1) ?_
      rintro r2 sh2 M2 ⟨g2, rfl, rfl, hM2, hI2, hg2⟩
      exact ⟨by rw [md_col_u hg2 hg (j.toNat + 1) j (by omega) (by omega) c2b], rfl, fun i => hM2 (-2) i (by omega) (by omega) (by omega), hI2⟩
/-! colours: the greatest colour and the number of colours -/
theorem md_col4 {M : ma_M} {f : Int → Int} {n : Int} (hn : n ≤ 5) (hf : ∀ j, 0 ≤ j → j < n → md_col M f j) {j : Int} (h0 : 0 ≤ j) (hj : j < n) : 0 ≤ f j ∧ f j ≤ 4 := by
  obtain ⟨a1, a2, a3⟩ := hf j h0 hj
  refine ⟨a1.1, ?_⟩
  apply Decidable.byContradiction
  intro h
  have p : ∀ c, 0 ≤ c → c < 5 → f 0 = c ∨ f 1 = c ∨ f 2 = c ∨ f 3 = c := fun c c0 c1 => by
    obtain ⟨k, k0, k1, k2, k3⟩ := a2 c c0 (by omega)
    have : k = 0 ∨ k = 1 ∨ k = 2 ∨ k = 3 := by omega
    rcases this with rfl | rfl | rfl | rfl <;> omega
  have p0 := p 0 (by decide) (by decide)
  have p1 := p 1 (by decide) (by decide)
  have p2 := p 2 (by decide) (by decide)
  have p3 := p 3 (by decide) (by decide)
  have p4 := p 4 (by decide) (by decide)
  omega
/-- m is one more than the greatest colour of the first n inputs -/
def md_mx (f : Int → Int) (n m : Int) : Prop := (0 ≤ m ∧ m ≤ 5) ∧ (∀ j, 0 ≤ j → j < n → f j < m) ∧ (m = 0 ∨ ∃ j, 0 ≤ j ∧ j < n ∧ f j + 1 = m)
theorem md_mx_used {M : ma_M} {f : Int → Int} {n m : Int} (hn : n ≤ 5) (hf : ∀ j, 0 ≤ j → j < n → md_col M f j) (hm : md_mx f n m) {c : Int} (h0 : 0 ≤ c) : (∃ j, 0 ≤ j ∧ j < n ∧ f j = c) ↔ c < m := by
  obtain ⟨m1, m2, m3⟩ := hm
  constructor
  · rintro ⟨j, j0, j1, rfl⟩
    exact m2 j j0 j1
  · intro h
    rcases m3 with rfl | ⟨j, j0, j1, j2⟩
    · omega
    · by_cases e : f j = c
      · exact ⟨j, j0, j1, e⟩
      · obtain ⟨k, k0, k1, k2, k3⟩ := (hf j j0 j1).2.1 c h0 (by omega)
        exact ⟨k, k0, by omega, k2⟩
set_option maxHeartbeats 2000000 in
theorem md_xmax {M M1 : ma_M} (hI1 : mr_INV M1) (hc : ∀ u, 0 ≤ u → u < M1 1 1 → md_col M (M1 53) u) {Q : Option ma_V → ma_S → ma_M → Prop} (q : ∀ m, md_mx (M1 53) (M1 1 1) m → Q (some (0, m)) mr_SH M1) : ∀ (n : Nat) (j m : Int), (M1 1 1 - j).toNat < n → 0 ≤ j → j ≤ M1 1 1 → md_mx (M1 53) j m → ma_wp 55 8 [(2, 0), (0, m), (0, j)] [] mr_SH M1 Q := by
  have hcn := hI1.2.1
  unfold mr_cnt at hcn
  have hF1 := hI1.1
  intro n
  induction n with
  | zero => intro j m h; omega
  | succ n ih =>
    intro j m hn h0 hj hm
    simp (disch := (first | assumption | omega | ((repeat (refine mr_FIX_up ?_ (by unfold mr_nst; omega))); assumption))) only [x55_8, s55_9, s55_10, s55_13, x55_16]
    refine ⟨fun h => ?_, fun h => ?_⟩
    · obtain rfl : j = M1 1 1 := by omega
      simp (disch := (first | assumption | omega | ((repeat (refine mr_FIX_up ?_ (by unfold mr_nst; omega))); assumption))) only [x55_38, x55_39]
      exact q m hm
    · have h4 := md_col4 (by omega) hc h0 (by omega)
      have e3 : ma_32 (j + 1) = j + 1 := ma_32i (by omega) (by omega)
      have e4 : ma_32 (M1 53 j + 1) = M1 53 j + 1 := ma_32i (by omega) (by omega)
      simp (disch := (first | assumption | omega | ((repeat (refine mr_FIX_up ?_ (by unfold mr_nst; omega))); assumption))) only [x55_19, s55_20, s55_21, x55_24, s55_25, x55_26, x55_27, x55_28, x55_31, x55_32, x55_35, e3, e4]
      refine ⟨by omega, ih (j + 1) _ (by omega) (by omega) (by omega) ?_⟩
      have m1 := hm.1
      have m2 := hm.2.1
      by_cases e : m < M1 53 j + 1
      · rw [if_pos e]
        refine ⟨by omega, fun u u0 u1 => ?_, Or.inr ⟨j, h0, by omega, rfl⟩⟩
        by_cases e2 : u = j
        · subst e2; omega
        · have := m2 u u0 (by omega)
          omega
      · rw [if_neg e]
        refine ⟨m1, fun u u0 u1 => ?_, ?_⟩
        · by_cases e2 : u = j
          · subst e2; omega
          · exact m2 u u0 (by omega)
        · rcases hm.2.2 with m3 | ⟨k, k0, k1, k2⟩
          · exact Or.inl m3
          · exact Or.inr ⟨k, k0, by omega, k2⟩
def md_us (f : Int → Int) (c k : Int) : Prop := ∃ u, 0 ≤ u ∧ u < k ∧ f u = c
set_option maxHeartbeats 2000000 in
theorem md_cin {M : ma_M} (hI : mr_INV M) {c nn : Int} {Q : Option ma_V → ma_S → ma_M → Prop} (cont : ∀ (t : Int), ((t = 1 ∧ md_us (M 96) c (M 1 1)) ∨ (t = 0 ∧ ¬ md_us (M 96) c (M 1 1))) → ma_wp 104 54 [(2, 80), (0, nn), (0, c), (0, t), (0, M 1 1)] [] mr_SH M Q) :
    ∀ (n : Nat) (k t : Int), (M 1 1 - k).toNat < n → 0 ≤ k → k ≤ M 1 1 → ((t = 1 ∧ md_us (M 96) c k) ∨ (t = 0 ∧ ¬ md_us (M 96) c k)) → ma_wp 104 18 [(2, 80), (0, nn), (0, c), (0, t), (0, k)] [] mr_SH M Q := by
  have hcn := hI.2.1
  unfold mr_cnt at hcn
  have hF := hI.1
  have e1 : M 80 5 = M 1 1 := hcn.2.1.2.2
  intro n
  induction n with
  | zero => intro k t h; omega
  | succ n ih =>
    intro k t hn h0 hk ht
    have e3 : ma_32 (k + 1) = k + 1 := ma_32i (by omega) (by omega)
    simp (disch := (first | assumption | omega | ((repeat (refine mr_FIX_up ?_ (by unfold mr_nst; omega))); assumption))) only [x104_18, s104_20, s104_21, x104_24, e1]
    refine ⟨fun h => ?_, fun h => ?_⟩
    · obtain rfl : k = M 1 1 := by omega
      exact cont t ht
    · have up : md_us (M 96) c (k + 1) ↔ md_us (M 96) c k ∨ M 96 k = c := by
        constructor
        · rintro ⟨u, u0, u1, u2⟩
          by_cases e : u = k
          · subst e; exact Or.inr u2
          · exact Or.inl ⟨u, u0, by omega, u2⟩
        · rintro (⟨u, u0, u1, u2⟩ | h)
          · exact ⟨u, u0, by omega, u2⟩
          · exact ⟨k, h0, by omega, h⟩
      have nx : ∀ (g : Int), ((g = 1 ∧ md_us (M 96) c (k + 1)) ∨ (g = 0 ∧ ¬ md_us (M 96) c (k + 1))) → ma_wp 104 18 [(2, 80), (0, nn), (0, c), (0, g), (0, k + 1)] [] mr_SH M Q := fun g hg => ih (k + 1) g (by omega) (by omega) (by omega) hg
      rcases ht with ⟨rfl, ht⟩ | ⟨rfl, ht⟩
      · simp (disch := (first | assumption | omega | ((repeat (refine mr_FIX_up ?_ (by unfold mr_nst; omega))); assumption))) [x104_27, x104_28, x104_42, x104_43, x104_46, x104_47, x104_48, x104_51, e3]
        exact nx 1 (Or.inl ⟨rfl, up.mpr (Or.inl ht)⟩)
      · by_cases z : M 96 k = c
        · simp (disch := (first | assumption | omega | ((repeat (refine mr_FIX_up ?_ (by unfold mr_nst; omega))); assumption))) [x104_27, x104_28, s104_31, s104_32, x104_35, s104_37, x104_38, x104_39, x104_42, x104_43, x104_46, x104_47, x104_48, x104_51, e3, z]
          exact ⟨by omega, nx 1 (Or.inl ⟨rfl, up.mpr (Or.inr z)⟩)⟩
        · simp (disch := (first | assumption | omega | ((repeat (refine mr_FIX_up ?_ (by unfold mr_nst; omega))); assumption))) [x104_27, x104_28, s104_31, s104_32, x104_35, s104_37, x104_38, x104_39, x104_42, x104_43, x104_46, x104_47, x104_48, x104_51, e3, z]
          exact ⟨by omega, nx 0 (Or.inr ⟨rfl, fun w => (up.mp w).elim ht z⟩)⟩
set_option maxHeartbeats 2000000 in
theorem md_cout {M : ma_M} (hI : mr_INV M) {m : Int} (hm : 0 ≤ m ∧ m ≤ 5) (hu : ∀ c, 0 ≤ c → (md_us (M 96) c (M 1 1) ↔ c < m)) {Q : Option ma_V → ma_S → ma_M → Prop} (q : Q (some (0, m)) mr_SH M) :
    ∀ (n : Nat) (c t : Int) (a3 a4 : ma_V), (5 - c).toNat < n → 0 ≤ c → c ≤ 5 → t = (if c < m then c else m) → ma_wp 104 8 [(2, 80), (0, t), (0, c), a3, a4] [] mr_SH M Q := by
  have hcn := hI.2.1
  unfold mr_cnt at hcn
  have hF := hI.1
  intro n
  induction n with
  | zero => intro c t a3 a4 h; omega
  | succ n ih =>
    intro c t a3 a4 hn h0 hc ht
    have e3 : ma_32 (c + 1) = c + 1 := ma_32i (by omega) (by omega)
    simp (disch := (first | assumption | omega | ((repeat (refine mr_FIX_up ?_ (by unfold mr_nst; omega))); assumption))) only [x104_8, x104_9, x104_10]
    refine ⟨fun h => ?_, fun h => ?_⟩
    · simp (disch := (first | assumption | omega | ((repeat (refine mr_FIX_up ?_ (by unfold mr_nst; omega))); assumption))) only [x104_72, x104_73]
      have : t = m := by rw [ht]; split <;> omega
      rw [this]
      exact q
    · simp (disch := (first | assumption | omega | ((repeat (refine mr_FIX_up ?_ (by unfold mr_nst; omega))); assumption))) only [x104_13, x104_14, x104_15, x104_16]
      refine md_cin hI (fun g hg => ?_) ((M 1 1).toNat + 1) 0 0 (by omega) (by omega) (by omega) (Or.inr ⟨rfl, fun ⟨u, u0, u1, _⟩ => by omega⟩)
      rcases hg with ⟨rfl, hg⟩ | ⟨rfl, hg⟩
      · have hcm := (hu c h0).mp hg
        have e4 : ma_32 (t + 1) = t + 1 := ma_32i (by rw [ht]; split <;> omega) (by rw [ht]; split <;> omega)
        simp (disch := (first | assumption | omega | ((repeat (refine mr_FIX_up ?_ (by unfold mr_nst; omega))); assumption))) [x104_54, x104_55, x104_56, x104_59, x104_60, x104_63, x104_64, x104_65, x104_66, x104_69, e3, e4]
        refine ih (c + 1) (t + 1) _ _ (by omega) (by omega) (by omega) ?_
        rw [ht]
        split <;> split <;> omega
      · have hcm : ¬ c < m := fun z => hg ((hu c h0).mpr z)
        have e4 : ma_32 t = t := ma_32i (by rw [ht]; split <;> omega) (by rw [ht]; split <;> omega)
        simp (disch := (first | assumption | omega | ((repeat (refine mr_FIX_up ?_ (by unfold mr_nst; omega))); assumption))) [x104_54, x104_55, x104_56, x104_59, x104_60, x104_63, x104_64, x104_65, x104_66, x104_69, e3, e4]
        refine ih (c + 1) t _ _ (by omega) (by omega) (by omega) ?_
        rw [ht]
        split <;> split <;> omega
set_option maxHeartbeats 2000000 in
theorem mp_colours : mr_p0 55 104 := by
  intro M hI
  obtain ⟨hF, ⟨⟨n1, n2, n3⟩, ⟨i1, i2, i3⟩, ⟨o1, o2, o3⟩⟩, hnd, hfr, hin, hnum, hout, hmar, hsn⟩ := id hI
  have hx : mr_do 55 ((2, 0) :: []) mr_SH M (fun r1 sh1 M1 => ∃ (g : Int → Int) (m : Int), r1 = some (0, m) ∧ sh1 = mr_SH ∧ (∀ c k, c ≠ 53 → M1 c k = M c k) ∧ (∀ u, 0 ≤ u → u < M 1 1 → md_col M g u) ∧ md_mx g (M 1 1) m) := by
    simp only [x55, s55_0, s55_1]
    refine md_paint hI (fun M2 hM2 hc2 => ?_)
    have hI2 := md_keep53 hI hM2
    have hF2 := hI2.1
    have e2 : M2 1 1 = M 1 1 := hM2 1 1 (by omega)
    simp only [Option.toList_some, Option.toList_none, List.cons_append, List.nil_append]
    simp (disch := (first | assumption | omega | ((repeat (refine mr_FIX_up ?_ (by unfold mr_nst; omega))); assumption))) only [x55_4, x55_5, x55_6, x55_7]
    refine md_xmax (M := M) hI2 (fun u u0 u1 => hc2 u u0 (by omega)) (fun m hm => ⟨M2 53, m, rfl, rfl, hM2, hc2, by rw [← e2]; exact hm⟩) ((M2 1 1).toNat + 1) 0 0 (by omega) (by omega) (by omega) ⟨by omega, fun j j0 j1 => by omega, Or.inl rfl⟩
  obtain ⟨r1, sh1, M1, hrun, g, m, rfl, rfl, hM1, hg, hm⟩ := hx
  refine ⟨m, some (0, m), mr_SH, M1, hrun, rfl, rfl, fun i => hM1 (-2) i (by omega), ?_⟩
  have hI1 := md_keep53 hI hM1
  have hF1 := hI1.1
  have e2 : M1 1 1 = M 1 1 := hM1 1 1 (by omega)
  simp only [x104, s104_0, s104_1]
  refine md_shade hI1 (fun M2 hM2 hc2 => ?_)
  have hI2 := md_keep9 hI1 hM2
  have hF2 := hI2.1
  have e4 : M2 1 1 = M 1 1 := (hM2 1 1 (by omega) (by omega)).trans e2
  simp only [Option.toList_some, Option.toList_none, List.cons_append, List.nil_append]
  simp (disch := (first | assumption | omega | ((repeat (refine mr_FIX_up ?_ (by unfold mr_nst; omega))); assumption))) only [x104_4, x104_5, x104_6, x104_7]
  have hc3 : ∀ u, 0 ≤ u → u < M 1 1 → md_col M (M2 96) u := fun u u0 u1 => md_col_eq (fun c i h => (hM1 c i (by omega)).symm) (fun _ _ _ => rfl) u0 (hc2 u u0 (by omega))
  have hgg : ∀ u, 0 ≤ u → u < M 1 1 → M2 96 u = g u := fun u u0 u1 => md_col_u hc3 hg (u.toNat + 1) u (by omega) u0 u1
  refine md_cout hI2 hm.1 (fun c c0 => ?_) ⟨rfl, rfl, fun i => (hM2 (-2) i (by omega) (by omega)).trans (hM1 (-2) i (by omega)), hI2⟩ 6 0 0 _ _ (by decide) (by decide) (by decide) (by have := hm.1; split <;> omega)
  rw [← md_mx_used (by omega) hg hm c0, e4]
  constructor
  · rintro ⟨u, u0, u1, u2⟩
    exact ⟨u, u0, u1, (hgg u u0 u1) ▸ u2⟩
  · rintro ⟨u, u0, u1, u2⟩
    exact ⟨u, u0, u1, (hgg u u0 u1).trans u2⟩
