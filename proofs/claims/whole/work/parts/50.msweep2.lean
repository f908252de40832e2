theorem mt_nv7 {M : ma_M} {L T : Int → Int → Int} {v n : Int} (h : M 2 v = 7) : mt_nv M L T v n = if n < 9 then L (M 5 v) n else 0 := by
  unfold mt_nv
  rw [if_pos h]
theorem mt_nv8 {M : ma_M} {L T : Int → Int → Int} {v n : Int} (h : M 2 v = 8) : mt_nv M L T v n = if n = 0 then M 5 v else 0 := by
  unfold mt_nv
  rw [if_neg (by omega), if_pos h]
theorem mt_nvU {M : ma_M} {L T : Int → Int → Int} {v n : Int} (h : M 2 v ≤ 6) (hU : T (M 3 v) 9 = 1 ∨ T (M 4 v) 9 = 1 ∨ (M 2 v = 3 ∧ T (M 4 v) 0 = 0)) : mt_nv M L T v n = if n = 9 then 1 else 0 := by
  unfold mt_nv
  rw [if_neg (by omega), if_neg (by omega), if_pos hU]
theorem mt_nvO {M : ma_M} {L T : Int → Int → Int} {v n : Int} (h : M 2 v ≤ 6) (hU : ¬ (T (M 3 v) 9 = 1 ∨ T (M 4 v) 9 = 1 ∨ (M 2 v = 3 ∧ T (M 4 v) 0 = 0))) (hn : n ≤ 8) : mt_nv M L T v n = mt_op (M 2 v) (M 5 v).toNat (T (M 3 v)) (T (M 4 v)) n := by
  unfold mt_nv
  rw [if_neg (by omega), if_neg (by omega), if_neg hU, if_neg (by omega), if_neg (by omega)]
theorem mt_nv9 {M : ma_M} {L T : Int → Int → Int} {v : Int} (h : M 2 v ≤ 6) (hU : ¬ (T (M 3 v) 9 = 1 ∨ T (M 4 v) 9 = 1 ∨ (M 2 v = 3 ∧ T (M 4 v) 0 = 0))) : mt_nv M L T v 9 = 0 := by
  unfold mt_nv
  rw [if_neg (by omega), if_neg (by omega), if_neg hU, if_pos rfl]
theorem mt_nv10 {M : ma_M} {L T : Int → Int → Int} {v : Int} (h : M 2 v ≤ 6) (hU : ¬ (T (M 3 v) 9 = 1 ∨ T (M 4 v) 9 = 1 ∨ (M 2 v = 3 ∧ T (M 4 v) 0 = 0))) : mt_nv M L T v 10 = if T (M 3 v) 10 = 1 ∨ T (M 4 v) 10 = 1 ∨ ((M 2 v = 4 ∨ M 2 v = 5) ∧ T (M 3 v) 0 = T (M 4 v) 0) then 1 else 0 := by
  unfold mt_nv
  rw [if_neg (by omega), if_neg (by omega), if_neg hU, if_neg (by decide), if_pos rfl]
/-- frame of the reference's sweep -/
def mm_fs (M M2 : ma_M) : Prop := ∀ c k, c ≠ 91 → c ≠ 92 → c ≠ 93 → c ≠ 94 → M2 c k = M c k
theorem mm_fs_F {M M2 : ma_M} (hF : mr_FIX M) (h : mm_fs M M2) : mr_FIX M2 := md_fr hF (p := fun c => c = 91 ∨ c = 92 ∨ c = 93 ∨ c = 94) (fun c k hc => h c k (by omega) (by omega) (by omega) (by omega)) (fun c hc => by omega)
theorem mm_fs_I {M M2 : ma_M} (hI : mr_INV M) (h : mm_fs M M2) : mr_INV M2 := mr_keep95 hI (p := fun c => c = 91 ∨ c = 92 ∨ c = 93 ∨ c = 94) (fun c k hc => h c k (by omega) (by omega) (by omega) (by omega)) (fun c hc => ⟨by unfold mr_scr; omega, by omega⟩)
/-- what stands of an operation's node -/
def mt_opn (M : ma_M) (v : Int) : Prop := (0 ≤ M 2 v ∧ M 2 v ≤ 6) ∧ (0 ≤ M 3 v ∧ M 3 v < v) ∧ (0 ≤ M 4 v ∧ M 4 v < v) ∧ M 81 v = M 2 v ∧ M 82 v = M 3 v ∧ (M 2 v ≠ 6 → M 83 v = M 4 v) ∧ (M 2 v = 6 → M 83 v = M 5 v ∧ 0 ≤ M 5 v ∧ M 5 v ≤ 9 ∧ M 4 v = M 3 v)
theorem mt_opn_of {M : ma_M} (hI : mr_INV M) {v : Int} (h0 : 0 ≤ v) (hv : v < M 1 0) (hk : M 2 v ≤ 6) : mt_opn M v := by
  obtain ⟨a, b, c, d, f⟩ := hI.2.2.1 v h0 hv
  unfold mt_opn
  by_cases h : M 2 v ≤ 5
  · have b := b h
    exact ⟨⟨a.2.1, hk⟩, ⟨b.1, b.2.1⟩, ⟨b.2.2.1, b.2.2.2.1⟩, a.1, b.2.2.2.2.1, fun _ => b.2.2.2.2.2.1, fun z => by omega⟩
  · have c := c (by omega)
    exact ⟨⟨a.2.1, hk⟩, ⟨c.1, c.2.1⟩, ⟨by omega, by omega⟩, a.1, c.2.2.2.1, fun z => by omega, fun _ => ⟨c.2.2.2.2.1, c.2.2.2.2.2.1, c.2.2.2.2.2.2.1, c.2.2.1⟩⟩
set_option maxHeartbeats 1000000 in
theorem mm_work {M M1 : ma_M} (hI : mr_INV M) {L : Int → Int → Int} (hL : mt_Lb M L) (hF1 : mr_FIX M1) (hM1 : ∀ c k, 80 ≤ c → c ≤ 89 → M1 c k = M c k) {v : Int} (v0 : 0 ≤ v) (v1 : v < M 1 0) (hk : M 2 v ≤ 6) (hag : ∀ u, 0 ≤ u → u < v → mm_ag M1 (mt_V M L) u) {Q : Option ma_V → ma_S → ma_M → Prop} (cont : ∀ M2 : ma_M, mm_fw M1 M2 v → mm_ag M2 (mt_V M L) v → Q none mr_SH M2) : mr_do 91 [(2, 80), (0, v)] mr_SH M1 Q := by
  have hcn := hI.2.1
  unfold mr_cnt at hcn
  obtain ⟨hk0, ha0, hb0, h81, h82, h83, h6⟩ := mt_opn_of hI v0 v1 hk
  have e81 : M1 81 v = M 2 v := (hM1 81 v (by decide) (by decide)).trans h81
  have e82 : M1 82 v = M 3 v := (hM1 82 v (by decide) (by decide)).trans h82
  have ga := hag (M 3 v) ha0.1 ha0.2
  have gb := hag (M 4 v) hb0.1 hb0.2
  have ba := mt_V_b hI hL 25 (M 3 v) (by omega) ha0.1 (by omega)
  have bb := mt_V_b hI hL 25 (M 4 v) (by omega) hb0.1 (by omega)
  have hV : ∀ n, mt_V M L v n = _ := mt_VE hI L v0 v1
  have a9 : M1 91 (9 * M 3 v) = mt_V M L (M 3 v) 0 := by have := ga.1 0 (by decide) (by decide); rwa [Int.add_zero] at this
  have b9 : M1 91 (9 * M 4 v) = mt_V M L (M 4 v) 0 := by have := gb.1 0 (by decide) (by decide); rwa [Int.add_zero] at this
  have go : ma_wp 91 32 [(2, 80), (0, v), (0, M 2 v), (0, M 3 v), (0, M 4 v), (3, 0), (3, 0), (3, 0), (3, 0), (3, 0), (3, 0)] [] mr_SH M1 Q := by
    refine mm_wA hF1 v0 (by omega) ha0.1 (by omega) hb0.1 (by omega) (by rw [ga.2.1]; exact ba.2.1) (by rw [gb.2.1]; exact bb.2.1) (fun U hU => ?_)
    rw [ga.2.1, gb.2.1, b9] at hU
    rcases hU with ⟨rfl, hU⟩ | ⟨rfl, hU⟩
    · -- undefined
      have hF2 : mr_FIX (ma_up M1 93 v 1) := mr_FIX_up hF1 (by unfold mr_nst; omega)
      simp (disch := (first | assumption | omega | ((repeat (refine mr_FIX_up ?_ (by unfold mr_nst; omega))); assumption))) [s91_82, s91_83, x91_86, s91_87, x91_88, s91_91, s91_92, x91_95, x91_96, s91_97, s91_98, x91_99, x91_100, s91_101, ma_up_s]
      refine ⟨by omega, ?_⟩
      have hF3 : mr_FIX (ma_up (ma_up M1 93 v 1) 94 v 0) := mr_FIX_up hF2 (by unfold mr_nst; omega)
      refine mm_one hF3 v0 (by omega) (fun M2 hf hr => ?_)
      simp only [Option.toList_some, Option.toList_none, List.cons_append, List.nil_append]
      simp (disch := (first | assumption | omega | ((repeat (refine mr_FIX_up ?_ (by unfold mr_nst; omega))); assumption))) only [x91_104]
      refine cont M2 (mm_fw_r (mm_fw_up94 (mm_fw_up93 (mm_fw_0 M1 v))) hf) ⟨fun n n0 n1 => ?_, ?_, ?_⟩
      · rw [hr n n0 n1, hV n]
        rw [mt_nvU hk hU]
        split <;> split <;> omega
      · rw [hf.1 93 v (by decide) (by decide), ma_up_ne (by decide), ma_up_s, hV 9]
        rw [mt_nvU hk hU, if_pos rfl]
      · rw [hf.1 94 v (by decide) (by decide), ma_up_s, hV 10]
        rw [mt_nvU hk hU, if_neg (by decide)]
    · have hF2 : mr_FIX (ma_up M1 93 v 0) := mr_FIX_up hF1 (by unfold mr_nst; omega)
      simp (disch := (first | assumption | omega | ((repeat (refine mr_FIX_up ?_ (by unfold mr_nst; omega))); assumption))) [s91_82, s91_83, x91_86, s91_87, x91_88, ma_up_s]
      refine ⟨by omega, ?_⟩
      have q91 : ∀ k, ma_up M1 93 v 0 91 k = M1 91 k := fun k => ma_up_ne (by decide)
      have q94 : ∀ k, ma_up M1 93 v 0 94 k = M1 94 k := fun k => ma_up_ne (by decide)
      refine mm_wC hF2 v0 (by omega) ha0.1 (by omega) hb0.1 (by omega) (by rw [q94, ga.2.2]; exact ba.2.2) (by rw [q94, gb.2.2]; exact bb.2.2) (fun ch R hch hR => ?_)
      rw [q94, q94, q91, q91, ga.2.2, gb.2.2, a9, b9] at hR
      have hF3 : mr_FIX (ma_up (ma_up M1 93 v 0) 94 v R) := mr_FIX_up hF2 (by unfold mr_nst; omega)
      have q : ∀ k, ma_up (ma_up M1 93 v 0) 94 v R 91 k = M1 91 k := fun k => (ma_up_ne (by decide)).trans (ma_up_ne (by decide))
      have q3 : ∀ k, ma_up (ma_up M1 93 v 0) 94 v R 91 k = ma_up M1 93 v 0 91 k := fun k => ma_up_ne (by decide)
      rw [← q3 (9 * M 3 v), ← q3 (9 * M 4 v)]
      refine mm_wD hF3 hk0.1 hk v0 (by omega) ha0.1 (by omega) (by omega) hb0.1 (by omega) (by omega) (fun i i0 i1 => ?_) (fun i i0 i1 => ?_) hch (e := M 5 v) (fun z => ?_) (fun M2 hf hr => ?_)
      · rw [q, ga.1 i i0 i1]; exact ba.1 i i0 i1
      · rw [q, gb.1 i i0 i1]; exact bb.1 i i0 i1
      · have h6 := h6 z
        refine ⟨?_, h6.2.1, h6.2.2.1⟩
        rw [ma_up_ne (by decide), ma_up_ne (by decide), hM1 83 v (by decide) (by decide)]
        exact h6.1
      · refine cont M2 (mm_fw_r (mm_fw_up94 (mm_fw_up93 (mm_fw_0 M1 v))) hf) ⟨fun n n0 n1 => ?_, ?_, ?_⟩
        · rw [hr n n0 n1, hV n]
          rw [mt_nvO hk hU n1]
          exact mt_op_congr n0 n1 (by decide) (fun i i0 i1 => (q _).trans (ga.1 i i0 i1)) (fun i i0 i1 => (q _).trans (gb.1 i i0 i1))
        · rw [hf.1 93 v (by decide) (by decide), ma_up_ne (by decide), ma_up_s, hV 9]
          rw [mt_nv9 hk hU]
        · rw [hf.1 94 v (by decide) (by decide), ma_up_s, hV 10]
          rw [mt_nv10 hk hU]
          rcases hR with ⟨rfl, hR⟩ | ⟨rfl, hR⟩
          · rw [if_pos hR]
          · rw [if_neg hR]
  by_cases h : M 2 v = 6
  · have hba := (h6 h).2.2.2
    rw [hba, h] at go
    simp (disch := (first | assumption | omega | ((repeat (refine mr_FIX_up ?_ (by unfold mr_nst; omega))); assumption))) [x91, s91_0, s91_1, x91_4, s91_5, x91_6, s91_7, s91_8, x91_11, s91_12, x91_13, x91_14, x91_15, x91_17, x91_20, x91_21, s91_24, s91_25, x91_28, s91_29, x91_30, e81, e82, h]
    exact ⟨by omega, go⟩
  · have e83 : M1 83 v = M 4 v := (hM1 83 v (by decide) (by decide)).trans (h83 h)
    simp (disch := (first | assumption | omega | ((repeat (refine mr_FIX_up ?_ (by unfold mr_nst; omega))); assumption))) [x91, s91_0, s91_1, x91_4, s91_5, x91_6, s91_7, s91_8, x91_11, s91_12, x91_13, x91_14, x91_15, x91_17, x91_20, x91_21, s91_24, s91_25, x91_28, s91_29, x91_30, e81, e82, e83, h]
    exact ⟨by omega, go⟩
/-- the loop that takes an input's line -/
theorem mm_swI {M1 : ma_M} (hF1 : mr_FIX M1) {v j : Int} (v0 : 0 ≤ v) (v1 : v < 24) (j0 : 0 ≤ j) (j1 : j < 5) (h82 : M1 82 v = j) {Q : Option ma_V → ma_S → ma_M → Prop} (cont : ∀ (M2 : ma_M) (a2 : ma_V), mm_fr M1 M2 v → (∀ n, 0 ≤ n → n ≤ 8 → M2 91 (9 * v + n) = M1 90 (9 * j + n)) → ma_wp 92 123 [(2, 80), (0, v), a2] [] mr_SH M2 Q) : ∀ (m : Nat) (i : Int) (M2 : ma_M), (9 - i).toNat < m → 0 ≤ i → i ≤ 9 → mm_fr M1 M2 v → (∀ n, 0 ≤ n → n < i → M2 91 (9 * v + n) = M1 90 (9 * j + n)) → ma_wp 92 37 [(2, 80), (0, v), (0, i)] [] mr_SH M2 Q := by
  intro m
  induction m with
  | zero => intro i M2 h; omega
  | succ m ih =>
    intro i M2 hm h0 h1 hf hr
    have hF2 := mm_fr_F hF1 hf
    have e1 : M2 82 v = j := (hf.1 82 v (by decide) (by decide)).trans h82
    have e2 : M2 90 (9 * j + i) = M1 90 (9 * j + i) := hf.1 90 _ (by decide) (by decide)
    simp (disch := (first | assumption | omega | ((repeat (refine mr_FIX_up ?_ (by unfold mr_nst; omega))); assumption))) only [x92_37, x92_38, x92_40]
    refine ⟨fun h => ?_, fun h => ?_⟩
    · simp (disch := (first | assumption | omega | ((repeat (refine mr_FIX_up ?_ (by unfold mr_nst; omega))); assumption))) only [x92_76]
      exact cont M2 _ hf (fun n n0 n1 => hr n n0 (by omega))
    · simp (disch := (first | assumption | omega | ((repeat (refine mr_FIX_up ?_ (by unfold mr_nst; omega))); assumption))) only [s92_43, s92_44, x92_47, x92_49, x92_50, x92_51, x92_52, s92_53, s92_54, x92_57, s92_59, s92_60, x92_63, s92_64, x92_65, x92_66, x92_67, s92_68, s92_69, x92_70, x92_73, ma_32i, e1, e2]
      refine ⟨by omega, by omega, by omega, ih (i + 1) _ (by omega) (by omega) (by omega) (mm_fr_up hf (by omega) (by omega)) (fun n n0 n1 => ?_)⟩
      by_cases e : n = i
      · subst e
        rw [ma_up_s]
      · rw [ma_up_ne2 (by omega)]
        exact hr n n0 (by omega)
set_option maxHeartbeats 1000000 in
theorem mm_swl {M S : ma_M} (hI : mr_INV M) (hFS : mr_FIX S) (hS : ∀ c k, 80 ≤ c → c ≤ 89 → S c k = M c k) {L : Int → Int → Int} (hL : mt_Lb M L) (hLM : ∀ j n, 0 ≤ j → j < M 1 1 → 0 ≤ n → n ≤ 8 → S 90 (9 * j + n) = L j n) {Q : Option ma_V → ma_S → ma_M → Prop} (cont : ∀ M2 : ma_M, mm_fs S M2 → (∀ u, 0 ≤ u → u < M 1 0 → mm_ag M2 (mt_V M L) u) → Q none mr_SH M2) : ∀ (m : Nat) (v : Int) (M1 : ma_M) (a2 : ma_V), (M 1 0 - v).toNat < m → 0 ≤ v → v ≤ M 1 0 → mm_fs S M1 → (∀ u, 0 ≤ u → u < v → mm_ag M1 (mt_V M L) u) → ma_wp 92 2 [(2, 80), (0, v), a2] [] mr_SH M1 Q := by
  have hcn := hI.2.1
  unfold mr_cnt at hcn
  intro m
  induction m with
  | zero => intro v M1 a2 h; omega
  | succ m ih =>
    intro v M1 a2 hm h0 h1 hf hag
    have hF1 := mm_fs_F hFS hf
    have e80 : M1 80 0 = M 1 0 := (hf 80 0 (by decide) (by decide) (by decide) (by decide)).trans ((hS 80 0 (by decide) (by decide)).trans hcn.1.2.2)
    simp (disch := (first | assumption | omega | ((repeat (refine mr_FIX_up ?_ (by unfold mr_nst; omega))); assumption))) only [x92_2, s92_3, s92_4, x92_7, e80]
    refine ⟨fun h => ?_, fun h => ?_⟩
    · obtain rfl : v = M 1 0 := by omega
      simp (disch := (first | assumption | omega | ((repeat (refine mr_FIX_up ?_ (by unfold mr_nst; omega))); assumption))) only [x92_129]
      exact cont M1 hf hag
    · have nx : ∀ (M2 : ma_M) (a2 : ma_V), mm_fw M1 M2 v → mm_ag M2 (mt_V M L) v → ma_wp 92 123 [(2, 80), (0, v), a2] [] mr_SH M2 Q := by
        intro M2 a2 hf2 hv
        simp (disch := (first | assumption | omega | ((repeat (refine mr_FIX_up ?_ (by unfold mr_nst; omega))); assumption))) only [x92_123, x92_126, ma_32i]
        refine ih (v + 1) M2 a2 (by omega) (by omega) (by omega) (fun c k c1 c2 c3 c4 => (hf2.1 c k c1 c2 c3 c4).trans (hf c k c1 c2 c3 c4)) (fun u u0 u1 => ?_)
        by_cases e : u = v
        · subst e; exact hv
        · exact mm_ag_fw hf2 e (hag u u0 (by omega))
      obtain ⟨a, b, c, d, f⟩ := hI.2.2.1 v h0 (by omega)
      have e81 : M1 81 v = M 2 v := (hf 81 v (by decide) (by decide) (by decide) (by decide)).trans ((hS 81 v (by decide) (by decide)).trans a.1)
      have hV : ∀ n, mt_V M L v n = _ := mt_VE hI L h0 (show v < M 1 0 by omega)
      simp (disch := (first | assumption | omega | ((repeat (refine mr_FIX_up ?_ (by unfold mr_nst; omega))); assumption))) only [s92_10, s92_11, x92_14, s92_15, x92_16, x92_18, e81]
      refine ⟨by omega, fun h7 => ?_, fun h7 => ?_⟩
      · simp (disch := (first | assumption | omega | ((repeat (refine mr_FIX_up ?_ (by unfold mr_nst; omega))); assumption))) only [s92_79, s92_80, x92_83, s92_84, x92_85, x92_87, e81]
        refine ⟨by omega, fun h8 => ?_, fun h8 => ?_⟩
        · simp (disch := (first | assumption | omega | ((repeat (refine mr_FIX_up ?_ (by unfold mr_nst; omega))); assumption))) only [s92_118, x92_119, s92_120]
          refine mm_work hI hL hF1 (fun c k c0 c1 => (hf c k (by omega) (by omega) (by omega) (by omega)).trans (hS c k c0 c1)) h0 (by omega) (by omega) hag (fun M2 hf2 hv => ?_)
          simp only [Option.toList_some, Option.toList_none, List.cons_append, List.nil_append]
          exact nx M2 a2 hf2 hv
        · have h8 : M 2 v = 8 := by omega
          have f := f h8
          have e84 : M1 84 v = M 5 v := (hf 84 v (by decide) (by decide) (by decide) (by decide)).trans ((hS 84 v (by decide) (by decide)).trans f.1)
          have hF2 : mr_FIX (ma_up M1 93 v 0) := mr_FIX_up hF1 (by unfold mr_nst; omega)
          have hF3 : mr_FIX (ma_up (ma_up M1 93 v 0) 94 v 0) := mr_FIX_up hF2 (by unfold mr_nst; omega)
          have e84' : ma_up (ma_up M1 93 v 0) 94 v 0 84 v = M 5 v := (ma_up_ne (by decide)).trans ((ma_up_ne (by decide)).trans e84)
          simp (disch := (first | assumption | omega | ((repeat (refine mr_FIX_up ?_ (by unfold mr_nst; omega))); assumption))) only [s92_90, s92_91, x92_94, x92_95, s92_96, s92_97, s92_98, x92_101, x92_102, s92_103, s92_104, x92_105, s92_106, s92_107, x92_110, s92_111, s92_112, e84']
          refine ⟨⟨by omega, by simp⟩, ⟨by omega, by simp⟩, by omega, ?_⟩
          refine mm_one hF3 h0 (by omega) (fun M2 hf2 hr => ?_)
          simp only [Option.toList_some, Option.toList_none, List.cons_append, List.nil_append]
          simp (disch := (first | assumption | omega | ((repeat (refine mr_FIX_up ?_ (by unfold mr_nst; omega))); assumption))) only [x92_115]
          refine nx M2 _ (mm_fw_r (mm_fw_up94 (mm_fw_up93 (mm_fw_0 M1 v))) hf2) ⟨fun n n0 n1 => ?_, ?_, ?_⟩
          · rw [hr n n0 n1, hV n]
            rw [mt_nv8 h8]
          · rw [hf2.1 93 v (by decide) (by decide), ma_up_ne (by decide), ma_up_s, hV 9]
            rw [mt_nv8 h8, if_neg (by decide)]
          · rw [hf2.1 94 v (by decide) (by decide), ma_up_s, hV 10]
            rw [mt_nv8 h8, if_neg (by decide)]
      · have h7 : M 2 v = 7 := by omega
        have d := d h7
        have hF2 : mr_FIX (ma_up M1 93 v 0) := mr_FIX_up hF1 (by unfold mr_nst; omega)
        have hF3 : mr_FIX (ma_up (ma_up M1 93 v 0) 94 v 0) := mr_FIX_up hF2 (by unfold mr_nst; omega)
        have e82 : ma_up (ma_up M1 93 v 0) 94 v 0 82 v = M 5 v := (ma_up_ne (by decide)).trans ((ma_up_ne (by decide)).trans ((hf 82 v (by decide) (by decide) (by decide) (by decide)).trans ((hS 82 v (by decide) (by decide)).trans d.1)))
        simp (disch := (first | assumption | omega | ((repeat (refine mr_FIX_up ?_ (by unfold mr_nst; omega))); assumption))) only [s92_21, s92_22, x92_25, x92_26, s92_27, s92_28, s92_29, x92_32, x92_33, s92_34, x92_35, x92_36]
        refine ⟨⟨by omega, by simp⟩, ⟨by omega, by simp⟩, ?_⟩
        refine mm_swI hF3 h0 (by omega) d.2.1 (by omega) e82 (fun M2 a2 hf2 hr => ?_) 10 0 _ (by decide) (by decide) (by decide) (mm_fr_r _ v) (fun n n0 n1 => by omega)
        refine nx M2 _ (mm_fw_r (mm_fw_up94 (mm_fw_up93 (mm_fw_0 M1 v))) hf2) ⟨fun n n0 n1 => ?_, ?_, ?_⟩
        · rw [hr n n0 n1, hV n]
          rw [mt_nv7 h7, if_pos (by omega), ma_up_ne (by decide), ma_up_ne (by decide), hf 90 _ (by decide) (by decide) (by decide) (by decide)]
          exact hLM _ n d.2.1 d.2.2.1 n0 n1
        · rw [hf2.1 93 v (by decide) (by decide), ma_up_ne (by decide), ma_up_s, hV 9]
          rw [mt_nv7 h7, if_neg (by decide)]
        · rw [hf2.1 94 v (by decide) (by decide), ma_up_s, hV 10]
          rw [mt_nv7 h7, if_neg (by decide)]
/-- the sweep at a state that has the recorded program of a state between calls -/
theorem mm_sweepS {M S : ma_M} (hI : mr_INV M) (hFS : mr_FIX S) (hS : ∀ c k, 80 ≤ c → c ≤ 89 → S c k = M c k) {L : Int → Int → Int} (hL : mt_Lb M L) (hLM : ∀ j n, 0 ≤ j → j < M 1 1 → 0 ≤ n → n ≤ 8 → S 90 (9 * j + n) = L j n) {Q : Option ma_V → ma_S → ma_M → Prop} (cont : ∀ M2 : ma_M, mm_fs S M2 → (∀ u, 0 ≤ u → u < M 1 0 → mm_ag M2 (mt_V M L) u) → Q none mr_SH M2) : mr_do 92 [(2, 80)] mr_SH S Q := by
  have hcn := hI.2.1
  unfold mr_cnt at hcn
  simp only [x92, x92_0, x92_1]
  exact mm_swl hI hFS hS hL hLM cont 25 0 S _ (by omega) (by omega) (by omega) (fun _ _ _ _ _ _ => rfl) (fun u u0 u1 => by omega)
theorem mm_sweep {M : ma_M} (hI : mr_INV M) {L : Int → Int → Int} (hL : mt_Lb M L) (hLM : ∀ j n, 0 ≤ j → j < M 1 1 → 0 ≤ n → n ≤ 8 → M 90 (9 * j + n) = L j n) {Q : Option ma_V → ma_S → ma_M → Prop} (cont : ∀ M2 : ma_M, mm_fs M M2 → (∀ u, 0 ≤ u → u < M 1 0 → mm_ag M2 (mt_V M L) u) → Q none mr_SH M2) : mr_do 92 [(2, 80)] mr_SH M Q :=
  mm_sweepS hI hI.1 (fun _ _ _ _ => rfl) hL hLM cont
