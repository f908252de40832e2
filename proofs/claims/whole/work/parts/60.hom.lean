/-! a line stretched by c: coefficient n is multiplied by c to the n -/
theorem mh_mul {c : mq_F} {x x' y y' : Int → Int} {m n : Int} (hx : ∀ i, 0 ≤ i → i ≤ m → mq (x' i) = mf_p c i.toNat * mq (x i)) (hy : ∀ i, 0 ≤ i → i ≤ m → mq (y' i) = mf_p c i.toNat * mq (y i)) (n0 : 0 ≤ n) (n1 : n ≤ m) : mq (mt_mul x' y' n) = mf_p c n.toNat * mq (mt_mul x y n) := by
  rw [mq_mt_mul, mq_mt_mul]
  unfold mf_mul
  rw [← mf_mull]
  refine mf_congr _ (fun i i0 i1 => ?_)
  show mq (x' i) * mq (y' (n - i)) = mf_p c n.toNat * (mq (x i) * mq (y (n - i)))
  rw [hx i i0 (by omega), hy (n - i) (by omega) (by omega)]
  have e : n.toNat = i.toNat + (n - i).toNat := by omega
  rw [e, mf_pa]
  grind
theorem mh_pw {c : mq_F} {x x' : Int → Int} {m : Int} (hx : ∀ i, 0 ≤ i → i ≤ m → mq (x' i) = mf_p c i.toNat * mq (x i)) : ∀ (e : Nat) (n : Int), 0 ≤ n → n ≤ m → mq (mt_pw x' e n) = mf_p c n.toNat * mq (mt_pw x e n) := by
  intro e
  induction e with
  | zero =>
    intro n n0 n1
    show mq (mt_one n) = mf_p c n.toNat * mq (mt_one n)
    unfold mt_one
    by_cases h : n = 0
    · subst h
      rw [if_pos rfl]
      show mq 1 = 1 * mq 1
      grind
    · rw [if_neg h, mq_0]
      grind
  | succ e ih =>
    intro n n0 n1
    exact mh_mul (fun i i0 i1 => ih i i0 i1) hx n0 n1
theorem mq_inv_cg {a b : Int} (h : mq a = mq b) : mq (mt_inv a) = mq (mt_inv b) := by
  unfold mt_inv
  rw [mq_p, mq_p, h]
theorem mh_div {c : mq_F} {x x' y y' : Int → Int} {m : Int} (hm : m ≤ 8) (hx : ∀ i, 0 ≤ i → i ≤ m → mq (x' i) = mf_p c i.toNat * mq (x i)) (hy : ∀ i, 0 ≤ i → i ≤ m → mq (y' i) = mf_p c i.toNat * mq (y i)) : ∀ (q : Nat) (n : Int), n.toNat < q → 0 ≤ n → n ≤ m → mq (mt_div x' y' n) = mf_p c n.toNat * mq (mt_div x y n) := by
  intro q
  induction q with
  | zero => intro n h; omega
  | succ q ih =>
    intro n hq n0 n1
    have hi : mq (mt_inv (y' 0)) = mq (mt_inv (y 0)) := mq_inv_cg (by
      rw [hy 0 (by decide) (by omega)]
      show 1 * mq (y 0) = mq (y 0)
      grind)
    rw [mt_div_eq x' y' n0 (by omega), mt_div_eq x y n0 (by omega), mq_mod, mq_mod, mq_mul, mq_mul, mq_sub, mq_sub, mq_s, mq_s, hi, hx n n0 n1]
    have h : mf_s (fun i => mq (y' (i + 1) * mt_div x' y' (n - 1 - i))) n.toNat = mf_p c n.toNat * mf_s (fun i => mq (y (i + 1) * mt_div x y (n - 1 - i))) n.toNat := by
      rw [← mf_mull]
      refine mf_congr _ (fun i i0 i1 => ?_)
      rw [mq_mul, mq_mul, hy (i + 1) (by omega) (by omega), ih (n - 1 - i) (by omega) (by omega) (by omega)]
      have e : n.toNat = (i + 1).toNat + (n - 1 - i).toNat := by omega
      rw [e, mf_pa]
      grind
    rw [h]
    grind
theorem mh_op {c : mq_F} {k : Int} {e : Nat} {x x' y y' : Int → Int} {m n : Int} (hm : m ≤ 8) (hx0 : x' 0 = x 0) (hy0 : y' 0 = y 0) (hx : ∀ i, 0 ≤ i → i ≤ m → mq (x' i) = mf_p c i.toNat * mq (x i)) (hy : ∀ i, 0 ≤ i → i ≤ m → mq (y' i) = mf_p c i.toNat * mq (y i)) (n0 : 0 ≤ n) (n1 : n ≤ m) : mq (mt_op k e x' y' n) = mf_p c n.toNat * mq (mt_op k e x y n) := by
  unfold mt_op
  rw [hx0, hy0]
  have hxn := hx n n0 n1
  have hyn := hy n n0 n1
  split
  · rw [mq_mod, mq_mod, mq_add, mq_add, hxn, hyn]; grind
  · split
    · rw [mq_mod, mq_mod, mq_sub, mq_sub, hxn, hyn]; grind
    · split
      · exact mh_mul hx hy n0 n1
      · split
        · exact mh_div hm hx hy (n.toNat + 1) n (by omega) n0 n1
        · split
          · exact mh_pw hx e n n0 n1
          · split
            · exact hxn
            · exact hyn
theorem mh_V {M : ma_M} (hI : mr_INV M) {c : mq_F} {L L' : Int → Int → Int} {m : Int} (m0 : 0 ≤ m) (m1 : m ≤ 8) (h0 : ∀ j, 0 ≤ j → j < M 1 1 → L' j 0 = L j 0) (hL : ∀ j n, 0 ≤ j → j < M 1 1 → 0 ≤ n → n ≤ m → mq (L' j n) = mf_p c n.toNat * mq (L j n)) : ∀ (q : Nat) (v : Int), v.toNat < q → 0 ≤ v → v < M 1 0 → ∀ n, 0 ≤ n → n ≤ m → mq (mt_V M L' v n) = mf_p c n.toNat * mq (mt_V M L v n) := by
  have h00 : ∀ v, 0 ≤ v → v < M 1 0 → mt_V M L' v 0 = mt_V M L v 0 ∧ mt_V M L' v 9 = mt_V M L v 9 := fun v v0 v1 => by
    obtain ⟨a, b, _⟩ := mt_V_cg hI (m := 0) (L := L') (L' := L) (by decide) (by decide) (fun j n j0 j1 n0 n1 => by obtain rfl := Int.le_antisymm n1 n0; exact h0 j j0 j1) (v.toNat + 1) v (by omega) v0 v1
    exact ⟨a 0 (by decide) (by decide), b⟩
  intro q
  induction q with
  | zero => intro v h; omega
  | succ q ih =>
    intro v hq v0 hv n n0 n1
    have hV := mt_VE hI L v0 hv n
    have hV' := mt_VE hI L' v0 hv n
    have hnd := hI.2.2.1 v v0 hv
    have hk8 : M 2 v ≤ 8 := hnd.1.2.2
    by_cases hop : M 2 v ≤ 6
    · obtain ⟨hk0, ha0, hb0, -⟩ := mt_opn_of hI v0 hv hop
      have iha := ih (M 3 v) (by omega) ha0.1 (by omega)
      have ihb := ih (M 4 v) (by omega) hb0.1 (by omega)
      have ea := h00 (M 3 v) ha0.1 (by omega)
      have eb := h00 (M 4 v) hb0.1 (by omega)
      by_cases hU : mt_V M L (M 3 v) 9 = 1 ∨ mt_V M L (M 4 v) 9 = 1 ∨ (M 2 v = 3 ∧ mt_V M L (M 4 v) 0 = 0)
      · have hU' : mt_V M L' (M 3 v) 9 = 1 ∨ mt_V M L' (M 4 v) 9 = 1 ∨ (M 2 v = 3 ∧ mt_V M L' (M 4 v) 0 = 0) := by
          rw [ea.2, eb.2, eb.1]; exact hU
        rw [hV, hV', mt_nvU hop hU, mt_nvU hop hU', if_neg (by omega), mq_0]
        grind
      · have hU' : ¬ (mt_V M L' (M 3 v) 9 = 1 ∨ mt_V M L' (M 4 v) 9 = 1 ∨ (M 2 v = 3 ∧ mt_V M L' (M 4 v) 0 = 0)) := by
          rw [ea.2, eb.2, eb.1]; exact hU
        rw [hV, hV', mt_nvO hop hU (by omega), mt_nvO hop hU' (by omega)]
        exact mh_op m1 ea.1 eb.1 iha ihb n0 n1
    · by_cases h8 : M 2 v = 8
      · rw [hV, hV', mt_nv8 h8, mt_nv8 h8]
        by_cases h : n = 0
        · subst h
          rw [if_pos rfl]
          show mq (M 5 v) = 1 * mq (M 5 v)
          grind
        · rw [if_neg h, mq_0]
          grind
      · have h7 : M 2 v = 7 := by omega
        have d := hnd.2.2.2.1 h7
        rw [hV, hV', mt_nv7 h7, mt_nv7 h7, if_pos (by omega), if_pos (by omega)]
        exact hL _ n d.2.1 d.2.2.1 n0 n1
theorem mq_2 : mq 2 = 2 := rfl
/-- twice along input j: the second coefficient is four times as great -/
theorem mh_2 {M : ma_M} (hI : mr_INV M) {p : Int → Int} {j v : Int} (v0 : 0 ≤ v) (hv : v < M 1 0) : mq (mt_V M (mt_L p (mt_e j j)) v 2) = 4 * mq (mt_V M (mt_L p (mt_e j (-1))) v 2) := by
  have h := mh_V hI (c := 2) (L := mt_L p (mt_e j (-1))) (L' := mt_L p (mt_e j j)) (m := 2) (by decide) (by decide) (fun _ _ _ => rfl) (fun u n u0 u1 n0 n1 => by
    have : n = 0 ∨ n = 1 ∨ n = 2 := by omega
    rcases this with rfl | rfl | rfl
    · show mq (p u) = 1 * mq (p u)
      grind
    · show mq (mt_e j j u) = (1 * 2) * mq (mt_e j (-1) u)
      unfold mt_e
      rw [if_neg (show ¬ u = -1 by omega)]
      by_cases e : u = j
      · rw [if_pos e]
        rfl
      · rw [if_neg e]
        rfl
    · show mq 0 = (1 * 2 * 2) * mq 0
      rfl) (v.toNat + 1) v (by omega) v0 hv 2 (by decide) (by decide)
  rw [h]
  show (1 * 2 * 2 : mq_F) * _ = _
  grind

theorem mt_c_st {V : Int → Int → Int} {v k : Int} (h9 : V v 9 = 0 ∨ V v 9 = 1) (h10 : V v 10 = 0 ∨ V v 10 = 1) : (mx_st V v = 0 ∧ V v 9 = 0 ∧ V v 10 = 0 ∧ mt_c V v k = V v k) ∨ (mx_st V v ≠ 0 ∧ mt_c V v k = mx_st V v ∧ (mx_st V v = -1 ∨ mx_st V v = -2)) := by
  unfold mx_st mt_c
  rcases h9 with h | h
  · rcases h10 with h' | h'
    · rw [h, h']
      exact Or.inl ⟨rfl, rfl, rfl, rfl⟩
    · rw [h, h']
      exact Or.inr ⟨by decide, rfl, Or.inr rfl⟩
  · rw [h, if_pos rfl, if_pos rfl]
    exact Or.inr ⟨by decide, rfl, Or.inl rfl⟩
theorem mm_lcge {x y : Int} : 0 ≤ ma_lcmp x y ↔ y ≤ x := by
  unfold ma_lcmp
  split
  · omega
  · split <;> omega
/-! the program's second -/
set_option maxHeartbeats 2000000 in
theorem mx_second {M : ma_M} (hI : mr_INV M) {i j k : Int} (c1 : 0 ≤ i) (c2 : i < M 0 11) (c3 : 0 ≤ j) (c4 : j < M 1 1) (c5 : 0 ≤ k) (c6 : k < M 1 1) {Q : Option ma_V → ma_S → ma_M → Prop} (q1 : mx_st (mt_V M (mt_L (M 50) (mt_e j k))) (M 54 i) ≠ 0 → ∀ M2 : ma_M, mx_fd M M2 → mr_INV M2 → Q (some (0, mx_st (mt_V M (mt_L (M 50) (mt_e j k))) (M 54 i))) mr_SH M2) (q2 : mx_st (mt_V M (mt_L (M 50) (mt_e j k))) (M 54 i) = 0 → ∀ M2 : ma_M, mx_fd M M2 → mr_INV M2 → Q (some (0, (mt_V M (mt_L (M 50) (mt_e j k)) (M 54 i) 2 - (mt_V M (mt_L (M 50) (mt_e j (-1))) (M 54 i) 2 + mt_V M (mt_L (M 50) (mt_e k (-1))) (M 54 i) 2)) % 65521)) mr_SH M2) : mr_do 52 [(2, 0), (0, i), (0, j), (0, k)] mr_SH M Q := by
  have hF := hI.1
  have h5 : M 1 1 ≤ 5 := hI.2.1.2.1.2.1
  have hO : M 0 11 ≤ 5 := hI.2.1.2.2.2.1
  have hN : M 1 0 ≤ 24 := hI.2.1.1.2.1
  have ho := hI.2.2.2.2.2.2.1 i c1 c2
  have d1 : ¬ i < 0 := by omega
  have d2 : ¬ M 0 11 ≤ i := by omega
  have d3 : ¬ j < 0 := by omega
  have d4 : ¬ M 1 1 ≤ j := by omega
  have d5 : ¬ k < 0 := by omega
  have d6 : ¬ M 1 1 ≤ k := by omega
  have bL : ∀ a b, mt_Lb M (mt_L (M 50) (mt_e a b)) := fun a b => mt_L_b (mr_pt1 hI 50 (by omega)) (fun u _ _ => mt_e_b a b u)
  have bV : ∀ a b, _ := fun a b => mt_V_b hI (bL a b) 25 (M 54 i) (by omega) ho.2.1 ho.2.2
  have fl : ∀ a, mt_V M (mt_L (M 50) (mt_e a (-1))) (M 54 i) 9 = mt_V M (mt_L (M 50) (mt_e j k)) (M 54 i) 9 ∧ mt_V M (mt_L (M 50) (mt_e a (-1))) (M 54 i) 10 = mt_V M (mt_L (M 50) (mt_e j k)) (M 54 i) 10 := fun a => (mt_V_cg hI (m := 0) (by decide) (by decide) (fun u n _ _ n0 n1 => by obtain rfl := Int.le_antisymm n1 n0; rfl) ((M 54 i).toNat + 1) (M 54 i) (by omega) ho.2.1 ho.2.2).2
  simp (disch := (first | assumption | omega | ((repeat (refine mr_FIX_up ?_ (by unfold mr_nst; omega))); assumption))) [x52, s52_0, x52_1, s52_2, x52_5, s52_8, s52_9, x52_12, s52_13, x52_16, s52_19, s52_20, x52_23, s52_24, x52_27, x52_30, x52_32, s52_33, s52_34, x61, x61_0, x61_1, x61_4, s61_5, s61_6, x61_9, x61_12, x61_13, x61_16, x61_17, x6, x6_0, x6_1, x6_4, s6_5, s6_6, x6_9, x6_12, x6_13, x6_16, x6_17, d1, d2, d3, d4, d5, d6]
  refine mx_clear hI (fun M1 hf1 hz => ?_)
  have hI1 := mr_k52 hI hf1
  have hF1 := hI1.1
  have hF2 : mr_FIX (ma_up M1 52 j 1) := mr_FIX_up hF1 (by unfold mr_nst; omega)
  have ez : M1 52 j = 0 := hz j c3 (by omega)
  have ew : ma_up M1 52 j 1 52 k = if k = j then 1 else 0 := by
    by_cases e : k = j
    · rw [e, ma_up_s, if_pos rfl]
    · rw [ma_up_ne2 e, if_neg e]; exact hz k c5 (by omega)
  have bw : 0 ≤ (if k = j then (1 : Int) else 0) ∧ (if k = j then (1 : Int) else 0) ≤ 1 := by split <;> decide
  have hF3 : mr_FIX (ma_up (ma_up M1 52 j 1) 52 k ((if k = j then 1 else 0) + 1)) := mr_FIX_up hF2 (by unfold mr_nst; omega)
  have e01 : (0 : Int) + 1 = 1 := rfl
  simp only [Option.toList_some, Option.toList_none, List.cons_append, List.nil_append]
  simp (disch := (first | assumption | omega | ((repeat (refine mr_FIX_up ?_ (by unfold mr_nst; omega))); assumption))) only [s52_37, s52_38, x52_41, x52_42, s52_43, x52_44, x52_45, s52_46, s52_47, s52_48, x52_51, x52_52, s52_53, x52_54, x52_55, s52_56, s52_57, x52_58, s52_59, s52_60, x52_63, s52_64, ez, ew, ma_32i, e01]
  refine ⟨by omega, by omega, by omega, by omega, ?_⟩
  refine mx_seed hI (D := mt_e j k) (fun c x hc => (ma_up_ne hc).trans ((ma_up_ne hc).trans (hf1 c x hc))) (fun u u0 u1 => ⟨?_, mt_e_b _ _ _⟩) c1 c2 (by decide) (by decide) (fun M2 hf2 hI2 hst => ?_)
  · unfold mt_e
    by_cases e : u = k
    · subst e
      rw [ma_up_s, if_pos rfl]
    · rw [ma_up_ne2 e, if_neg e, Int.add_zero]
      by_cases e2 : u = j
      · rw [e2, ma_up_s, if_pos rfl]
      · rw [ma_up_ne2 e2, if_neg e2]; exact hz u u0 u1
  · have hF4 := hI2.1
    have e54 : M2 54 i = M 54 i := hf2 54 i (by decide) (by decide)
    have i5 : 0 ≤ i ∧ i < 5 := by omega
    have v24 : 0 ≤ M 54 i ∧ M 54 i < 24 := by omega
    simp only [Option.toList_some, Option.toList_none, List.cons_append, List.nil_append]
    rcases mt_c_st (k := 2) (bV j k).2.1 (bV j k).2.2 with ⟨s0, f9, f10, s1⟩ | ⟨s0, s1, -⟩
    · rw [s1]
      rw [s0] at hst
      simp (disch := (first | assumption | omega | ((repeat (refine mr_FIX_up ?_ (by unfold mr_nst; omega))); assumption))) [x52_67, s52_69, s52_70, s52_73, s52_76, s52_77, x52_80, s52_81, s52_82, x52_83, x52_86, x52_88, s52_89, x52_90, x52_91, x52_92, s52_93, e54, hst]
      refine ⟨i5, v24, ?_⟩
      have e11 : M2 1 1 = M 1 1 := hf2 1 1 (by decide) (by decide)
      have e011 : M2 0 11 = M 0 11 := hf2 0 11 (by decide) (by decide)
      have e50 : M2 50 = M 50 := funext (fun x => hf2 50 x (by decide) (by decide))
      have eV : ∀ L, mt_V M2 L = mt_V M L := fun L => mt_V_M (fun c x hc => hf2 c x (by omega) (by omega)) L
      have vj : mt_c (mt_V M (mt_L (M 50) (mt_e j (-1)))) (M 54 i) 2 = mt_V M (mt_L (M 50) (mt_e j (-1))) (M 54 i) 2 := by
        unfold mt_c
        rw [(fl j).1, (fl j).2, f9, f10]; rfl
      have vk : mt_c (mt_V M (mt_L (M 50) (mt_e k (-1)))) (M 54 i) 2 = mt_V M (mt_L (M 50) (mt_e k (-1))) (M 54 i) 2 := by
        unfold mt_c
        rw [(fl k).1, (fl k).2, f9, f10]; rfl
      refine mx_byin hI2 c1 (by omega) c3 (by omega) (by decide) (by decide) (fun M3 hf3 hI3 => ?_)
      have hF5 := hI3.1
      rw [e50, eV, e54, vj]
      simp only [Option.toList_some, Option.toList_none, List.cons_append, List.nil_append]
      simp (disch := (first | assumption | omega | ((repeat (refine mr_FIX_up ?_ (by unfold mr_nst; omega))); assumption))) only [s52_96, x52_97, x52_98, x52_99, s52_100]
      have f50 : M3 50 = M 50 := funext (fun x => (hf3 50 x (by decide) (by decide)).trans (hf2 50 x (by decide) (by decide)))
      have f54 : M3 54 i = M 54 i := (hf3 54 i (by decide) (by decide)).trans e54
      have fV : ∀ L, mt_V M3 L = mt_V M L := fun L => (mt_V_M (fun c x hc => hf3 c x (by omega) (by omega)) L).trans (eV L)
      refine mx_byin hI3 c1 (by rw [hf3 0 11 (by decide) (by decide)]; omega) c5 (by rw [hf3 1 1 (by decide) (by decide)]; omega) (by decide) (by decide) (fun M4 hf4 hI4 => ?_)
      rw [f50, fV, f54, vk]
      have b1 := (bV j (-1)).1 2 (by decide) (by decide)
      have b2 := (bV k (-1)).1 2 (by decide) (by decide)
      have b3 := (bV j k).1 2 (by decide) (by decide)
      simp only [Option.toList_some, Option.toList_none, List.cons_append, List.nil_append]
      simp (disch := (first | assumption | omega | ((repeat (refine mr_FIX_up ?_ (by unfold mr_nst; omega))); assumption))) only [x52_103, x52_104, x52_106, x52_108, x52_109, x52_111, x52_112, x52_113, ma_32i, ma_64i, mr_standFor, Option.toList_some, Option.toList_none, List.cons_append, List.nil_append]
      simp (disch := (first | assumption | omega | ((repeat (refine mr_FIX_up ?_ (by unfold mr_nst; omega))); assumption))) only [x52_116]
      exact q2 s0 M4 (fun c x h1 h2 => (hf4 c x h1 h2).trans ((hf3 c x h1 h2).trans (hf2 c x h1 h2))) hI4
    · rw [s1]
      have s0' : ¬ M2 34 (M 54 i) = 0 := by rw [hst]; exact s0
      simp (disch := (first | assumption | omega | ((repeat (refine mr_FIX_up ?_ (by unfold mr_nst; omega))); assumption))) [x52_67, s52_69, s52_70, s52_73, s52_76, s52_77, x52_80, s52_81, s52_82, x52_83, x52_86, x52_88, e54, s0']
      exact ⟨i5, v24, q1 s0 M2 hf2 hI2⟩
/-! the reference's second -/
set_option maxHeartbeats 2000000 in
theorem mm_second {M : ma_M} (hI : mr_INV M) {i j k : Int} (c1 : 0 ≤ i) (c2 : i < M 0 11) (c3 : 0 ≤ j) (c4 : j < M 1 1) (c5 : 0 ≤ k) (c6 : k < M 1 1) {Q : Option ma_V → ma_S → ma_M → Prop} (q1 : mx_st (mt_V M (mt_L (M 50) (mt_e j k))) (M 54 i) ≠ 0 → ∀ M2 : ma_M, (∀ c i, ¬ (90 ≤ c ∧ c ≤ 94) → M2 c i = M c i) → Q (some (0, mx_st (mt_V M (mt_L (M 50) (mt_e j k))) (M 54 i))) mr_SH M2) (q2 : mx_st (mt_V M (mt_L (M 50) (mt_e j k))) (M 54 i) = 0 → j = k → ∀ M2 : ma_M, (∀ c i, ¬ (90 ≤ c ∧ c ≤ 94) → M2 c i = M c i) → Q (some (0, 2 * mt_V M (mt_L (M 50) (mt_e j (-1))) (M 54 i) 2 % 65521)) mr_SH M2) (q3 : mx_st (mt_V M (mt_L (M 50) (mt_e j k))) (M 54 i) = 0 → j ≠ k → ∀ M2 : ma_M, (∀ c i, ¬ (90 ≤ c ∧ c ≤ 94) → M2 c i = M c i) → Q (some (0, (mt_V M (mt_L (M 50) (mt_e j k)) (M 54 i) 2 + 65521 - mt_V M (mt_L (M 50) (mt_e j (-1))) (M 54 i) 2 + 65521 - mt_V M (mt_L (M 50) (mt_e k (-1))) (M 54 i) 2) % 65521)) mr_SH M2) : mr_do 99 [(2, 80), (0, i), (0, j), (0, k)] mr_SH M Q := by
  have hF := hI.1
  have o3 : M 80 9 = M 0 11 := hI.2.1.2.2.2.2
  have i3 : M 80 5 = M 1 1 := hI.2.1.2.1.2.2
  have hN : M 1 0 ≤ 24 := hI.2.1.1.2.1
  have ho := hI.2.2.2.2.2.2.1 i c1 c2
  have d1 : ¬ i < 0 := by omega
  have d2 : ¬ M 0 11 ≤ i := by omega
  have d3 : ¬ j < 0 := by omega
  have d4 : ¬ M 1 1 ≤ j := by omega
  have d5 : ¬ k < 0 := by omega
  have d6 : ¬ M 1 1 ≤ k := by omega
  have bL : ∀ a b, mt_Lb M (mt_L (M 50) (mt_e a b)) := fun a b => mt_L_b (mr_pt1 hI 50 (by omega)) (fun u _ _ => mt_e_b a b u)
  have bV : ∀ a b, _ := fun a b => mt_V_b hI (bL a b) 25 (M 54 i) (by omega) ho.2.1 ho.2.2
  have fl : ∀ a, mt_V M (mt_L (M 50) (mt_e a (-1))) (M 54 i) 9 = mt_V M (mt_L (M 50) (mt_e j k)) (M 54 i) 9 ∧ mt_V M (mt_L (M 50) (mt_e a (-1))) (M 54 i) 10 = mt_V M (mt_L (M 50) (mt_e j k)) (M 54 i) 10 := fun a => (mt_V_cg hI (m := 0) (by decide) (by decide) (fun u n _ _ n0 n1 => by obtain rfl := Int.le_antisymm n1 n0; rfl) ((M 54 i).toNat + 1) (M 54 i) (by omega) ho.2.1 ho.2.2).2
  have b1 := (bV j (-1)).1 2 (by decide) (by decide)
  have b2 := (bV k (-1)).1 2 (by decide) (by decide)
  have b3 := (bV j k).1 2 (by decide) (by decide)
  have stj : mx_st (mt_V M (mt_L (M 50) (mt_e j (-1)))) (M 54 i) = mx_st (mt_V M (mt_L (M 50) (mt_e j k))) (M 54 i) := by
    unfold mx_st
    rw [(fl j).1, (fl j).2]
  simp (disch := (first | assumption | omega | ((repeat (refine mr_FIX_up ?_ (by unfold mr_nst; omega))); assumption))) [x99, s99_0, x99_1, s99_2, x99_5, s99_8, x99_9, s99_10, x99_13, s99_16, x99_17, s99_18, x99_21, x99_24, x99_26, s99_27, x99_28, x99_29, x99_30, s99_31, x76, x76_0, x76_1, x76_4, s76_5, s76_6, x76_9, x76_12, x76_13, x76_16, x76_17, x75, x75_0, x75_1, x75_4, s75_5, s75_6, x75_9, x75_12, x75_13, x75_16, x75_17, o3, i3, d1, d2, d3, d4, d5, d6]
  refine mr_do_mono (mm_inp hI (i := i) (j := j) (l := -1) (k := 2) c1 c2 (by decide) (by decide) (Q := fun r sh M2 => r = some (0, mt_c (mt_V M (mt_L (M 50) (mt_e j (-1)))) (M 54 i) 2) ∧ sh = mr_SH ∧ ∀ c i, ¬ (90 ≤ c ∧ c ≤ 94) → M2 c i = M c i) (fun M2 hf2 => ⟨rfl, rfl, hf2⟩)) ?_
  rintro _ _ M2 ⟨rfl, rfl, h⟩
  simp only [Option.toList_some, Option.toList_none, List.cons_append, List.nil_append]
  simp (disch := (first | assumption | omega | ((repeat (refine mr_FIX_up ?_ (by unfold mr_nst; omega))); assumption))) only [s99_34, x99_35, x99_36, s99_37]
  refine mr_do_mono h ?_
  rintro _ _ M3 ⟨rfl, rfl, hf3⟩
  simp only [Option.toList_some, Option.toList_none, List.cons_append, List.nil_append]
  rcases mt_c_st (k := 2) (bV j (-1)).2.1 (bV j (-1)).2.2 with ⟨s0, f9, f10, s1⟩ | ⟨s0, s1, s2⟩
  · rw [stj] at s0
    rw [(fl j).1] at f9
    rw [(fl j).2] at f10
    rw [s1]
    have g0 : 0 ≤ mt_V M (mt_L (M 50) (mt_e j (-1))) (M 54 i) 2 := b1.1
    simp (disch := (first | assumption | omega | ((repeat (refine mr_FIX_up ?_ (by unfold mr_nst; omega))); assumption))) only [x99_40, x99_41, x99_43, x99_45, x99_46, x99_47, x99_50, x99_52, x99_53, x99_54, x99_55, x99_56, mm_lcge]
    refine ⟨fun _ => ⟨fun hjk => ?_, fun hjk => ?_⟩, fun z => absurd g0 z⟩
    · simp (disch := (first | assumption | omega | ((repeat (refine mr_FIX_up ?_ (by unfold mr_nst; omega))); assumption))) only [s99_71, x99_72, x99_73, x99_74, s99_75]
      have hI3 := mr_k90 hI hf3
      have e11 : M3 1 1 = M 1 1 := hf3 1 1 (by decide)
      have e011 : M3 0 11 = M 0 11 := hf3 0 11 (by decide)
      have e50 : M3 50 = M 50 := funext (fun x => hf3 50 x (by decide))
      have e54 : M3 54 i = M 54 i := hf3 54 i (by decide)
      have eV : ∀ L, mt_V M3 L = mt_V M L := fun L => mt_V_M (fun c x hc => hf3 c x (by omega)) L
      refine mr_do_mono (mm_inp hI3 (i := i) (j := k) (l := -1) (k := 2) c1 (by omega) (by decide) (by decide) (Q := fun r sh M2 => r = some (0, mt_V M (mt_L (M 50) (mt_e k (-1))) (M 54 i) 2) ∧ sh = mr_SH ∧ ∀ c i, ¬ (90 ≤ c ∧ c ≤ 94) → M2 c i = M c i) (fun M2 hf2 => ?_)) ?_
      · rw [e50, e54, eV]
        refine ⟨?_, rfl, fun c x hc => (hf2 c x hc).trans (hf3 c x hc)⟩
        unfold mt_c
        rw [(fl k).1, (fl k).2, f9, f10]; rfl
      · rintro _ _ M4 ⟨rfl, rfl, h⟩
        simp only [Option.toList_some, Option.toList_none, List.cons_append, List.nil_append]
        simp (disch := (first | assumption | omega | ((repeat (refine mr_FIX_up ?_ (by unfold mr_nst; omega))); assumption))) only [s99_78, x99_79, x99_80, s99_81]
        refine mr_do_mono h ?_
        rintro _ _ M5 ⟨rfl, rfl, hf5⟩
        have hI5 := mr_k90 hI hf5
        have g11 : M5 1 1 = M 1 1 := hf5 1 1 (by decide)
        have g011 : M5 0 11 = M 0 11 := hf5 0 11 (by decide)
        have g50 : M5 50 = M 50 := funext (fun x => hf5 50 x (by decide))
        have g54 : M5 54 i = M 54 i := hf5 54 i (by decide)
        have gV : ∀ L, mt_V M5 L = mt_V M L := fun L => mt_V_M (fun c x hc => hf5 c x (by omega)) L
        simp only [Option.toList_some, Option.toList_none, List.cons_append, List.nil_append]
        simp (disch := (first | assumption | omega | ((repeat (refine mr_FIX_up ?_ (by unfold mr_nst; omega))); assumption))) only [x99_84, x99_85, s99_87, x99_88, x99_89, x99_90, s99_91]
        refine mr_do_mono (mm_inp hI5 (i := i) (j := j) (l := k) (k := 2) c1 (by omega) (by decide) (by decide) (Q := fun r sh M2 => r = some (0, mt_V M (mt_L (M 50) (mt_e j k)) (M 54 i) 2) ∧ sh = mr_SH ∧ ∀ c i, ¬ (90 ≤ c ∧ c ≤ 94) → M2 c i = M c i) (fun M2 hf2 => ?_)) ?_
        · rw [g50, g54, gV]
          refine ⟨?_, rfl, fun c x hc => (hf2 c x hc).trans (hf5 c x hc)⟩
          unfold mt_c
          rw [f9, f10]; rfl
        · rintro _ _ M6 ⟨rfl, rfl, h⟩
          simp only [Option.toList_some, Option.toList_none, List.cons_append, List.nil_append]
          simp (disch := (first | assumption | omega | ((repeat (refine mr_FIX_up ?_ (by unfold mr_nst; omega))); assumption))) only [s99_94, x99_95, x99_96, s99_97]
          refine mr_do_mono h ?_
          rintro _ _ M7 ⟨rfl, rfl, hf7⟩
          simp only [Option.toList_some, Option.toList_none, List.cons_append, List.nil_append]
          simp (disch := (first | assumption | omega | ((repeat (refine mr_FIX_up ?_ (by unfold mr_nst; omega))); assumption))) only [x99_100, x99_101, x99_103, x99_105, x99_108, x99_109, x99_111, x99_112, x99_115, x99_116, x99_118, x99_119, x99_122, x99_123, x99_124, ma_32i, ma_64i, mr_tm0, mr_P0, true_and]
          exact q3 s0 hjk M7 hf7
    · simp (disch := (first | assumption | omega | ((repeat (refine mr_FIX_up ?_ (by unfold mr_nst; omega))); assumption))) only [x99_59, x99_62, x99_64, x99_65, x99_68, x99_69, x99_70, ma_32i, ma_64i, mr_tm0, mr_P0, true_and]
      exact q2 s0 (Decidable.not_not.mp hjk) M3 hf3
  · rw [stj] at s0
    rw [s1, stj]
    rw [stj] at s2
    have ng : ¬ 0 ≤ mx_st (mt_V M (mt_L (M 50) (mt_e j k))) (M 54 i) := by omega
    simp (disch := (first | assumption | omega | ((repeat (refine mr_FIX_up ?_ (by unfold mr_nst; omega))); assumption))) only [x99_40, x99_41, x99_43, x99_45, x99_46, x99_47, x99_50, x99_52, x99_53, mm_lcge, ma_32i]
    exact ⟨fun z => absurd z ng, fun _ => q1 s0 M3 hf3⟩
set_option maxHeartbeats 4000000 in
theorem mp_second : mr_p3 52 99 := by
  intro M i j k hI ha hb hc
  obtain ⟨hF, ⟨⟨n1, n2, n3⟩, ⟨i1, i2, i3⟩, ⟨o1, o2, o3⟩⟩, -⟩ := id hI
  unfold mr_pair
  by_cases c1 : i < 0
  · exact ⟨-3, by simp (disch := (first | assumption | omega | ((repeat (refine mr_FIX_up ?_ (by unfold mr_nst; omega))); assumption))) [x52, s52_0, x52_1, s52_2, x52_5, s52_8, s52_9, x52_12, s52_13, x52_16, s52_19, s52_20, x52_23, s52_24, x52_27, x52_30, x52_32, s52_33, s52_34, s52_37, s52_38, x52_41, x52_42, s52_43, x52_44, x52_45, s52_46, s52_47, s52_48, x52_51, x52_52, s52_53, x52_54, x52_55, s52_56, s52_57, x52_58, s52_59, s52_60, x52_63, s52_64, x52_67, s52_69, s52_70, s52_73, s52_76, s52_77, x52_80, s52_81, s52_82, x52_83, x52_86, x52_88, s52_89, x52_90, x52_91, x52_92, s52_93, s52_96, x52_97, x52_98, x52_99, s52_100, x52_103, x52_104, x52_106, x52_108, x52_109, x52_111, x52_112, x52_113, x52_116, x61, x61_0, x61_1, x61_4, s61_5, s61_6, x61_9, x61_12, x61_13, x61_16, x61_17, x99, s99_0, x99_1, s99_2, x99_5, s99_8, x99_9, s99_10, x99_13, s99_16, x99_17, s99_18, x99_21, x99_24, x99_26, s99_27, x99_28, x99_29, x99_30, s99_31, s99_34, x99_35, x99_36, s99_37, x99_40, x99_41, x99_43, x99_45, x99_46, x99_47, x99_50, x99_52, x99_53, x99_54, x99_55, x99_56, x99_59, x99_62, x99_64, x99_65, x99_68, x99_69, x99_70, s99_71, x99_72, x99_73, x99_74, s99_75, s99_78, x99_79, x99_80, s99_81, x99_84, x99_85, s99_87, x99_88, x99_89, x99_90, s99_91, s99_94, x99_95, x99_96, s99_97, x99_100, x99_101, x99_103, x99_105, x99_108, x99_109, x99_111, x99_112, x99_115, x99_116, x99_118, x99_119, x99_122, x99_123, x99_124, x76, x76_0, x76_1, x76_4, s76_5, s76_6, x76_9, x76_12, x76_13, x76_16, x76_17, o3, c1, hI]⟩
  by_cases c2 : M 0 11 ≤ i
  · have c2b : ¬ i < M 0 11 := by omega
    exact ⟨-3, by simp (disch := (first | assumption | omega | ((repeat (refine mr_FIX_up ?_ (by unfold mr_nst; omega))); assumption))) [x52, s52_0, x52_1, s52_2, x52_5, s52_8, s52_9, x52_12, s52_13, x52_16, s52_19, s52_20, x52_23, s52_24, x52_27, x52_30, x52_32, s52_33, s52_34, s52_37, s52_38, x52_41, x52_42, s52_43, x52_44, x52_45, s52_46, s52_47, s52_48, x52_51, x52_52, s52_53, x52_54, x52_55, s52_56, s52_57, x52_58, s52_59, s52_60, x52_63, s52_64, x52_67, s52_69, s52_70, s52_73, s52_76, s52_77, x52_80, s52_81, s52_82, x52_83, x52_86, x52_88, s52_89, x52_90, x52_91, x52_92, s52_93, s52_96, x52_97, x52_98, x52_99, s52_100, x52_103, x52_104, x52_106, x52_108, x52_109, x52_111, x52_112, x52_113, x52_116, x61, x61_0, x61_1, x61_4, s61_5, s61_6, x61_9, x61_12, x61_13, x61_16, x61_17, x99, s99_0, x99_1, s99_2, x99_5, s99_8, x99_9, s99_10, x99_13, s99_16, x99_17, s99_18, x99_21, x99_24, x99_26, s99_27, x99_28, x99_29, x99_30, s99_31, s99_34, x99_35, x99_36, s99_37, x99_40, x99_41, x99_43, x99_45, x99_46, x99_47, x99_50, x99_52, x99_53, x99_54, x99_55, x99_56, x99_59, x99_62, x99_64, x99_65, x99_68, x99_69, x99_70, s99_71, x99_72, x99_73, x99_74, s99_75, s99_78, x99_79, x99_80, s99_81, x99_84, x99_85, s99_87, x99_88, x99_89, x99_90, s99_91, s99_94, x99_95, x99_96, s99_97, x99_100, x99_101, x99_103, x99_105, x99_108, x99_109, x99_111, x99_112, x99_115, x99_116, x99_118, x99_119, x99_122, x99_123, x99_124, x76, x76_0, x76_1, x76_4, s76_5, s76_6, x76_9, x76_12, x76_13, x76_16, x76_17, o3, c1, c2, c2b, hI]⟩
  have c2b : i < M 0 11 := by omega
  by_cases c3 : j < 0
  · exact ⟨-3, by simp (disch := (first | assumption | omega | ((repeat (refine mr_FIX_up ?_ (by unfold mr_nst; omega))); assumption))) [x52, s52_0, x52_1, s52_2, x52_5, s52_8, s52_9, x52_12, s52_13, x52_16, s52_19, s52_20, x52_23, s52_24, x52_27, x52_30, x52_32, s52_33, s52_34, s52_37, s52_38, x52_41, x52_42, s52_43, x52_44, x52_45, s52_46, s52_47, s52_48, x52_51, x52_52, s52_53, x52_54, x52_55, s52_56, s52_57, x52_58, s52_59, s52_60, x52_63, s52_64, x52_67, s52_69, s52_70, s52_73, s52_76, s52_77, x52_80, s52_81, s52_82, x52_83, x52_86, x52_88, s52_89, x52_90, x52_91, x52_92, s52_93, s52_96, x52_97, x52_98, x52_99, s52_100, x52_103, x52_104, x52_106, x52_108, x52_109, x52_111, x52_112, x52_113, x52_116, x61, x61_0, x61_1, x61_4, s61_5, s61_6, x61_9, x61_12, x61_13, x61_16, x61_17, x6, x6_0, x6_1, x6_4, s6_5, s6_6, x6_9, x6_12, x6_13, x6_16, x6_17, x99, s99_0, x99_1, s99_2, x99_5, s99_8, x99_9, s99_10, x99_13, s99_16, x99_17, s99_18, x99_21, x99_24, x99_26, s99_27, x99_28, x99_29, x99_30, s99_31, s99_34, x99_35, x99_36, s99_37, x99_40, x99_41, x99_43, x99_45, x99_46, x99_47, x99_50, x99_52, x99_53, x99_54, x99_55, x99_56, x99_59, x99_62, x99_64, x99_65, x99_68, x99_69, x99_70, s99_71, x99_72, x99_73, x99_74, s99_75, s99_78, x99_79, x99_80, s99_81, x99_84, x99_85, s99_87, x99_88, x99_89, x99_90, s99_91, s99_94, x99_95, x99_96, s99_97, x99_100, x99_101, x99_103, x99_105, x99_108, x99_109, x99_111, x99_112, x99_115, x99_116, x99_118, x99_119, x99_122, x99_123, x99_124, x76, x76_0, x76_1, x76_4, s76_5, s76_6, x76_9, x76_12, x76_13, x76_16, x76_17, x75, x75_0, x75_1, x75_4, s75_5, s75_6, x75_9, x75_12, x75_13, x75_16, x75_17, o3, c1, c2, c2b, c3, hI]⟩
  by_cases c4 : M 1 1 ≤ j
  · have c4b : ¬ j < M 1 1 := by omega
    exact ⟨-3, by simp (disch := (first | assumption | omega | ((repeat (refine mr_FIX_up ?_ (by unfold mr_nst; omega))); assumption))) [x52, s52_0, x52_1, s52_2, x52_5, s52_8, s52_9, x52_12, s52_13, x52_16, s52_19, s52_20, x52_23, s52_24, x52_27, x52_30, x52_32, s52_33, s52_34, s52_37, s52_38, x52_41, x52_42, s52_43, x52_44, x52_45, s52_46, s52_47, s52_48, x52_51, x52_52, s52_53, x52_54, x52_55, s52_56, s52_57, x52_58, s52_59, s52_60, x52_63, s52_64, x52_67, s52_69, s52_70, s52_73, s52_76, s52_77, x52_80, s52_81, s52_82, x52_83, x52_86, x52_88, s52_89, x52_90, x52_91, x52_92, s52_93, s52_96, x52_97, x52_98, x52_99, s52_100, x52_103, x52_104, x52_106, x52_108, x52_109, x52_111, x52_112, x52_113, x52_116, x61, x61_0, x61_1, x61_4, s61_5, s61_6, x61_9, x61_12, x61_13, x61_16, x61_17, x6, x6_0, x6_1, x6_4, s6_5, s6_6, x6_9, x6_12, x6_13, x6_16, x6_17, x99, s99_0, x99_1, s99_2, x99_5, s99_8, x99_9, s99_10, x99_13, s99_16, x99_17, s99_18, x99_21, x99_24, x99_26, s99_27, x99_28, x99_29, x99_30, s99_31, s99_34, x99_35, x99_36, s99_37, x99_40, x99_41, x99_43, x99_45, x99_46, x99_47, x99_50, x99_52, x99_53, x99_54, x99_55, x99_56, x99_59, x99_62, x99_64, x99_65, x99_68, x99_69, x99_70, s99_71, x99_72, x99_73, x99_74, s99_75, s99_78, x99_79, x99_80, s99_81, x99_84, x99_85, s99_87, x99_88, x99_89, x99_90, s99_91, s99_94, x99_95, x99_96, s99_97, x99_100, x99_101, x99_103, x99_105, x99_108, x99_109, x99_111, x99_112, x99_115, x99_116, x99_118, x99_119, x99_122, x99_123, x99_124, x76, x76_0, x76_1, x76_4, s76_5, s76_6, x76_9, x76_12, x76_13, x76_16, x76_17, x75, x75_0, x75_1, x75_4, s75_5, s75_6, x75_9, x75_12, x75_13, x75_16, x75_17, o3, i3, c1, c2, c2b, c3, c4, c4b, hI]⟩
  have c4b : j < M 1 1 := by omega
  by_cases c5 : k < 0
  · exact ⟨-3, by simp (disch := (first | assumption | omega | ((repeat (refine mr_FIX_up ?_ (by unfold mr_nst; omega))); assumption))) [x52, s52_0, x52_1, s52_2, x52_5, s52_8, s52_9, x52_12, s52_13, x52_16, s52_19, s52_20, x52_23, s52_24, x52_27, x52_30, x52_32, s52_33, s52_34, s52_37, s52_38, x52_41, x52_42, s52_43, x52_44, x52_45, s52_46, s52_47, s52_48, x52_51, x52_52, s52_53, x52_54, x52_55, s52_56, s52_57, x52_58, s52_59, s52_60, x52_63, s52_64, x52_67, s52_69, s52_70, s52_73, s52_76, s52_77, x52_80, s52_81, s52_82, x52_83, x52_86, x52_88, s52_89, x52_90, x52_91, x52_92, s52_93, s52_96, x52_97, x52_98, x52_99, s52_100, x52_103, x52_104, x52_106, x52_108, x52_109, x52_111, x52_112, x52_113, x52_116, x61, x61_0, x61_1, x61_4, s61_5, s61_6, x61_9, x61_12, x61_13, x61_16, x61_17, x6, x6_0, x6_1, x6_4, s6_5, s6_6, x6_9, x6_12, x6_13, x6_16, x6_17, x99, s99_0, x99_1, s99_2, x99_5, s99_8, x99_9, s99_10, x99_13, s99_16, x99_17, s99_18, x99_21, x99_24, x99_26, s99_27, x99_28, x99_29, x99_30, s99_31, s99_34, x99_35, x99_36, s99_37, x99_40, x99_41, x99_43, x99_45, x99_46, x99_47, x99_50, x99_52, x99_53, x99_54, x99_55, x99_56, x99_59, x99_62, x99_64, x99_65, x99_68, x99_69, x99_70, s99_71, x99_72, x99_73, x99_74, s99_75, s99_78, x99_79, x99_80, s99_81, x99_84, x99_85, s99_87, x99_88, x99_89, x99_90, s99_91, s99_94, x99_95, x99_96, s99_97, x99_100, x99_101, x99_103, x99_105, x99_108, x99_109, x99_111, x99_112, x99_115, x99_116, x99_118, x99_119, x99_122, x99_123, x99_124, x76, x76_0, x76_1, x76_4, s76_5, s76_6, x76_9, x76_12, x76_13, x76_16, x76_17, x75, x75_0, x75_1, x75_4, s75_5, s75_6, x75_9, x75_12, x75_13, x75_16, x75_17, o3, i3, c1, c2, c2b, c3, c4, c4b, c5, hI]⟩
  by_cases c6 : M 1 1 ≤ k
  · have c6b : ¬ k < M 1 1 := by omega
    exact ⟨-3, by simp (disch := (first | assumption | omega | ((repeat (refine mr_FIX_up ?_ (by unfold mr_nst; omega))); assumption))) [x52, s52_0, x52_1, s52_2, x52_5, s52_8, s52_9, x52_12, s52_13, x52_16, s52_19, s52_20, x52_23, s52_24, x52_27, x52_30, x52_32, s52_33, s52_34, s52_37, s52_38, x52_41, x52_42, s52_43, x52_44, x52_45, s52_46, s52_47, s52_48, x52_51, x52_52, s52_53, x52_54, x52_55, s52_56, s52_57, x52_58, s52_59, s52_60, x52_63, s52_64, x52_67, s52_69, s52_70, s52_73, s52_76, s52_77, x52_80, s52_81, s52_82, x52_83, x52_86, x52_88, s52_89, x52_90, x52_91, x52_92, s52_93, s52_96, x52_97, x52_98, x52_99, s52_100, x52_103, x52_104, x52_106, x52_108, x52_109, x52_111, x52_112, x52_113, x52_116, x61, x61_0, x61_1, x61_4, s61_5, s61_6, x61_9, x61_12, x61_13, x61_16, x61_17, x6, x6_0, x6_1, x6_4, s6_5, s6_6, x6_9, x6_12, x6_13, x6_16, x6_17, x99, s99_0, x99_1, s99_2, x99_5, s99_8, x99_9, s99_10, x99_13, s99_16, x99_17, s99_18, x99_21, x99_24, x99_26, s99_27, x99_28, x99_29, x99_30, s99_31, s99_34, x99_35, x99_36, s99_37, x99_40, x99_41, x99_43, x99_45, x99_46, x99_47, x99_50, x99_52, x99_53, x99_54, x99_55, x99_56, x99_59, x99_62, x99_64, x99_65, x99_68, x99_69, x99_70, s99_71, x99_72, x99_73, x99_74, s99_75, s99_78, x99_79, x99_80, s99_81, x99_84, x99_85, s99_87, x99_88, x99_89, x99_90, s99_91, s99_94, x99_95, x99_96, s99_97, x99_100, x99_101, x99_103, x99_105, x99_108, x99_109, x99_111, x99_112, x99_115, x99_116, x99_118, x99_119, x99_122, x99_123, x99_124, x76, x76_0, x76_1, x76_4, s76_5, s76_6, x76_9, x76_12, x76_13, x76_16, x76_17, x75, x75_0, x75_1, x75_4, s75_5, s75_6, x75_9, x75_12, x75_13, x75_16, x75_17, o3, i3, c1, c2, c2b, c3, c4, c4b, c5, c6, c6b, hI]⟩
  have c6b : k < M 1 1 := by omega
  have ho := hI.2.2.2.2.2.2.1 i (by omega) c2b
  refine ⟨if mx_st (mt_V M (mt_L (M 50) (mt_e j k))) (M 54 i) = 0 then (mt_V M (mt_L (M 50) (mt_e j k)) (M 54 i) 2 - (mt_V M (mt_L (M 50) (mt_e j (-1))) (M 54 i) 2 + mt_V M (mt_L (M 50) (mt_e k (-1))) (M 54 i) 2)) % 65521 else mx_st (mt_V M (mt_L (M 50) (mt_e j k))) (M 54 i), ?_⟩
  have key : ∀ M1 : ma_M, mx_fd M M1 → mr_INV M1 → mr_do 99 [(2, 80), (0, i), (0, j), (0, k)] mr_SH M1 (fun r2 sh2 M2 => r2 = some (0, if mx_st (mt_V M (mt_L (M 50) (mt_e j k))) (M 54 i) = 0 then (mt_V M (mt_L (M 50) (mt_e j k)) (M 54 i) 2 - (mt_V M (mt_L (M 50) (mt_e j (-1))) (M 54 i) 2 + mt_V M (mt_L (M 50) (mt_e k (-1))) (M 54 i) 2)) % 65521 else mx_st (mt_V M (mt_L (M 50) (mt_e j k))) (M 54 i)) ∧ sh2 = mr_SH ∧ (∀ x, M2 (-2) x = M (-2) x) ∧ mr_INV M2) := by
    intro M1 hf1 hI1
    have e11 : M1 1 1 = M 1 1 := hf1 1 1 (by decide) (by decide)
    have e011 : M1 0 11 = M 0 11 := hf1 0 11 (by decide) (by decide)
    have e50 : M1 50 = M 50 := funext (fun x => hf1 50 x (by decide) (by decide))
    have e54 : M1 54 i = M 54 i := hf1 54 i (by decide) (by decide)
    have eV : ∀ L, mt_V M1 L = mt_V M L := fun L => mt_V_M (fun c x hc => hf1 c x (by omega) (by omega)) L
    have fin : ∀ M2 : ma_M, (∀ c i, ¬ (90 ≤ c ∧ c ≤ 94) → M2 c i = M1 c i) → mr_SH = mr_SH ∧ (∀ x, M2 (-2) x = M (-2) x) ∧ mr_INV M2 := fun M2 hf2 => ⟨rfl, fun x => (hf2 (-2) x (by decide)).trans (hf1 (-2) x (by decide) (by decide)), mr_k90 hI1 hf2⟩
    refine mm_second hI1 (by omega) (by omega) (by omega) (by omega) (by omega) (by omega) (fun s0 M2 hf2 => ?_) (fun s0 hjk M2 hf2 => ?_) (fun s0 hjk M2 hf2 => ?_)
    · rw [e50, e54, eV] at s0
      rw [e50, e54, eV, if_neg s0]
      exact ⟨rfl, fin M2 hf2⟩
    · rw [e50, e54, eV] at s0
      rw [e50, e54, eV, if_pos s0]
      refine ⟨?_, fin M2 hf2⟩
      subst hjk
      refine congrArg (fun x : Int => some ((0 : Nat), x)) ?_
      rw [mq_eq, mq_mul, mq_2, mq_sub, mq_add, mh_2 hI ho.2.1 ho.2.2]
      grind
    · rw [e50, e54, eV] at s0
      rw [e50, e54, eV, eV, eV, if_pos s0]
      refine ⟨?_, fin M2 hf2⟩
      refine congrArg (fun x : Int => some ((0 : Nat), x)) ?_
      omega
  refine mx_second hI (by omega) c2b (by omega) c4b (by omega) c6b (fun s0 M1 hf1 hI1 => ?_) (fun s0 M1 hf1 hI1 => ?_)
  · refine ⟨by rw [if_neg s0], rfl, fun x => hf1 (-2) x (by decide) (by decide), key M1 hf1 hI1⟩
  · refine ⟨by rw [if_pos s0], rfl, fun x => hf1 (-2) x (by decide) (by decide), key M1 hf1 hI1⟩
