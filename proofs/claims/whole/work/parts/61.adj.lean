/-! shares and derivatives -/
theorem mf_upd {f g : Int → mq_F} {a : Int} (a0 : 0 ≤ a) (h : ∀ u, u ≠ a → g u = f u) : ∀ N : Nat, (a < N → mf_s g N = mf_s f N + (g a - f a)) ∧ (¬ a < N → mf_s g N = mf_s f N) := by
  intro N
  induction N with
  | zero => exact ⟨fun z => by omega, fun _ => rfl⟩
  | succ N ih =>
    refine ⟨fun z => ?_, fun z => ?_⟩
    · by_cases e : a = (N : Int)
      · rw [mf_s, mf_s, ih.2 (by omega), ← e]
        grind
      · rw [mf_s, mf_s, ih.1 (by omega), h N (fun w => e w.symm)]
        grind
    · rw [mf_s, mf_s, ih.2 (by omega), h N (by omega)]
theorem mf_single {a : Int} {x : mq_F} (a0 : 0 ≤ a) {N : Nat} (h : a < N) : mf_s (fun u => if u = a then x else 0) N = x := by
  have := (mf_upd (f := fun _ => (0 : mq_F)) (g := fun u => if u = a then x else 0) a0 (fun u hu => if_neg hu) N).1 h
  rw [this, mf_zero]
  show 0 + ((if a = a then x else 0) - 0) = x
  rw [if_pos rfl]
  grind
theorem mf_swap (f : Int → Int → mq_F) (N : Nat) : ∀ K : Nat, mf_s (fun u => mf_s (fun j => f u j) K) N = mf_s (fun j => mf_s (fun u => f u j) N) K
  | 0 => mf_zero N
  | K + 1 => by
    rw [mf_s, ← mf_swap f N K, ← mf_add]
    rfl
def mb_Phi (M : ma_M) (D : Int → mq_F) (s : Int → Int) (v : Int) : mq_F := mf_s (fun u => if u ≤ v ∨ 6 < M 2 u then mq (s u) * D u else 0) (M 1 0).toNat
theorem mb_give {M : ma_M} {D : Int → mq_F} {s s' : Int → Int} {v a p : Int} (a0 : 0 ≤ a) (a1 : a < M 1 0) (av : a ≤ v) (h : ∀ u, u ≠ a → s' u = s u) (ha : s' a = (s a + p) % 65521) : mb_Phi M D s' v = mb_Phi M D s v + mq p * D a := by
  unfold mb_Phi
  rw [(mf_upd (f := fun u => if u ≤ v ∨ 6 < M 2 u then mq (s u) * D u else 0) (g := fun u => if u ≤ v ∨ 6 < M 2 u then mq (s' u) * D u else 0) a0 (fun u hu => by simp only [h u hu]) (M 1 0).toNat).1 (by omega)]
  show _ + ((if a ≤ v ∨ 6 < M 2 a then mq (s' a) * D a else 0) - (if a ≤ v ∨ 6 < M 2 a then mq (s a) * D a else 0)) = _
  rw [if_pos (Or.inl av), if_pos (Or.inl av), ha, mq_mod, mq_add]
  grind
theorem mb_down {M : ma_M} {D : Int → mq_F} {s : Int → Int} {v : Int} (v0 : 0 ≤ v) (v1 : v < M 1 0) : (M 2 v ≤ 6 → mb_Phi M D s (v - 1) = mb_Phi M D s v - mq (s v) * D v) ∧ (6 < M 2 v → mb_Phi M D s (v - 1) = mb_Phi M D s v) := by
  unfold mb_Phi
  refine ⟨fun hk => ?_, fun hk => ?_⟩
  · rw [(mf_upd (f := fun u => if u ≤ v ∨ 6 < M 2 u then mq (s u) * D u else 0) (g := fun u => if u ≤ v - 1 ∨ 6 < M 2 u then mq (s u) * D u else 0) v0 (fun u hu => ?_) (M 1 0).toNat).1 (by omega)]
    · show _ + ((if v ≤ v - 1 ∨ 6 < M 2 v then mq (s v) * D v else 0) - (if v ≤ v ∨ 6 < M 2 v then mq (s v) * D v else 0)) = _
      rw [if_neg (by omega), if_pos (Or.inl (Int.le_refl v))]
      grind
    · show (if u ≤ v - 1 ∨ 6 < M 2 u then mq (s u) * D u else 0) = (if u ≤ v ∨ 6 < M 2 u then mq (s u) * D u else 0)
      by_cases c : u ≤ v - 1 ∨ 6 < M 2 u
      · rw [if_pos c, if_pos (by omega)]
      · rw [if_neg c, if_neg (by omega)]
  · refine mf_congr _ (fun u u0 u1 => ?_)
    by_cases c : u ≤ v - 1 ∨ 6 < M 2 u
    · rw [if_pos c, if_pos (by omega)]
    · by_cases e : u = v
      · subst e; exact absurd (Or.inr hk) c
      · rw [if_neg c, if_neg (by omega)]
def mb_slope (x : Int) (e : Nat) : Int := if e = 0 then 0 else (e : Int) * mt_p x (e - 1) % 65521
/-- D is a derivative: of every smooth node by its operands -/
def mb_der (M : ma_M) (V : Int → Int → Int) (D : Int → mq_F) : Prop := ∀ v, 0 ≤ v → v < M 1 0 → V v 9 = 0 → V v 10 = 0 →
  (M 2 v = 0 → D v = D (M 3 v) + D (M 4 v)) ∧ (M 2 v = 1 → D v = D (M 3 v) - D (M 4 v)) ∧
  (M 2 v = 2 → D v = mq (V (M 4 v) 0) * D (M 3 v) + mq (V (M 3 v) 0) * D (M 4 v)) ∧
  (M 2 v = 3 → D v = mq (mt_inv (V (M 4 v) 0)) * D (M 3 v) - mq (mt_inv (V (M 4 v) 0)) * mq (V v 0) * D (M 4 v)) ∧
  (M 2 v = 4 ∨ M 2 v = 5 → D v = if (M 2 v = 4 ∧ V (M 3 v) 0 < V (M 4 v) 0) ∨ (M 2 v = 5 ∧ V (M 4 v) 0 < V (M 3 v) 0) then D (M 3 v) else D (M 4 v)) ∧
  (M 2 v = 6 → D v = mq (mb_slope (V (M 3 v) 0) (M 5 v).toNat) * D (M 3 v)) ∧ (M 2 v = 8 → D v = 0)
/-- the operands of a smooth node are smooth -/
theorem mb_sm {M : ma_M} (hI : mr_INV M) {L : Int → Int → Int} (hL : mt_Lb M L) {v : Int} (v0 : 0 ≤ v) (v1 : v < M 1 0) (hop : M 2 v ≤ 6) (h9 : mt_V M L v 9 = 0) (h10 : mt_V M L v 10 = 0) : (mt_V M L (M 3 v) 9 = 0 ∧ mt_V M L (M 3 v) 10 = 0) ∧ (mt_V M L (M 4 v) 9 = 0 ∧ mt_V M L (M 4 v) 10 = 0) ∧ (M 2 v = 4 ∨ M 2 v = 5 → mt_V M L (M 3 v) 0 ≠ mt_V M L (M 4 v) 0) ∧ ∀ n, n ≤ 8 → mt_V M L v n = mt_op (M 2 v) (M 5 v).toNat (mt_V M L (M 3 v)) (mt_V M L (M 4 v)) n := by
  have hN : M 1 0 ≤ 24 := hI.2.1.1.2.1
  obtain ⟨hk0, ha0, hb0, -⟩ := mt_opn_of hI v0 v1 hop
  have ba := mt_V_b hI hL 25 (M 3 v) (by omega) ha0.1 (by omega)
  have bb := mt_V_b hI hL 25 (M 4 v) (by omega) hb0.1 (by omega)
  have hV := fun n => mt_VE hI L v0 v1 n
  by_cases hU : mt_V M L (M 3 v) 9 = 1 ∨ mt_V M L (M 4 v) 9 = 1 ∨ (M 2 v = 3 ∧ mt_V M L (M 4 v) 0 = 0)
  · rw [hV 9, mt_nvU hop hU, if_pos rfl] at h9
    exact absurd h9 (by decide)
  · rw [hV 10, mt_nv10 hop hU] at h10
    have hR : ¬ (mt_V M L (M 3 v) 10 = 1 ∨ mt_V M L (M 4 v) 10 = 1 ∨ ((M 2 v = 4 ∨ M 2 v = 5) ∧ mt_V M L (M 3 v) 0 = mt_V M L (M 4 v) 0)) := fun z => by
      rw [if_pos z] at h10
      exact absurd h10 (by decide)
    exact ⟨⟨mx_01 ba.2.1 (fun z => hU (Or.inl z)), mx_01 ba.2.2 (fun z => hR (Or.inl z))⟩, ⟨mx_01 bb.2.1 (fun z => hU (Or.inr (Or.inl z))), mx_01 bb.2.2 (fun z => hR (Or.inr (Or.inl z)))⟩, fun z w => hR (Or.inr (Or.inr ⟨z, w⟩)), fun n n1 => by rw [hV n, mt_nvO hop hU n1]⟩
theorem mq_mul1 (x y : Int → Int) : mq (mt_mul x y 1) = mq (x 0) * mq (y 1) + mq (x 1) * mq (y 0) := by
  rw [mq_mt_mul]
  show (0 + mq (x 0) * mq (y (1 - 0))) + mq (x 1) * mq (y (1 - 1)) = _
  rw [show (1 : Int) - 0 = 1 from rfl, show (1 : Int) - 1 = 0 from rfl]
  grind
theorem mq_mul0 (x y : Int → Int) : mq (mt_mul x y 0) = mq (x 0) * mq (y 0) := by
  rw [mq_mt_mul]
  show (0 + mq (x 0) * mq (y (0 - 0))) = _
  rw [show (0 : Int) - 0 = 0 from rfl]
  grind
theorem mq_pw0 (x : Int → Int) : ∀ e : Nat, mq (mt_pw x e 0) = mf_p (mq (x 0)) e
  | 0 => rfl
  | e + 1 => by
    show mq (mt_mul (mt_pw x e) x 0) = mf_p (mq (x 0)) e * mq (x 0)
    rw [mq_mul0, mq_pw0 x e]
theorem mq_sl (x : Int) (e : Nat) : mq (mb_slope x (e + 1)) = mq ((e + 1 : Nat) : Int) * mf_p (mq x) e := by
  unfold mb_slope
  rw [if_neg (Nat.succ_ne_zero e), mq_mod, mq_mul, mq_p, show e + 1 - 1 = e by omega]
theorem mq_pw1 (x : Int → Int) : ∀ e : Nat, mq (mt_pw x e 1) = mq (mb_slope (x 0) e) * mq (x 1)
  | 0 => by
    show mq 0 = mq 0 * mq (x 1)
    rw [mq_0]
    grind
  | e + 1 => by
    show mq (mt_mul (mt_pw x e) x 1) = _
    rw [mq_mul1, mq_pw0, mq_pw1 x e, mq_sl]
    cases e with
    | zero =>
      show (1 : mq_F) * mq (x 1) + mq 0 * mq (x 1) * mq (x 0) = mq 1 * 1 * mq (x 1)
      rw [mq_0, mq_1]
      grind
    | succ e =>
      rw [mq_sl]
      have e2 : mq (((e + 1 + 1 : Nat) : Int)) = mq ((e + 1 : Nat) : Int) + 1 := by
        rw [show ((e + 1 + 1 : Nat) : Int) = ((e + 1 : Nat) : Int) + 1 by omega, mq_add, mq_1]
      rw [e2]
      show mf_p (mq (x 0)) e * mq (x 0) * mq (x 1) + mq ((e + 1 : Nat) : Int) * mf_p (mq (x 0)) e * mq (x 1) * mq (x 0) = (mq ((e + 1 : Nat) : Int) + 1) * (mf_p (mq (x 0)) e * mq (x 0)) * mq (x 1)
      grind
theorem mq_div1 (x y : Int → Int) : mq (mt_div x y 1) = mq (mt_inv (y 0)) * mq (x 1) - mq (mt_inv (y 0)) * mq (mt_div x y 0) * mq (y 1) := by
  rw [mt_div_eq x y (by decide) (by decide), mq_mod, mq_mul, mq_sub]
  show (mq (x 1) - mq (0 + y (0 + 1) * mt_div x y (1 - 1 - 0))) * mq (mt_inv (y 0)) = _
  rw [mq_add, mq_mul, mq_0, show (0 : Int) + 1 = 1 from rfl, show (1 : Int) - 1 - 0 = 0 from rfl]
  grind
/-- the coefficients 1 along a direction are a derivative -/
theorem mb_der_V {M : ma_M} (hI : mr_INV M) {p d d' : Int → Int} (hp : ∀ j, 0 ≤ j → j < M 1 1 → 0 ≤ p j ∧ p j < 65521) (hd : ∀ j, 0 ≤ j → j < M 1 1 → 0 ≤ d j ∧ d j < 65521) : mb_der M (mt_V M (mt_L p d')) (fun u => mq (mt_V M (mt_L p d) u 1)) := by
  have hL := mt_L_b hp hd
  have cg : ∀ u, 0 ≤ u → u < M 1 0 → mt_V M (mt_L p d') u 0 = mt_V M (mt_L p d) u 0 ∧ mt_V M (mt_L p d') u 9 = mt_V M (mt_L p d) u 9 ∧ mt_V M (mt_L p d') u 10 = mt_V M (mt_L p d) u 10 := fun u u0 u1 => by
    obtain ⟨a, b, c⟩ := mt_V_cg hI (m := 0) (L := mt_L p d') (L' := mt_L p d) (by decide) (by decide) (fun j n _ _ n0 n1 => by obtain rfl := Int.le_antisymm n1 n0; rfl) (u.toNat + 1) u (by omega) u0 u1
    exact ⟨a 0 (by decide) (by decide), b, c⟩
  intro v v0 v1 h9 h10
  rw [(cg v v0 v1).2.1] at h9
  rw [(cg v v0 v1).2.2] at h10
  rw [(cg v v0 v1).1]
  by_cases hop : M 2 v ≤ 6
  · obtain ⟨hk0, ha0, hb0, -⟩ := mt_opn_of hI v0 v1 hop
    obtain ⟨sa, sb, st, sv⟩ := mb_sm hI hL v0 v1 hop h9 h10
    rw [(cg (M 3 v) ha0.1 (by omega)).1, (cg (M 4 v) hb0.1 (by omega)).1]
    have s1 := sv 1 (by decide)
    have s0 := sv 0 (by decide)
    refine ⟨fun k => ?_, fun k => ?_, fun k => ?_, fun k => ?_, fun k => ?_, fun k => ?_, fun k => ?_⟩
    · show mq (mt_V M (mt_L p d) v 1) = mq (mt_V M (mt_L p d) (M 3 v) 1) + mq (mt_V M (mt_L p d) (M 4 v) 1)
      rw [s1]
      unfold mt_op
      rw [if_pos k, mq_mod, mq_add]
    · show mq (mt_V M (mt_L p d) v 1) = mq (mt_V M (mt_L p d) (M 3 v) 1) - mq (mt_V M (mt_L p d) (M 4 v) 1)
      rw [s1]
      unfold mt_op
      rw [if_neg (by omega), if_pos k, mq_mod, mq_sub]
    · show mq (mt_V M (mt_L p d) v 1) = _ * mq (mt_V M (mt_L p d) (M 3 v) 1) + _ * mq (mt_V M (mt_L p d) (M 4 v) 1)
      rw [s1]
      unfold mt_op
      rw [if_neg (by omega), if_neg (by omega), if_pos k, mq_mul1]
      grind
    · show mq (mt_V M (mt_L p d) v 1) = _ * mq (mt_V M (mt_L p d) (M 3 v) 1) - _ * _ * mq (mt_V M (mt_L p d) (M 4 v) 1)
      rw [s1, s0]
      unfold mt_op
      rw [if_neg (by omega), if_neg (by omega), if_neg (by omega), if_pos k, if_neg (by omega), if_neg (by omega), if_neg (by omega), if_pos k, mq_div1]
    · show mq (mt_V M (mt_L p d) v 1) = if _ then mq (mt_V M (mt_L p d) (M 3 v) 1) else mq (mt_V M (mt_L p d) (M 4 v) 1)
      rw [s1]
      unfold mt_op
      rw [if_neg (by omega), if_neg (by omega), if_neg (by omega), if_neg (by omega), if_neg (by omega)]
      split <;> rfl
    · show mq (mt_V M (mt_L p d) v 1) = _ * mq (mt_V M (mt_L p d) (M 3 v) 1)
      rw [s1]
      unfold mt_op
      rw [if_neg (by omega), if_neg (by omega), if_neg (by omega), if_neg (by omega), if_pos k, mq_pw1]
    · omega
  · refine ⟨fun k => by omega, fun k => by omega, fun k => by omega, fun k => by omega, fun k => by omega, fun k => by omega, fun k => ?_⟩
    show mq (mt_V M (mt_L p d) v 1) = 0
    rw [mt_VE hI _ v0 v1 1, mt_nv8 k, if_neg (by decide)]
    rfl
