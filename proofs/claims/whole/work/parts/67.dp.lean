/-! the least numbers of steps -/
theorem mr_row_lt (p : Nat → Int) (k : Nat) : ∀ m n, k ≤ n → mr_row p (n + m) k = mr_row p n k
  | 0, n, h => rfl
  | m + 1, n, h => by
    rw [← Nat.add_assoc, mr_row]
    show (if k = n + m + 1 then _ else mr_row p (n + m) k) = _
    rw [if_neg (by omega)]
    exact mr_row_lt p k m n h
theorem mr_mn_cg {f g : Nat → Int} : ∀ n, (∀ k, 1 ≤ k → k ≤ n → f k = g k) → mr_mn f n = mr_mn g n
  | 0, _ => rfl
  | 1, h => h 1 (by omega) (by omega)
  | n + 2, h => by
    rw [mr_mn, mr_mn, h (n + 2) (by omega) (by omega), mr_mn_cg (n + 1) (fun k k0 k1 => h k k0 (by omega))]
theorem mr_mn_b {f : Nat → Int} : ∀ n, 1 ≤ n → (∀ k, 1 ≤ k → k ≤ n → 0 ≤ f k) → 0 ≤ mr_mn f n ∧ mr_mn f n ≤ f 1
  | 0, h, _ => by omega
  | 1, _, h => ⟨h 1 (by omega) (by omega), Int.le_refl _⟩
  | n + 2, _, h => by
    have h1 := mr_mn_b (n + 1) (by omega) (fun k k0 k1 => h k k0 (by omega))
    have h2 := h (n + 2) (by omega) (by omega)
    rw [mr_mn]
    split <;> omega
theorem mr_T1 (s : Nat) : mr_T (s + 2) 1 = 0 := rfl
theorem mr_Tn (s n : Nat) : mr_T (s + 2) (n + 2) = mr_mn (fun k => (k : Int) + mr_T (s + 1) (n + 2 - k) + mr_T (s + 2) k) (n + 1) := by
  show mr_row (mr_T (s + 1)) (n + 2) (n + 2) = _
  rw [mr_row]
  show (if n + 2 = n + 1 + 1 then (if n + 1 = 0 then 0 else mr_mn (fun k => (k : Int) + mr_T (s + 1) (n + 1 + 1 - k) + mr_row (mr_T (s + 1)) (n + 1) k) (n + 1)) else _) = _
  rw [if_pos rfl, if_neg (by omega)]
  refine mr_mn_cg _ (fun k k0 k1 => ?_)
  show (k : Int) + mr_T (s + 1) (n + 1 + 1 - k) + mr_row (mr_T (s + 1)) (n + 1) k = (k : Int) + mr_T (s + 1) (n + 2 - k) + mr_row (mr_T (s + 1)) k k
  have e : n + 1 = k + (n + 1 - k) := by omega
  rw [show mr_row (mr_T (s + 1)) (n + 1) k = mr_row (mr_T (s + 1)) k k by rw [e]; exact mr_row_lt _ k _ k (by omega)]
theorem mr_T1b : ∀ n, n ≤ 20 → 0 ≤ mr_T 1 n ∧ mr_T 1 n ≤ 20 * (n : Int) := by
  have h : ∀ n, n < 21 → 0 ≤ ((n * (n - 1) / 2 : Nat) : Int) ∧ ((n * (n - 1) / 2 : Nat) : Int) ≤ 20 * (n : Int) := by decide +kernel
  intro n hn
  exact h n (by omega)
theorem mr_Tb : ∀ (s n : Nat), 1 ≤ n → n ≤ 20 → 0 ≤ mr_T (s + 1) n ∧ mr_T (s + 1) n ≤ 20 * (n : Int) := by
  intro s
  induction s with
  | zero => intro n _ hn; exact mr_T1b n hn
  | succ s ih =>
    have key : ∀ (q n : Nat), n < q → 1 ≤ n → n ≤ 20 → 0 ≤ mr_T (s + 2) n ∧ mr_T (s + 2) n ≤ 20 * (n : Int) := by
      intro q
      induction q with
      | zero => intro n h; omega
      | succ q ihq =>
        intro n hq h1 h20
        match n, h1 with
        | 1, _ => rw [mr_T1]; omega
        | n + 2, _ =>
          rw [mr_Tn]
          have hb := mr_mn_b (f := fun k => (k : Int) + mr_T (s + 1) (n + 2 - k) + mr_T (s + 2) k) (n + 1) (by omega) (fun k k0 k1 => by
            have a := ih (n + 2 - k) (by omega) (by omega)
            have b := ihq k (by omega) k0 (by omega)
            show 0 ≤ (k : Int) + mr_T (s + 1) (n + 2 - k) + mr_T (s + 2) k
            omega)
          have a := ih (n + 2 - 1) (by omega) (by omega)
          have hc : mr_mn (fun k => (k : Int) + mr_T (s + 1) (n + 2 - k) + mr_T (s + 2) k) (n + 1) ≤ ((1 : Nat) : Int) + mr_T (s + 1) (n + 2 - 1) + mr_T (s + 2) 1 := hb.2
          rw [mr_T1] at hc
          refine ⟨hb.1, ?_⟩
          omega
    intro n
    exact key (n + 1) n (by omega)
/-- the same by Ints -/
def mi_T (s n : Int) : Int := mr_T s.toNat n.toNat
def mi_f (s n : Int) : Nat → Int := fun k => (k : Int) + mi_T (s - 1) (n - k) + mi_T s k
theorem mi_Tb {s n : Int} (s1 : 1 ≤ s) (n1 : 1 ≤ n) (n2 : n ≤ 20) : 0 ≤ mi_T s n ∧ mi_T s n ≤ 20 * n := by
  unfold mi_T
  have h := mr_Tb (s.toNat - 1) n.toNat (by omega) (by omega)
  rw [show s.toNat - 1 + 1 = s.toNat by omega] at h
  omega
theorem mi_T11 {n : Int} (h : 1 ≤ n) : mi_T 1 n = n * (n - 1) / 2 := by
  unfold mi_T
  show ((n.toNat * (n.toNat - 1) / 2 : Nat) : Int) = _
  rw [Int.natCast_ediv, Int.natCast_mul, show ((n.toNat : Nat) : Int) = n by omega, show (((n.toNat - 1 : Nat)) : Int) = n - 1 by omega]
  rfl
theorem mi_Ts1 {s : Int} (h : 2 ≤ s) : mi_T s 1 = 0 := by
  unfold mi_T
  rw [show s.toNat = (s.toNat - 2) + 2 by omega]
  exact mr_T1 _
theorem mi_Tsn {s n : Int} (h : 2 ≤ s) (hn : 2 ≤ n) : mi_T s n = mr_mn (mi_f s n) (n - 1).toNat := by
  unfold mi_T
  rw [show s.toNat = (s.toNat - 2) + 2 by omega, show n.toNat = (n.toNat - 2) + 2 by omega, mr_Tn, show (n - 1).toNat = n.toNat - 2 + 1 by omega]
  refine mr_mn_cg _ (fun k k0 k1 => ?_)
  unfold mi_f mi_T
  rw [show (s - 1).toNat = s.toNat - 2 + 1 by omega, show (n - (k : Int)).toNat = n.toNat - 2 + 2 - k by omega, show s.toNat = (s.toNat - 2) + 2 by omega, show ((k : Int)).toNat = k by omega]
  rfl
theorem mi_mn {f : Nat → Int} {n : Nat} (h : 1 ≤ n) : mr_mn f (n + 1) = if f (n + 1) < mr_mn f n then f (n + 1) else mr_mn f n := by
  match n, h with
  | n + 1, _ => rfl
