/-! numbers modulo the prime, and power series of them -/
abbrev mq_F : Type := Fin 65521
def mq (a : Int) : mq_F := Fin.ofNat 65521 (a % 65521).toNat
theorem mq_add (a b : Int) : mq (a + b) = mq a + mq b := by
  apply Fin.ext
  simp only [mq, Fin.ofNat, Fin.val_add]
  omega
theorem mq_sub (a b : Int) : mq (a - b) = mq a - mq b := by
  apply Fin.ext
  simp only [mq, Fin.ofNat, Fin.sub_def]
  omega
theorem mq_mul (a b : Int) : mq (a * b) = mq a * mq b := by
  apply Fin.ext
  simp only [mq, Fin.ofNat, Fin.val_mul]
  have hx : ((a % 65521).toNat : Int) = a % 65521 := Int.toNat_of_nonneg (Int.emod_nonneg _ (by decide))
  have hy : ((b % 65521).toNat : Int) = b % 65521 := Int.toNat_of_nonneg (Int.emod_nonneg _ (by decide))
  have hxl : (a % 65521).toNat < 65521 := by omega
  have hyl : (b % 65521).toNat < 65521 := by omega
  rw [Int.mul_emod]
  generalize (a % 65521).toNat = x at *
  generalize (b % 65521).toNat = y at *
  rw [← hx, ← hy, ← Int.natCast_mul, Nat.mod_eq_of_lt hxl, Nat.mod_eq_of_lt hyl]
  generalize x * y = z
  omega
theorem mq_mod (a : Int) : mq (a % 65521) = mq a := by
  apply Fin.ext
  simp only [mq, Fin.ofNat]
  omega
theorem mq_inj {a b : Int} (a0 : 0 ≤ a) (a1 : a < 65521) (b0 : 0 ≤ b) (b1 : b < 65521) (h : mq a = mq b) : a = b := by
  have := congrArg Fin.val h
  simp only [mq, Fin.ofNat] at this
  omega
theorem mq_eq {a b : Int} : a % 65521 = b % 65521 ↔ mq a = mq b := by
  constructor
  · intro h
    rw [← mq_mod a, ← mq_mod b, h]
  · intro h
    have := congrArg Fin.val h
    simp only [mq, Fin.ofNat] at this
    omega
theorem mq_0 : mq 0 = 0 := rfl
theorem mq_1 : mq 1 = 1 := rfl
theorem mq_P : mq 65521 = 0 := rfl
theorem mq_m (a : Int) : 0 ≤ a % 65521 ∧ a % 65521 < 65521 := by omega
def mf_s (f : Int → mq_F) : Nat → mq_F
  | 0 => 0
  | n + 1 => mf_s f n + f n
def ms_s (f : Int → Int) : Nat → Int
  | 0 => 0
  | n + 1 => ms_s f n + f n
theorem mq_s (f : Int → Int) : ∀ n, mq (ms_s f n) = mf_s (fun i => mq (f i)) n
  | 0 => rfl
  | n + 1 => by rw [ms_s, mf_s, mq_add, mq_s f n]
theorem mf_congr {f g : Int → mq_F} : ∀ n : Nat, (∀ i : Int, 0 ≤ i → i < n → f i = g i) → mf_s f n = mf_s g n
  | 0, _ => rfl
  | n + 1, h => by rw [mf_s, mf_s, mf_congr n (fun i h0 h1 => h i h0 (by omega)), h n (by omega) (by omega)]
theorem ms_congr {f g : Int → Int} : ∀ n : Nat, (∀ i : Int, 0 ≤ i → i < n → f i = g i) → ms_s f n = ms_s g n
  | 0, _ => rfl
  | n + 1, h => by rw [ms_s, ms_s, ms_congr n (fun i h0 h1 => h i h0 (by omega)), h n (by omega) (by omega)]
theorem mf_add (f g : Int → mq_F) : ∀ n, mf_s (fun i => f i + g i) n = mf_s f n + mf_s g n
  | 0 => by simp [mf_s]
  | n + 1 => by rw [mf_s, mf_s, mf_s, mf_add f g n]; grind
theorem mf_mulr (f : Int → mq_F) (c : mq_F) : ∀ n, mf_s (fun i => f i * c) n = mf_s f n * c
  | 0 => by rw [mf_s, mf_s]; grind
  | n + 1 => by rw [mf_s, mf_s, mf_mulr f c n]; grind
theorem mf_mull (f : Int → mq_F) (c : mq_F) : ∀ n, mf_s (fun i => c * f i) n = c * mf_s f n
  | 0 => by rw [mf_s, mf_s]; grind
  | n + 1 => by rw [mf_s, mf_s, mf_mull f c n]; grind
theorem mf_zero : ∀ n, mf_s (fun _ => 0) n = 0
  | 0 => rfl
  | n + 1 => by rw [mf_s, mf_zero n]; rfl
/-- the sum over a triangle, by rows and by columns -/
theorem mf_tri (g : Int → Int → mq_F) : ∀ n : Nat, mf_s (fun i => mf_s (fun j => g i j) (i.toNat + 1)) n = mf_s (fun j => mf_s (fun l => g (j + l) j) (n - j.toNat)) n
  | 0 => rfl
  | n + 1 => by
    rw [mf_s, mf_tri g n, mf_s]
    rw [show mf_s (fun j => mf_s (fun l => g (j + l) j) (n + 1 - j.toNat)) (n + 1) = mf_s (fun j => mf_s (fun l => g (j + l) j) (n + 1 - j.toNat)) n + mf_s (fun l => g ((n : Int) + l) n) (n + 1 - (n : Int).toNat) from rfl]
    have e1 : (n : Int).toNat = n := by omega
    rw [e1]
    have h : mf_s (fun j => mf_s (fun l => g (j + l) j) (n + 1 - j.toNat)) n = mf_s (fun j => mf_s (fun l => g (j + l) j) (n - j.toNat) + g n j) n := by
      refine mf_congr n (fun j h0 h1 => ?_)
      have e2 : n + 1 - j.toNat = (n - j.toNat) + 1 := by omega
      rw [e2, mf_s]
      have e3 : j + ((n - j.toNat : Nat) : Int) = n := by omega
      rw [e3]
    rw [h, mf_add]
    have e4 : n + 1 - n = 0 + 1 := by omega
    rw [e4, mf_s, mf_s]
    simp only [Int.natCast_zero, Int.add_zero]
    grind
def mf_mul (x y : Int → mq_F) (n : Int) : mq_F := mf_s (fun i => x i * y (n - i)) (n.toNat + 1)
theorem mf_mul_congr {x x' y y' : Int → mq_F} {n : Int} (hn : 0 ≤ n) (hx : ∀ i, 0 ≤ i → i ≤ n → x i = x' i) (hy : ∀ i, 0 ≤ i → i ≤ n → y i = y' i) : mf_mul x y n = mf_mul x' y' n := mf_congr _ (fun i h0 h1 => by
  show x i * y (n - i) = x' i * y' (n - i)
  rw [hx i h0 (by omega), hy (n - i) (by omega) (by omega)])
theorem mf_assoc (x y z : Int → mq_F) {n : Int} (hn : 0 ≤ n) : mf_mul (mf_mul x y) z n = mf_mul x (mf_mul y z) n := by
  unfold mf_mul
  have h1 : mf_s (fun i => mf_s (fun j => x j * y (i - j)) (i.toNat + 1) * z (n - i)) (n.toNat + 1) = mf_s (fun i => mf_s (fun j => x j * y (i - j) * z (n - i)) (i.toNat + 1)) (n.toNat + 1) := mf_congr _ (fun i _ _ => (mf_mulr _ _ _).symm)
  rw [h1, mf_tri (fun i j => x j * y (i - j) * z (n - i))]
  refine mf_congr _ (fun j h0 hj => ?_)
  rw [← mf_mull]
  have e : n.toNat + 1 - j.toNat = (n - j).toNat + 1 := by omega
  rw [e]
  refine mf_congr _ (fun l l0 l1 => ?_)
  have e2 : j + l - j = l := by omega
  have e3 : n - (j + l) = n - j - l := by omega
  rw [e2, e3]
  grind
def mf_one (n : Int) : mq_F := if n = 0 then 1 else 0
theorem mf_mul_one (x : Int → mq_F) {n : Int} (hn : 0 ≤ n) : mf_mul x mf_one n = x n := by
  unfold mf_mul
  rw [mf_s]
  have h : mf_s (fun i => x i * mf_one (n - i)) n.toNat = mf_s (fun _ => 0) n.toNat := mf_congr _ (fun i h0 h1 => by
    show x i * mf_one (n - i) = 0
    unfold mf_one
    rw [if_neg (by omega)]
    grind)
  rw [h, mf_zero]
  have e : n - ((n.toNat : Nat) : Int) = 0 := by omega
  unfold mf_one
  rw [e, if_pos rfl]
  have e2 : ((n.toNat : Nat) : Int) = n := by omega
  rw [e2]
  grind
/-! the series of the two programs -/
def mt_mul (x y : Int → Int) (n : Int) : Int := ms_s (fun i => x i * y (n - i)) (n.toNat + 1) % 65521
theorem mq_mt_mul (x y : Int → Int) (n : Int) : mq (mt_mul x y n) = mf_mul (fun i => mq (x i)) (fun i => mq (y i)) n := by
  unfold mt_mul mf_mul
  rw [mq_mod, mq_s]
  simp only [mq_mul]
theorem mt_mul_congr {x x' y y' : Int → Int} {n : Int} (hn : 0 ≤ n) (hx : ∀ i, 0 ≤ i → i ≤ n → x i = x' i) (hy : ∀ i, 0 ≤ i → i ≤ n → y i = y' i) : mt_mul x y n = mt_mul x' y' n := by
  unfold mt_mul
  rw [ms_congr _ (fun i h0 h1 => by
    show x i * y (n - i) = x' i * y' (n - i)
    rw [hx i h0 (by omega), hy (n - i) (by omega) (by omega)])]
def mt_one (n : Int) : Int := if n = 0 then 1 else 0
def mt_pw (x : Int → Int) : Nat → Int → Int
  | 0 => mt_one
  | e + 1 => mt_mul (mt_pw x e) x
theorem mt_pw_b (x : Int → Int) (e : Nat) (n : Int) : 0 ≤ mt_pw x e n ∧ mt_pw x e n < 65521 := by
  cases e with
  | zero => unfold mt_pw mt_one; split <;> omega
  | succ e => unfold mt_pw mt_mul; omega
theorem mt_pw_addF (x : Int → Int) (a : Nat) : ∀ (b : Nat) {n : Int}, 0 ≤ n → mf_mul (fun i => mq (mt_pw x a i)) (fun i => mq (mt_pw x b i)) n = mq (mt_pw x (a + b) n)
  | 0, n, hn => by
    have : mf_mul (fun i => mq (mt_pw x a i)) (fun i => mq (mt_pw x 0 i)) n = mf_mul (fun i => mq (mt_pw x a i)) mf_one n := mf_mul_congr hn (fun _ _ _ => rfl) (fun i _ _ => by
      show mq (mt_one i) = mf_one i
      unfold mt_one mf_one
      split <;> rfl)
    rw [this, mf_mul_one _ hn]
    rfl
  | b + 1, n, hn => by
    have h1 : mf_mul (fun i => mq (mt_pw x a i)) (fun i => mq (mt_pw x (b + 1) i)) n = mf_mul (fun i => mq (mt_pw x a i)) (mf_mul (fun i => mq (mt_pw x b i)) (fun i => mq (x i))) n := mf_mul_congr hn (fun _ _ _ => rfl) (fun i _ _ => mq_mt_mul _ _ i)
    rw [h1, ← mf_assoc _ _ _ hn]
    have h2 : mf_mul (mf_mul (fun i => mq (mt_pw x a i)) (fun i => mq (mt_pw x b i))) (fun i => mq (x i)) n = mf_mul (fun i => mq (mt_pw x (a + b) i)) (fun i => mq (x i)) n := mf_mul_congr hn (fun i h0 _ => mt_pw_addF x a b h0) (fun _ _ _ => rfl)
    rw [h2]
    exact (mq_mt_mul _ _ n).symm
theorem mt_pw_add (x : Int → Int) (a b : Nat) {n : Int} (hn : 0 ≤ n) : mt_mul (mt_pw x a) (mt_pw x b) n = mt_pw x (a + b) n := by
  have h := mt_pw_addF x a b hn
  rw [← mq_mt_mul] at h
  have b1 := mt_pw_b x (a + b) n
  exact mq_inj (by unfold mt_mul; omega) (by unfold mt_mul; omega) b1.1 b1.2 h
theorem mt_pw_one (x : Int → Int) (hx : ∀ i, 0 ≤ i → 0 ≤ x i ∧ x i < 65521) {n : Int} (hn : 0 ≤ n) : mt_pw x 1 n = x n := by
  have h : mf_mul (fun i => mq (mt_pw x 1 i)) mf_one n = mq (mt_pw x 1 n) := mf_mul_one _ hn
  have b := mt_pw_b x 1 n
  have c := hx n hn
  refine mq_inj b.1 b.2 c.1 c.2 ?_
  show mq (mt_mul mt_one x n) = mq (x n)
  rw [mq_mt_mul]
  unfold mf_mul
  have key : ∀ m : Nat, mf_s (fun i => mq (mt_one i) * mq (x (n - i))) (m + 1) = mq (x n) := by
    intro m
    induction m with
    | zero =>
      rw [mf_s, mf_s]
      have : mt_one ((0 : Nat) : Int) = 1 := rfl
      rw [this, mq_1]
      simp only [Int.natCast_zero, Int.sub_zero]
      grind
    | succ m ih =>
      rw [mf_s, ih]
      have : mt_one ((m + 1 : Nat) : Int) = 0 := by unfold mt_one; rw [if_neg (by omega)]
      rw [this, mq_0]
      grind
  exact key _
/-! powers of numbers -/
def mf_p (x : mq_F) : Nat → mq_F
  | 0 => 1
  | n + 1 => mf_p x n * x
theorem mf_p2 (x : mq_F) : ∀ n, mf_p (x * x) n = mf_p x (2 * n)
  | 0 => rfl
  | n + 1 => by
    have e : 2 * (n + 1) = 2 * n + 1 + 1 := by omega
    rw [e, mf_p, mf_p, mf_p, mf_p2 x n]
    grind
theorem mf_pa (x : mq_F) (a : Nat) : ∀ b, mf_p x (a + b) = mf_p x a * mf_p x b
  | 0 => by rw [mf_p, Nat.add_zero]; grind
  | b + 1 => by
    rw [← Nat.add_assoc, mf_p, mf_p, mf_pa x a b]
    grind
def mt_p (b : Int) : Nat → Int
  | 0 => 1
  | n + 1 => mt_p b n * b % 65521
theorem mt_p_b (b : Int) (n : Nat) : 0 ≤ mt_p b n ∧ mt_p b n < 65521 := by
  cases n with
  | zero => unfold mt_p; omega
  | succ n => unfold mt_p; omega
theorem mq_p (b : Int) : ∀ n, mq (mt_p b n) = mf_p (mq b) n
  | 0 => rfl
  | n + 1 => by rw [mt_p, mf_p, mq_mod, mq_mul, mq_p b n]
def mt_E : Nat := 65519
def mt_inv (b : Int) : Int := mt_p b mt_E
/-! division -/
def mt_dv (x y : Int → Int) (c : Int) : Nat → Int → Int
  | 0 => fun _ => 0
  | n + 1 => fun k => if k = n then ((x n - ms_s (fun i => y (i + 1) * mt_dv x y c n (n - 1 - i)) n) * c) % 65521 else mt_dv x y c n k
theorem mt_dv_lt (x y : Int → Int) (c k : Int) : ∀ (m n : Nat), k < n → mt_dv x y c (n + m) k = mt_dv x y c n k
  | 0, n, h => rfl
  | m + 1, n, h => by
    rw [← Nat.add_assoc, mt_dv]
    show (if k = ((n + m : Nat) : Int) then _ else _) = _
    rw [if_neg (by omega)]
    exact mt_dv_lt x y c k m n h
def mt_div (x y : Int → Int) (k : Int) : Int := mt_dv x y (mt_inv (y 0)) 9 k
theorem mt_div_eq (x y : Int → Int) {k : Int} (h0 : 0 ≤ k) (hk : k < 9) : mt_div x y k = ((x k - ms_s (fun i => y (i + 1) * mt_div x y (k - 1 - i)) k.toNat) * mt_inv (y 0)) % 65521 := by
  have h : mt_div x y k = mt_dv x y (mt_inv (y 0)) (k.toNat + 1) k := by
    unfold mt_div
    have e : 9 = (k.toNat + 1) + (8 - k.toNat) := by omega
    rw [e]
    exact mt_dv_lt x y _ k _ _ (by omega)
  rw [h, mt_dv]
  show (if k = ((k.toNat : Nat) : Int) then _ else _) = _
  rw [if_pos (by omega)]
  have e : ((k.toNat : Nat) : Int) = k := by omega
  rw [e]
  rw [ms_congr k.toNat (fun i i0 i1 => ?_)]
  have e2 : 9 = k.toNat + (9 - k.toNat) := by omega
  unfold mt_div
  rw [e2, mt_dv_lt x y _ (k - 1 - i) _ _ (by omega)]
theorem mt_div_b (x y : Int → Int) {k : Int} (h0 : 0 ≤ k) (hk : k < 9) : 0 ≤ mt_div x y k ∧ mt_div x y k < 65521 := by
  rw [mt_div_eq x y h0 hk]; omega
theorem mt_div_congr {x x' y y' : Int → Int} {n : Int} (hn : n < 9) (hx : ∀ i, 0 ≤ i → i ≤ n → x i = x' i) (hy : ∀ i, 0 ≤ i → i ≤ n → y i = y' i) : ∀ (m : Nat) (k : Int), k.toNat < m → 0 ≤ k → k ≤ n → mt_div x y k = mt_div x' y' k := by
  intro m
  induction m with
  | zero => intro k h; omega
  | succ m ih =>
    intro k hm h0 hk
    rw [mt_div_eq x y h0 (by omega), mt_div_eq x' y' h0 (by omega), hx k h0 hk, hy 0 (by omega) (by omega)]
    rw [ms_congr k.toNat (fun i i0 i1 => ?_)]
    rw [hy (i + 1) (by omega) (by omega), ih (k - 1 - i) (by omega) (by omega) (by omega)]
theorem mt_pw_congr {x x' : Int → Int} {n : Int} (hx : ∀ i, 0 ≤ i → i ≤ n → x i = x' i) : ∀ (e : Nat) (k : Int), 0 ≤ k → k ≤ n → mt_pw x e k = mt_pw x' e k := by
  intro e
  induction e with
  | zero => intro k _ _; rfl
  | succ e ih =>
    intro k h0 hk
    exact mt_mul_congr h0 (fun i i0 i1 => ih i i0 (by omega)) (fun i i0 i1 => hx i i0 (by omega))
/-- the coefficients of an operation's node -/
def mt_op (k : Int) (e : Nat) (x y : Int → Int) (n : Int) : Int :=
  if k = 0 then (x n + y n) % 65521 else if k = 1 then (x n - y n) % 65521 else if k = 2 then mt_mul x y n else if k = 3 then mt_div x y n
  else if k = 6 then mt_pw x e n else if (k = 4 ∧ x 0 < y 0) ∨ (k = 5 ∧ y 0 < x 0) then x n else y n
theorem mt_op_congr {k : Int} {e : Nat} {x x' y y' : Int → Int} {m n : Int} (h0 : 0 ≤ n) (hn : n ≤ m) (hm : m < 9) (hx : ∀ i, 0 ≤ i → i ≤ m → x i = x' i) (hy : ∀ i, 0 ≤ i → i ≤ m → y i = y' i) : mt_op k e x y n = mt_op k e x' y' n := by
  unfold mt_op
  rw [hx n h0 hn, hy n h0 hn, hx 0 (by omega) (by omega), hy 0 (by omega) (by omega), mt_mul_congr h0 (fun i i0 i1 => hx i i0 (by omega)) (fun i i0 i1 => hy i i0 (by omega)), mt_div_congr hm hx hy (n.toNat + 1) n (by omega) h0 hn, mt_pw_congr hx e n h0 hn]
theorem mt_op_b {k : Int} {e : Nat} {x y : Int → Int} {n : Int} (h0 : 0 ≤ n) (hn : n < 9) (hx : 0 ≤ x n ∧ x n < 65521) (hy : 0 ≤ y n ∧ y n < 65521) : 0 ≤ mt_op k e x y n ∧ mt_op k e x y n < 65521 := by
  unfold mt_op
  have h1 := mt_div_b x y h0 hn
  have h2 := mt_pw_b x e n
  have h3 : 0 ≤ mt_mul x y n ∧ mt_mul x y n < 65521 := by unfold mt_mul; omega
  split
  · omega
  · split
    · omega
    · split
      · exact h3
      · split
        · exact h1
        · split
          · exact h2
          · split
            · exact hx
            · exact hy
/-- a node's entry of the table: its coefficients 0 .. 8, 9: is it undefined, 10: is it rough -/
def mt_nv (M : ma_M) (L T : Int → Int → Int) (v n : Int) : Int :=
  if M 2 v = 7 then (if n < 9 then L (M 5 v) n else 0)
  else if M 2 v = 8 then (if n = 0 then M 5 v else 0)
  else if T (M 3 v) 9 = 1 ∨ T (M 4 v) 9 = 1 ∨ (M 2 v = 3 ∧ T (M 4 v) 0 = 0) then (if n = 9 then 1 else 0)
  else if n = 9 then 0
  else if n = 10 then (if T (M 3 v) 10 = 1 ∨ T (M 4 v) 10 = 1 ∨ ((M 2 v = 4 ∨ M 2 v = 5) ∧ T (M 3 v) 0 = T (M 4 v) 0) then 1 else 0)
  else mt_op (M 2 v) (M 5 v).toNat (T (M 3 v)) (T (M 4 v)) n
def mt_tb (M : ma_M) (L : Int → Int → Int) : Nat → Int → Int → Int
  | 0 => fun _ _ => 0
  | m + 1 => fun v => if v = m then mt_nv M L (mt_tb M L m) v else mt_tb M L m v
theorem mt_tb_lt (M : ma_M) (L : Int → Int → Int) (v : Int) : ∀ (m n : Nat), v < n → mt_tb M L (n + m) v = mt_tb M L n v
  | 0, n, h => rfl
  | m + 1, n, h => by
    rw [← Nat.add_assoc, mt_tb]
    show (if v = ((n + m : Nat) : Int) then _ else _) = _
    rw [if_neg (by omega)]
    exact mt_tb_lt M L v m n h
/-- the table -/
def mt_V (M : ma_M) (L : Int → Int → Int) : Int → Int → Int := mt_tb M L 24
theorem mt_V_eq {M : ma_M} {L : Int → Int → Int} {v : Int} (h0 : 0 ≤ v) (hv : v < 24) (ha : M 2 v < 7 → 0 ≤ M 3 v ∧ M 3 v < v ∧ 0 ≤ M 4 v ∧ M 4 v < v) (hk : M 2 v ≤ 8) (n : Int) : mt_V M L v n = mt_nv M L (mt_V M L) v n := by
  have e : mt_V M L v = mt_nv M L (mt_tb M L v.toNat) v := by
    unfold mt_V
    have e : 24 = (v.toNat + 1) + (23 - v.toNat) := by omega
    rw [e, mt_tb_lt M L v _ _ (by omega), mt_tb]
    show (if v = ((v.toNat : Nat) : Int) then _ else _) = _
    rw [if_pos (by omega)]
  have lt : ∀ u, u < v → mt_tb M L v.toNat u = mt_V M L u := fun u h => by
    unfold mt_V
    have e : 24 = v.toNat + (24 - v.toNat) := by omega
    rw [e, mt_tb_lt M L u _ _ (by omega)]
  rw [e]
  unfold mt_nv
  by_cases h7 : M 2 v = 7
  · rw [if_pos h7, if_pos h7]
  · by_cases h8 : M 2 v = 8
    · rw [if_neg h7, if_neg h7, if_pos h8, if_pos h8]
    · have ha := ha (by omega)
      rw [lt (M 3 v) (by omega), lt (M 4 v) (by omega)]
theorem mt_tb_M {M M' : ma_M} (h : ∀ c i, c = 2 ∨ c = 3 ∨ c = 4 ∨ c = 5 → M' c i = M c i) (L : Int → Int → Int) : ∀ n, mt_tb M' L n = mt_tb M L n
  | 0 => rfl
  | n + 1 => by
    have e : mt_nv M' = mt_nv M := by
      funext L T v n
      unfold mt_nv
      rw [h 2 v (by omega), h 3 v (by omega), h 4 v (by omega), h 5 v (by omega)]
    rw [mt_tb, mt_tb, mt_tb_M h L n, e]
theorem mt_V_M {M M' : ma_M} (h : ∀ c i, c = 2 ∨ c = 3 ∨ c = 4 ∨ c = 5 → M' c i = M c i) (L : Int → Int → Int) : mt_V M' L = mt_V M L := mt_tb_M h L 24
