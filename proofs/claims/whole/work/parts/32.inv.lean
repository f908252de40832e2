def mr_mn (f : Nat → Int) : Nat → Int
  | 0 => 0
  | 1 => f 1
  | n + 2 => if f (n + 2) < mr_mn f (n + 1) then f (n + 2) else mr_mn f (n + 1)
def mr_row (prev : Nat → Int) : Nat → Nat → Int
  | 0 => fun _ => 0
  | n + 1 => fun j => if j = n + 1 then (if n = 0 then 0 else mr_mn (fun k => (k : Int) + prev (n + 1 - k) + mr_row prev n k) n) else mr_row prev n j
def mr_T : Nat → Nat → Int
  | 0 => fun _ => 0
  | 1 => fun n => ((n * (n - 1) / 2 : Nat) : Int)
  | s + 2 => fun n => mr_row (mr_T (s + 1)) n n
def mr_nd (M : ma_M) (v : Int) : Prop := (M 81 v = M 2 v ∧ 0 ≤ M 2 v ∧ M 2 v ≤ 8) ∧
  (M 2 v ≤ 5 → 0 ≤ M 3 v ∧ M 3 v < v ∧ 0 ≤ M 4 v ∧ M 4 v < v ∧ M 82 v = M 3 v ∧ M 83 v = M 4 v ∧ M 5 v = 0 ∧ M 6 v = ma_or (M 6 (M 3 v)) (M 6 (M 4 v))) ∧
  (M 2 v = 6 → 0 ≤ M 3 v ∧ M 3 v < v ∧ M 4 v = M 3 v ∧ M 82 v = M 3 v ∧ M 83 v = M 5 v ∧ 0 ≤ M 5 v ∧ M 5 v ≤ 9 ∧ M 6 v = if M 5 v = 0 then 0 else ma_or (M 6 (M 3 v)) (M 6 (M 4 v))) ∧
  (M 2 v = 7 → M 82 v = M 5 v ∧ 0 ≤ M 5 v ∧ M 5 v < M 1 1 ∧ M 7 (M 5 v) = v ∧ M 6 v = ma_shl 1 (M 5 v) ∧ ∀ k : Int, 2 ≤ k → k ≤ 8 → M (10 + v) k = 0) ∧
  (M 2 v = 8 → M 84 v = M 5 v ∧ 0 ≤ M 5 v ∧ M 5 v < 65521 ∧ M 6 v = 0 ∧ ∀ k : Int, 1 ≤ k → k ≤ 8 → M (10 + v) k = 0)
def mr_cnt (M : ma_M) : Prop := (0 ≤ M 1 0 ∧ M 1 0 ≤ 24 ∧ M 80 0 = M 1 0) ∧ (0 ≤ M 1 1 ∧ M 1 1 ≤ 5 ∧ M 80 5 = M 1 1) ∧ (0 ≤ M 0 11 ∧ M 0 11 ≤ 5 ∧ M 80 9 = M 0 11)
def mr_nds (M : ma_M) : Prop := ∀ v : Int, 0 ≤ v → v < M 1 0 → mr_nd M v
def mr_fre (M : ma_M) : Prop := ∀ v : Int, M 1 0 ≤ v → v < 24 → M 6 v = 0 ∧ ∀ k : Int, 0 ≤ k → k ≤ 8 → M (10 + v) k = 0
def mr_ins (M : ma_M) : Prop := ∀ j : Int, 0 ≤ j → j < M 1 1 → 0 ≤ M 7 j ∧ M 7 j < M 1 0 ∧ M 85 j = M 7 j ∧ M 2 (M 7 j) = 7 ∧ M 5 (M 7 j) = j
def mr_num (M : ma_M) : Prop := ∀ j : Int, 0 ≤ j → j < 5 → (M 86 j = M 50 j ∧ 0 ≤ M 50 j ∧ M 50 j < 65521) ∧ (M 87 j = M 51 j ∧ 0 ≤ M 51 j ∧ M 51 j < 65521) ∧ (M 89 j = M 55 j ∧ 0 ≤ M 55 j ∧ M 55 j < 65521)
def mr_outs (M : ma_M) : Prop := ∀ i : Int, 0 ≤ i → i < M 0 11 → M 88 i = M 54 i ∧ 0 ≤ M 54 i ∧ M 54 i < M 1 0
def mr_mar (M : ma_M) : Prop := (0 ≤ M 0 15 ∧ M 0 15 ≤ 5 ∧ M 80 22 = M 0 15) ∧ ∀ j : Int, 0 ≤ j → j < M 0 15 → (M 100 j = M 78 j ∧ 0 ≤ M 78 j ∧ M 78 j < 65521) ∧ (M 101 j = M 79 j ∧ 0 ≤ M 79 j ∧ M 79 j < 65521)
def mr_snp (M : ma_M) : Prop := (M 42 1 = 0 ∧ ∀ s n : Int, 0 ≤ s → s ≤ 5 → 0 ≤ n → n ≤ 20 → M (44 + s) n = 0) ∨ (M 42 1 = 1 ∧ ∀ s n : Int, 1 ≤ s → s ≤ 5 → 1 ≤ n → n ≤ 20 → M (44 + s) n = mr_T s.toNat n.toNat)
/-- what holds between the calls -/
def mr_INV (M : ma_M) : Prop := mr_FIX M ∧ mr_cnt M ∧ mr_nds M ∧ mr_fre M ∧ mr_ins M ∧ mr_num M ∧ mr_outs M ∧ mr_mar M ∧ mr_snp M
theorem mr_M0_INV (M : ma_M) : mr_INV (mr_M0 M) := by
  have hz := mr_M0_Z M
  have z : ∀ c i : Int, 0 ≤ c → c < 104 → mr_nst c i → mr_M0 M c i = 0 := hz
  have e1 : mr_M0 M 1 0 = 0 := z 1 0 (by decide) (by decide) (by unfold mr_nst; omega)
  have e2 : mr_M0 M 1 1 = 0 := z 1 1 (by decide) (by decide) (by unfold mr_nst; omega)
  have e3 : mr_M0 M 80 0 = 0 := z 80 0 (by decide) (by decide) (by unfold mr_nst; omega)
  have e4 : mr_M0 M 80 5 = 0 := z 80 5 (by decide) (by decide) (by unfold mr_nst; omega)
  have e5 : mr_M0 M 0 11 = 0 := z 0 11 (by decide) (by decide) (by unfold mr_nst; omega)
  have e6 : mr_M0 M 80 9 = 0 := z 80 9 (by decide) (by decide) (by unfold mr_nst; omega)
  have e7 : mr_M0 M 0 15 = 0 := z 0 15 (by decide) (by decide) (by unfold mr_nst; omega)
  have e8 : mr_M0 M 80 22 = 0 := z 80 22 (by decide) (by decide) (by unfold mr_nst; omega)
  have e9 : mr_M0 M 42 1 = 0 := z 42 1 (by decide) (by decide) (by unfold mr_nst; omega)
  refine ⟨mr_M0_FIX M, ⟨⟨by omega, by omega, by omega⟩, ⟨by omega, by omega, by omega⟩, by omega, by omega, by omega⟩, fun v h0 h1 => by omega, fun v h0 h1 => ⟨z 6 v (by decide) (by decide) (by unfold mr_nst; omega), fun k h2 h3 => z (10 + v) k (by omega) (by omega) (by unfold mr_nst; omega)⟩, fun j h0 h1 => by omega, fun j h0 h1 => ?_, fun i h0 h1 => by omega, ⟨⟨by omega, by omega, by omega⟩, fun j h0 h1 => by omega⟩, Or.inl ⟨e9, fun s n h0 h1 h2 h3 => z (44 + s) n (by omega) (by omega) (by unfold mr_nst; omega)⟩⟩
  have a1 := z 86 j (by decide) (by decide) (by unfold mr_nst; omega)
  have a2 := z 50 j (by decide) (by decide) (by unfold mr_nst; omega)
  have a3 := z 87 j (by decide) (by decide) (by unfold mr_nst; omega)
  have a4 := z 51 j (by decide) (by decide) (by unfold mr_nst; omega)
  have a5 := z 89 j (by decide) (by decide) (by unfold mr_nst; omega)
  have a6 := z 55 j (by decide) (by decide) (by unfold mr_nst; omega)
  omega
/-- a call of the program and the same call of the reference answer alike and keep what holds between calls -/
def mr_pair (kx km : Nat) (args : List ma_V) (M : ma_M) : Prop := ∃ r : Int, mr_do kx ((2, 0) :: args) mr_SH M (fun r1 sh1 M1 => r1 = some (0, r) ∧ sh1 = mr_SH ∧ (∀ i, M1 (-2) i = M (-2) i) ∧ mr_do km ((2, 80) :: args) mr_SH M1 (fun r2 sh2 M2 => r2 = some (0, r) ∧ sh2 = mr_SH ∧ (∀ i, M2 (-2) i = M (-2) i) ∧ mr_INV M2))
def mr_r (x : Int) : Prop := -2147483648 ≤ x ∧ x ≤ 2147483647
def mr_p0 (kx km : Nat) : Prop := ∀ M, mr_INV M → mr_pair kx km [] M
def mr_p1 (kx km : Nat) : Prop := ∀ M a, mr_INV M → mr_r a → mr_pair kx km [(0, a)] M
def mr_p2 (kx km : Nat) : Prop := ∀ M a b, mr_INV M → mr_r a → mr_r b → mr_pair kx km [(0, a), (0, b)] M
def mr_p3 (kx km : Nat) : Prop := ∀ M a b c, mr_INV M → mr_r a → mr_r b → mr_r c → mr_pair kx km [(0, a), (0, b), (0, c)] M
