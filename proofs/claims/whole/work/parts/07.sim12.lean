theorem ma_okl_at {n i : Nat} {al : List ma_V} {v : ma_V} (h : ma_okl n al) (hi : al[i]? = some v) (hv : v.1 ≤ 2) : ma_ok n v := by
  rcases h v (List.mem_of_getElem? hi) with h1 | h1
  · omega
  · exact h1
theorem ma_iinc_i {al st al' st' : List ma_V} {k : Nat} {d : Int} (h : (match al[k]? with
    | some v => if v.1 = 0 then (ma_st1 al k (0, ma_32 (v.2 + d))).map (fun a => (a, st)) else none
    | none => none) = some (al', st')) : ∃ x : Int, al[k]? = some (0, x) ∧ (ma_clr al k).set k (0, ma_32 (x + d)) = al' ∧ st = st' := by
  split at h
  · next v hv =>
    split at h
    · next hc =>
      obtain ⟨a, x⟩ := v
      obtain rfl : a = 0 := hc
      unfold ma_st1 at h
      split at h
      · cases h; exact ⟨x, hv, rfl, rfl⟩
      · cases h
    · cases h
  · cases h
theorem ma_e32 {x y : Int} (hx : -2147483648 ≤ x ∧ x ≤ 2147483647) (hy : -2147483648 ≤ y ∧ y ≤ 2147483647) : Int32.ofInt x = Int32.ofInt y ↔ x = y := by
  constructor
  · intro h
    have h2 := congrArg Int32.toInt h
    rw [ma_t32 hx.1 hx.2, ma_t32 hy.1 hy.2] at h2
    exact h2
  · rintro rfl; rfl
theorem ma_lt32 {x y : Int} (hx : -2147483648 ≤ x ∧ x ≤ 2147483647) (hy : -2147483648 ≤ y ∧ y ≤ 2147483647) : Int32.ofInt x < Int32.ofInt y ↔ x < y := by
  rw [Int32.lt_iff_toInt_lt, ma_t32 hx.1 hx.2, ma_t32 hy.1 hy.2]
theorem ma_le32 {x y : Int} (hx : -2147483648 ≤ x ∧ x ≤ 2147483647) (hy : -2147483648 ≤ y ∧ y ≤ 2147483647) : Int32.ofInt x ≤ Int32.ofInt y ↔ x ≤ y := by
  rw [Int32.le_iff_toInt_le, ma_t32 hx.1 hx.2, ma_t32 hy.1 hy.2]
theorem ma_z32 : (0 : Int32) = Int32.ofInt 0 := rfl
theorem ma_z0 : -2147483648 ≤ (0 : Int) ∧ (0 : Int) ≤ 2147483647 := by decide
theorem ma_lt64 {x y : Int} (hx : -9223372036854775808 ≤ x ∧ x ≤ 9223372036854775807) (hy : -9223372036854775808 ≤ y ∧ y ≤ 9223372036854775807) : Int64.ofInt x < Int64.ofInt y ↔ x < y := by
  rw [Int64.lt_iff_toInt_lt, ma_t64 hx.1 hx.2, ma_t64 hy.1 hy.2]
theorem ma_e64 {x y : Int} (hx : -9223372036854775808 ≤ x ∧ x ≤ 9223372036854775807) (hy : -9223372036854775808 ≤ y ∧ y ≤ 9223372036854775807) : Int64.ofInt x = Int64.ofInt y ↔ x = y := by
  constructor
  · intro h
    have h2 := congrArg Int64.toInt h
    rw [ma_t64 hx.1 hx.2, ma_t64 hy.1 hy.2] at h2
    exact h2
  · rintro rfl; rfl
theorem ma_lcmp_e {x y : Int} (hx : -9223372036854775808 ≤ x ∧ x ≤ 9223372036854775807) (hy : -9223372036854775808 ≤ y ∧ y ≤ 9223372036854775807) : lg_cmp (Int64.ofInt x) (Int64.ofInt y) = Int32.ofInt (ma_lcmp x y) := by
  unfold lg_cmp ma_lcmp
  by_cases h1 : y < x
  · rw [if_pos h1, if_pos ((ma_lt64 hy hx).mpr h1)]; rfl
  · rw [if_neg h1, if_neg (fun q => h1 ((ma_lt64 hy hx).mp q))]
    by_cases h2 : x = y
    · rw [if_pos h2, if_pos ((ma_e64 hx hy).mpr h2)]; rfl
    · rw [if_neg h2, if_neg (fun q => h2 ((ma_e64 hx hy).mp q))]; rfl
theorem ma_lcmp_r (x y : Int) : -2147483648 ≤ ma_lcmp x y ∧ ma_lcmp x y ≤ 2147483647 := by
  unfold ma_lcmp
  split
  · omega
  · split <;> omega
theorem ma_div_e {x y : Int} (hx : -2147483648 ≤ x ∧ x ≤ 2147483647) (hy : -2147483648 ≤ y ∧ y ≤ 2147483647) : Int32.ofInt x / Int32.ofInt y = Int32.ofInt (ma_32 (x.tdiv y)) := by
  apply Int32.toInt_inj.mp
  rw [Int32.toInt_div, ma_t32 hx.1 hx.2, ma_t32 hy.1 hy.2, ma_t32 (ma_32r _).1 (ma_32r _).2]
  rfl
theorem ma_rem_e {x y : Int} (hx : -9223372036854775808 ≤ x ∧ x ≤ 9223372036854775807) (hy : -9223372036854775808 ≤ y ∧ y ≤ 9223372036854775807) : Int64.ofInt x - Int64.ofInt x / Int64.ofInt y * Int64.ofInt y = Int64.ofInt (ma_64 (x.tmod y)) := by
  have e : Int64.ofInt x / Int64.ofInt y = Int64.ofInt (x.tdiv y) := by
    apply Int64.toInt_inj.mp
    rw [Int64.toInt_div, ma_t64 hx.1 hx.2, ma_t64 hy.1 hy.2, Int64.toInt_ofInt]
  rw [e, ma_o64, ← Int64.ofInt_mul, ← Int64.ofInt_sub, Int.tmod_def, Int.mul_comm]
def ma_ln (ins : Instr) : Nat := match ins with
  | .bipush _ => 2
  | .sipush _ => 3
  | .ldc _ => 2
  | .ldc2_w _ => 3
  | .iload _ => 2
  | .lload _ => 2
  | .aload _ => 2
  | .istore _ => 2
  | .lstore _ => 2
  | .astore _ => 2
  | .iinc _ _ => 3
  | .goto _ => 3
  | .ifCond _ _ => 3
  | .if_icmp _ _ => 3
  | .getfield _ => 3
  | .putfield _ => 3
  | .new _ => 3
  | .newarray _ => 2
  | .multianewarray _ _ => 4
  | .invokevirtual _ => 3
  | .invokespecial _ => 3
  | .invokestatic _ => 3
  | _ => 1
section SIM1
variable {p : Program} {l : Launch} {e : Env} {R : Room} {s : State} {m : MethodId} {args : Array Value} {below : List Frame} {meth : Method} {c : Code} {H : Heap} {locs : List Loc} {cells slots : Nat} {Q : State → Prop}
variable {cc : ByteArray} {pc n nL : Nat} {ls : Array Slot} {ad : Int → Nat}
set_option maxHeartbeats 4000000 in
set_option maxRecDepth 100000 in
theorem ma_sim1 (hx : p.tables.exec = Jvm.exec) (hb : c.code = cc) {own : String} (hown : s.vm.findClass own = some m.cls) {ins : Instr} {lk : List Int} {al st al' st' : List ma_V}
    (hk1 : ∀ i v, ins = .ldc i → lk = [v] → (Jvm.Cond.constant own i (Int32.ofInt v)).before args s = true)
    (hk2 : ∀ i v, ins = .ldc2_w i → lk = [v] → (Jvm.Cond.constantLong own i (Int64.ofInt v)).before args s = true)
    (hd : decode cc pc = .ok (ins, ma_ln ins)) (h : ma_s1 ins lk al st = some (al', st')) (hL : ma_LR ad ls nL al) (ha : ma_okl n al) (ho : ma_oks n st)
    (kk : ∀ ls', ma_LR ad ls' nL al' → ma_okl n al' → ma_oks n st' → W p l e R s m args below meth c H locs cells slots Q (F0 m (pc + ma_ln ins) ls' (st'.map (ma_tv ad)))) :
    W p l e R s m args below meth c H locs cells slots Q (F0 m pc ls (st.map (ma_tv ad))) := by
  cases ins
  case iconst k =>
    obtain ⟨hr, rfl, rfl⟩ := ma_ps_i h
    exact lv_iconst hx hb hd rfl (kk ls hL ha (ma_oks_c (ma_i0 (by omega)) ho))
  case bipush k =>
    obtain ⟨hr, rfl, rfl⟩ := ma_ps_i h
    exact lv_bipush hx hb hd (Int8.toInt32_ofInt (n := k) hr.1 hr.2) (kk ls hL ha (ma_oks_c (ma_i0 (by omega)) ho))
  case sipush k =>
    obtain ⟨hr, rfl, rfl⟩ := ma_ps_i h
    exact lv_sipush hx hb hd (Int16.toInt32_ofInt (n := k) hr.1 hr.2) (kk ls hL ha (ma_oks_c (ma_i0 (by omega)) ho))
  case lconst k =>
    obtain ⟨hr, rfl, rfl⟩ := ma_ps_i h
    exact lv_lconst hx hb hd Int64.ofInt_eq_ofNat.symm (kk ls hL ha (ma_oks_c (ma_i1 (by omega)) ho))
  case ldc i =>
    rcases lk with _ | ⟨v, _ | ⟨w, t⟩⟩
    · exact nomatch (show (none : Option (List ma_V × List ma_V)) = some (al', st') from h)
    · obtain ⟨hr, rfl, rfl⟩ := ma_ps_i (show ma_ps al st 0 v _ _ = some _ from h)
      exact lv_ldc hx hb hown (hk1 i v rfl rfl) hd (kk ls hL ha (ma_oks_c (ma_i0 hr) ho))
    · exact nomatch (show (none : Option (List ma_V × List ma_V)) = some (al', st') from h)
  case ldc2_w i =>
    rcases lk with _ | ⟨v, _ | ⟨w, t⟩⟩
    · exact nomatch (show (none : Option (List ma_V × List ma_V)) = some (al', st') from h)
    · obtain ⟨hr, rfl, rfl⟩ := ma_ps_i (show ma_ps al st 1 v _ _ = some _ from h)
      exact lv_ldc2 hx hb hown (hk2 i v rfl rfl) hd (kk ls hL ha (ma_oks_c (ma_i1 hr) ho))
    · exact nomatch (show (none : Option (List ma_V × List ma_V)) = some (al', st') from h)
  case iload_n k =>
    obtain ⟨x, h1, h2, rfl, rfl⟩ := ma_ld_i h
    exact lv_iload_n hx hb hd rfl (ma_LR_at hL h1 (Nat.le_of_ble_eq_true rfl)) (kk ls hL ha (ma_oks_c (ma_okl_at ha h1 (Nat.le_of_ble_eq_true rfl)) ho))
  case iload k =>
    obtain ⟨x, h1, h2, rfl, rfl⟩ := ma_ld_i h
    exact lv_iload hx hb hd (ma_LR_at hL h1 (Nat.le_of_ble_eq_true rfl)) (kk ls hL ha (ma_oks_c (ma_okl_at ha h1 (Nat.le_of_ble_eq_true rfl)) ho))
  case lload_n k =>
    obtain ⟨x, h1, h2, rfl, rfl⟩ := ma_ld_i h
    exact lv_lload_n hx hb hd rfl (ma_LR_at hL h1 (Nat.le_of_ble_eq_true rfl)) (kk ls hL ha (ma_oks_c (ma_okl_at ha h1 (Nat.le_of_ble_eq_true rfl)) ho))
  case lload k =>
    obtain ⟨x, h1, h2, rfl, rfl⟩ := ma_ld_i h
    exact lv_lload hx hb hd (ma_LR_at hL h1 (Nat.le_of_ble_eq_true rfl)) (kk ls hL ha (ma_oks_c (ma_okl_at ha h1 (Nat.le_of_ble_eq_true rfl)) ho))
  case aload_n k =>
    obtain ⟨x, h1, h2, rfl, rfl⟩ := ma_ld_i h
    have h3 := ma_LR_at hL h1 (Nat.le_of_ble_eq_true rfl)
    have h4 := kk ls hL ha (ma_oks_c (ma_okl_at ha h1 (Nat.le_of_ble_eq_true rfl)) ho)
    rw [ma_tv2 ad (h2 rfl)] at h3
    rw [List.map_cons, ma_tv2 ad (h2 rfl)] at h4
    exact lv_aload_n hx hb hd rfl h3 h4
  case aload k =>
    obtain ⟨x, h1, h2, rfl, rfl⟩ := ma_ld_i h
    have h3 := ma_LR_at hL h1 (Nat.le_of_ble_eq_true rfl)
    have h4 := kk ls hL ha (ma_oks_c (ma_okl_at ha h1 (Nat.le_of_ble_eq_true rfl)) ho)
    rw [ma_tv2 ad (h2 rfl)] at h3
    rw [List.map_cons, ma_tv2 ad (h2 rfl)] at h4
    exact lv_aload hx hb hd h3 h4
  case istore_n k =>
    obtain ⟨x, r, rfl, h2, hi, rfl, rfl⟩ := ma_sv1_i h
    exact lv_istore_n (x := Int32.ofInt x) hx hb hd rfl hL.2 (by have := hL.1; omega) rfl (fun ls' h' => kk ls' (ma_LR1 (v := (0, x)) hL h') (ma_set_ok (ma_clr_ok ha) (Or.inr (ma_oks_h ho))) (ma_oks_t ho))
  case istore k =>
    obtain ⟨x, r, rfl, h2, hi, rfl, rfl⟩ := ma_sv1_i h
    exact lv_istore (x := Int32.ofInt x) hx hb hd hL.2 (by have := hL.1; omega) rfl (fun ls' h' => kk ls' (ma_LR1 (v := (0, x)) hL h') (ma_set_ok (ma_clr_ok ha) (Or.inr (ma_oks_h ho))) (ma_oks_t ho))
  case lstore_n k =>
    obtain ⟨x, r, rfl, hi, rfl, rfl⟩ := ma_sv2_i h
    exact lv_lstore_n (x := Int64.ofInt x) hx hb hd rfl hL.2 (by have := hL.1; omega) rfl (fun ls' h' => kk ls' (ma_LR2 (v := (1, x)) hL h') (ma_set_ok (ma_set_ok (ma_clr_ok ha) (Or.inr (ma_oks_h ho))) (Or.inl rfl)) (ma_oks_t ho))
  case lstore k =>
    obtain ⟨x, r, rfl, hi, rfl, rfl⟩ := ma_sv2_i h
    exact lv_lstore (x := Int64.ofInt x) hx hb hd hL.2 (by have := hL.1; omega) rfl (fun ls' h' => kk ls' (ma_LR2 (v := (1, x)) hL h') (ma_set_ok (ma_set_ok (ma_clr_ok ha) (Or.inr (ma_oks_h ho))) (Or.inl rfl)) (ma_oks_t ho))
  case astore_n k =>
    obtain ⟨x, r, rfl, h2, hi, rfl, rfl⟩ := ma_sv1_i h
    have e2 := ma_tv2 ad (h2 rfl)
    rw [List.map_cons, e2]
    exact lv_astore_n hx hb hd rfl hL.2 (by have := hL.1; omega) rfl (fun ls' h' => kk ls' (ma_LR1 (v := (2, x)) hL (by rw [e2]; exact h')) (ma_set_ok (ma_clr_ok ha) (Or.inr (ma_oks_h ho))) (ma_oks_t ho))
  case astore k =>
    obtain ⟨x, r, rfl, h2, hi, rfl, rfl⟩ := ma_sv1_i h
    have e2 := ma_tv2 ad (h2 rfl)
    rw [List.map_cons, e2]
    exact lv_astore hx hb hd hL.2 (by have := hL.1; omega) rfl (fun ls' h' => kk ls' (ma_LR1 (v := (2, x)) hL (by rw [e2]; exact h')) (ma_set_ok (ma_clr_ok ha) (Or.inr (ma_oks_h ho))) (ma_oks_t ho))
  case iinc k d =>
    obtain ⟨x, h1, rfl, rfl⟩ := ma_iinc_i h
    obtain ⟨k', hk'⟩ := List.getElem?_of_mem (ma_lv_mem (ad := ad) (q := (k, ma_tv ad (0, x))) |>.mpr ⟨(0, x), h1, Nat.le_of_ble_eq_true rfl, rfl⟩)
    have hlt : k < al.length := (List.getElem?_eq_some_iff.mp h1).1
    exact lv_iinc (x := Int32.ofInt x) (v := Int32.ofInt (ma_32 (x + d))) hx hb hd hL.2 hk' (by rw [ma_o32, Int32.ofInt_add]) (by have := hL.1; omega) rfl (fun ls' h' => kk ls' (ma_LR1 (v := (0, ma_32 (x + d))) hL h') (ma_set_ok (ma_clr_ok ha) (Or.inr (ma_i0 (ma_32r _)))) ho)
  case iadd =>
    obtain ⟨x, y, r, rfl, rfl, rfl⟩ := ma_b2_i (show ma_b2 0 0 0 (fun x y => ma_32 (x + y)) al st = some (al', st') from h)
    exact lv_iadd (x := Int32.ofInt x) (y := Int32.ofInt y) hx hb hd (by rw [← Int32.ofInt_add, ← ma_o32]; exact kk ls hL ha (ma_oks_c (ma_i0 (ma_32r _)) (ma_oks_t (ma_oks_t ho))))
  case isub =>
    obtain ⟨x, y, r, rfl, rfl, rfl⟩ := ma_b2_i (show ma_b2 0 0 0 (fun x y => ma_32 (x - y)) al st = some (al', st') from h)
    exact lv_isub (x := Int32.ofInt x) (y := Int32.ofInt y) hx hb hd (by rw [← Int32.ofInt_sub, ← ma_o32]; exact kk ls hL ha (ma_oks_c (ma_i0 (ma_32r _)) (ma_oks_t (ma_oks_t ho))))
  case imul =>
    obtain ⟨x, y, r, rfl, rfl, rfl⟩ := ma_b2_i (show ma_b2 0 0 0 (fun x y => ma_32 (x * y)) al st = some (al', st') from h)
    exact lv_imul (x := Int32.ofInt x) (y := Int32.ofInt y) hx hb hd (by rw [← Int32.ofInt_mul, ← ma_o32]; exact kk ls hL ha (ma_oks_c (ma_i0 (ma_32r _)) (ma_oks_t (ma_oks_t ho))))
  case idiv =>
    obtain ⟨x, y, r, rfl, h0, rfl, rfl⟩ := ma_d2_i (show ma_d2 0 0 (fun x y => ma_32 (x.tdiv y)) al st = some (al', st') from h)
    have ry := ma_ok0 (ma_oks_h ho)
    have rx := ma_ok0 (ma_oks_h (ma_oks_t ho))
    exact lv_idiv (x := Int32.ofInt x) (y := Int32.ofInt y) hx hb hd (fun q => h0 ((ma_e32 ry ma_z0).mp q)) (by rw [ma_div_e rx ry]; exact kk ls hL ha (ma_oks_c (ma_i0 (ma_32r _)) (ma_oks_t (ma_oks_t ho))))
  case ineg =>
    obtain ⟨x, r, rfl, rfl, rfl⟩ := ma_u1_i (show ma_u1 0 0 (fun x => ma_32 (-x)) al st = some (al', st') from h)
    exact lv_ineg (x := Int32.ofInt x) hx hb hd (by rw [← Int32.ofInt_neg, ← ma_o32]; exact kk ls hL ha (ma_oks_c (ma_i0 (ma_32r _)) (ma_oks_t ho)))
  case iand =>
    obtain ⟨x, y, r, rfl, rfl, rfl⟩ := ma_b2_i h
    exact lv_iand (x := Int32.ofInt x) (y := Int32.ofInt y) hx hb hd (by rw [← Int32.ofInt_toInt (Int32.ofInt x &&& Int32.ofInt y)]; exact kk ls hL ha (ma_oks_c (ma_i0 (ma_r32 _)) (ma_oks_t (ma_oks_t ho))))
  case ior =>
    obtain ⟨x, y, r, rfl, rfl, rfl⟩ := ma_b2_i h
    exact lv_ior (x := Int32.ofInt x) (y := Int32.ofInt y) hx hb hd (by rw [← Int32.ofInt_toInt (Int32.ofInt x ||| Int32.ofInt y)]; exact kk ls hL ha (ma_oks_c (ma_i0 (ma_r32 _)) (ma_oks_t (ma_oks_t ho))))
  case ishl =>
    obtain ⟨x, y, r, rfl, rfl, rfl⟩ := ma_b2_i h
    exact lv_ishl (x := Int32.ofInt x) (y := Int32.ofInt y) hx hb hd (by rw [← Int32.ofInt_toInt (Int32.ofInt x <<< (Int32.ofInt y &&& 31))]; exact kk ls hL ha (ma_oks_c (ma_i0 (ma_r32 _)) (ma_oks_t (ma_oks_t ho))))
  case ishr =>
    obtain ⟨x, y, r, rfl, rfl, rfl⟩ := ma_b2_i h
    exact lv_ishr (x := Int32.ofInt x) (y := Int32.ofInt y) hx hb hd (by rw [← Int32.ofInt_toInt (Int32.ofInt x >>> (Int32.ofInt y &&& 31))]; exact kk ls hL ha (ma_oks_c (ma_i0 (ma_r32 _)) (ma_oks_t (ma_oks_t ho))))
  case ladd =>
    obtain ⟨x, y, r, rfl, rfl, rfl⟩ := ma_b2_i (show ma_b2 1 1 1 (fun x y => ma_64 (x + y)) al st = some (al', st') from h)
    exact lv_ladd (x := Int64.ofInt x) (y := Int64.ofInt y) hx hb hd (by rw [← Int64.ofInt_add, ← ma_o64]; exact kk ls hL ha (ma_oks_c (ma_i1 (ma_64r _)) (ma_oks_t (ma_oks_t ho))))
  case lsub =>
    obtain ⟨x, y, r, rfl, rfl, rfl⟩ := ma_b2_i (show ma_b2 1 1 1 (fun x y => ma_64 (x - y)) al st = some (al', st') from h)
    exact lv_lsub (x := Int64.ofInt x) (y := Int64.ofInt y) hx hb hd (by rw [← Int64.ofInt_sub, ← ma_o64]; exact kk ls hL ha (ma_oks_c (ma_i1 (ma_64r _)) (ma_oks_t (ma_oks_t ho))))
  case lmul =>
    obtain ⟨x, y, r, rfl, rfl, rfl⟩ := ma_b2_i (show ma_b2 1 1 1 (fun x y => ma_64 (x * y)) al st = some (al', st') from h)
    exact lv_lmul (x := Int64.ofInt x) (y := Int64.ofInt y) hx hb hd (by rw [← Int64.ofInt_mul, ← ma_o64]; exact kk ls hL ha (ma_oks_c (ma_i1 (ma_64r _)) (ma_oks_t (ma_oks_t ho))))
  case lrem =>
    obtain ⟨x, y, r, rfl, h0, rfl, rfl⟩ := ma_d2_i (show ma_d2 1 1 (fun x y => ma_64 (x.tmod y)) al st = some (al', st') from h)
    have ry := ma_ok1 (ma_oks_h ho)
    have rx := ma_ok1 (ma_oks_h (ma_oks_t ho))
    exact lv_lrem (x := Int64.ofInt x) (y := Int64.ofInt y) hx hb hd (fun q => h0 ((ma_e64 ry (by decide)).mp q)) (by rw [ma_rem_e rx ry]; exact kk ls hL ha (ma_oks_c (ma_i1 (ma_64r _)) (ma_oks_t (ma_oks_t ho))))
  case land =>
    obtain ⟨x, y, r, rfl, rfl, rfl⟩ := ma_b2_i h
    exact lv_land (x := Int64.ofInt x) (y := Int64.ofInt y) hx hb hd (by rw [← Int64.ofInt_toInt (Int64.ofInt x &&& Int64.ofInt y)]; exact kk ls hL ha (ma_oks_c (ma_i1 (ma_r64 _)) (ma_oks_t (ma_oks_t ho))))
  case lshr =>
    obtain ⟨x, y, r, rfl, rfl, rfl⟩ := ma_b2_i h
    exact lv_lshr (x := Int64.ofInt x) (y := Int32.ofInt y) hx hb hd (Int64.ofInt_toInt _).symm (kk ls hL ha (ma_oks_c (ma_i1 (ma_r64 _)) (ma_oks_t (ma_oks_t ho))))
  case lcmp =>
    obtain ⟨x, y, r, rfl, rfl, rfl⟩ := ma_b2_i h
    have ry := ma_ok1 (ma_oks_h ho)
    have rx := ma_ok1 (ma_oks_h (ma_oks_t ho))
    exact W.lcmp (x := Int64.ofInt x) (y := Int64.ofInt y) hx hb hd (by rw [ma_lcmp_e rx ry]; exact kk ls hL ha (ma_oks_c (ma_i0 (ma_lcmp_r _ _)) (ma_oks_t (ma_oks_t ho))))
  case i2l =>
    obtain ⟨x, r, rfl, rfl, rfl⟩ := ma_u1_i (show ma_u1 0 1 (fun x => x) al st = some (al', st') from h)
    have rx := ma_ok0 (ma_oks_h ho)
    exact lv_i2l (x := Int32.ofInt x) hx hb hd (Int32.toInt64_ofInt (n := x) rx.1 rx.2) (kk ls hL ha (ma_oks_c (ma_i1 (by omega)) (ma_oks_t ho)))
  case l2i =>
    obtain ⟨x, r, rfl, rfl, rfl⟩ := ma_u1_i h
    exact lv_l2i (x := Int64.ofInt x) hx hb hd (by rw [Int64.toInt32_ofInt, ← ma_o32]) (kk ls hL ha (ma_oks_c (ma_i0 (ma_32r _)) (ma_oks_t ho)))
  case dup =>
    rcases st with _ | ⟨v, r⟩
    · exact nomatch (show (none : Option (List ma_V × List ma_V)) = some (al', st') from h)
    · have h0 : (if v.1 = 0 ∨ v.1 = 2 then some (al, v :: v :: r) else none) = some (al', st') := h
      split at h0
      · next hc =>
        cases h0
        exact lv_dup hx hb hd (ma_cat1 (by omega)) (kk ls hL ha (ma_oks_c (ma_oks_h ho) ho))
      · cases h0
  case dup2 =>
    rcases st with _ | ⟨v, _ | ⟨w, r⟩⟩
    · exact nomatch (show (none : Option (List ma_V × List ma_V)) = some (al', st') from h)
    · exact nomatch (show (none : Option (List ma_V × List ma_V)) = some (al', st') from h)
    · have h0 : (if (v.1 = 0 ∨ v.1 = 2) ∧ (w.1 = 0 ∨ w.1 = 2) then some (al, v :: w :: v :: w :: r) else none) = some (al', st') := h
      split at h0
      · next hc =>
        cases h0
        exact lv_dup2_11 hx hb hd (ma_cat1 (by omega)) (ma_cat1 (by omega)) (kk ls hL ha (ma_oks_c (ma_oks_h ho) (ma_oks_c (ma_oks_h (ma_oks_t ho)) ho)))
      · cases h0
  all_goals exact nomatch (show (none : Option (List ma_V × List ma_V)) = some (al', st') from h)
set_option maxHeartbeats 4000000 in
set_option maxRecDepth 100000 in
theorem ma_sim2 (hx : p.tables.exec = Jvm.exec) (hb : c.code = cc) {ins : Instr} {len pc' : Nat} {st st' : List ma_V} (hd : decode cc pc = .ok (ins, len)) (hlen : (∃ a b d o, ins = .tableswitch a b d o) ∨ len = ma_ln ins) (h : ma_s2 ins pc len st = some (pc', st')) (ho : ma_oks n st)
    (kk : ma_oks n st' → W p l e R s m args below meth c H locs cells slots Q (F0 m pc' ls (st'.map (ma_tv ad)))) :
    W p l e R s m args below meth c H locs cells slots Q (F0 m pc ls (st.map (ma_tv ad))) := by
  cases ins
  case goto off =>
    obtain rfl : len = 3 := by
      rcases hlen with ⟨_, _, _, _, z⟩ | z
      · cases z
      · exact z
    have h0 : (if 0 ≤ (pc : Int) + off then some (((pc : Int) + off).toNat, st) else none) = some (pc', st') := h
    split at h0
    · next hc =>
      cases h0
      exact lv_goto hx hb hd (by omega) (kk ho)
    · cases h0
  case ifCond cnd off =>
    obtain rfl : len = 3 := by
      rcases hlen with ⟨_, _, _, _, z⟩ | z
      · cases z
      · exact z
    rcases st with _ | ⟨⟨t, x⟩, r⟩
    · exact nomatch (show (none : Option (Nat × List ma_V)) = some (pc', st') from h)
    · have h0 : (if t = 0 ∧ 0 ≤ (pc : Int) + off then some (if ma_cb cnd x 0 = true then ((pc : Int) + off).toNat else pc + 3, r) else none) = some (pc', st') := h
      split at h0
      · next hc =>
        obtain ⟨rfl, hp⟩ := hc
        cases h0
        have ht : (pc : Int) + off = ((((pc : Int) + off).toNat : Nat) : Int) := by omega
        have hr := ma_ok0 (ma_oks_h ho)
        have kt : ma_cb cnd x 0 = true → W p l e R s m args below meth c H locs cells slots Q (F0 m ((pc : Int) + off).toNat ls (st'.map (ma_tv ad))) := fun z => by
          have q := kk (ma_oks_t ho)
          rw [if_pos z] at q
          exact q
        have kf : ¬ ma_cb cnd x 0 = true → W p l e R s m args below meth c H locs cells slots Q (F0 m (pc + 3) ls (st'.map (ma_tv ad))) := fun z => by
          have q := kk (ma_oks_t ho)
          rw [if_neg z] at q
          exact q
        cases cnd
        case eq => exact lv_if_eq (x := Int32.ofInt x) hx hb hd ht (fun z => kt (decide_eq_true ((ma_e32 hr ma_z0).mp z))) (fun z => kf (fun q => z ((ma_e32 hr ma_z0).mpr (of_decide_eq_true q))))
        case ne => exact lv_if_ne (x := Int32.ofInt x) hx hb hd ht (fun z => kt (decide_eq_true (fun q => z ((ma_e32 hr ma_z0).mpr q)))) (fun z => kf (fun q => (of_decide_eq_true q) ((ma_e32 hr ma_z0).mp z)))
        case lt => exact lv_if_lt (x := Int32.ofInt x) hx hb hd ht (fun z => kt (decide_eq_true ((ma_lt32 hr ma_z0).mp z))) (fun z => kf (fun q => z ((ma_lt32 hr ma_z0).mpr (of_decide_eq_true q))))
        case ge => exact lv_if_ge (x := Int32.ofInt x) hx hb hd ht (fun z => kt (decide_eq_true ((ma_le32 ma_z0 hr).mp z))) (fun z => kf (fun q => z ((ma_le32 ma_z0 hr).mpr (of_decide_eq_true q))))
        case gt => exact lv_if_gt (x := Int32.ofInt x) hx hb hd ht (fun z => kt (decide_eq_true ((ma_lt32 ma_z0 hr).mp z))) (fun z => kf (fun q => z ((ma_lt32 ma_z0 hr).mpr (of_decide_eq_true q))))
        case le => exact lv_if_le (x := Int32.ofInt x) hx hb hd ht (fun z => kt (decide_eq_true ((ma_le32 hr ma_z0).mp z))) (fun z => kf (fun q => z ((ma_le32 hr ma_z0).mpr (of_decide_eq_true q))))
      · cases h0
  case if_icmp cnd off =>
    obtain rfl : len = 3 := by
      rcases hlen with ⟨_, _, _, _, z⟩ | z
      · cases z
      · exact z
    rcases st with _ | ⟨⟨u, y⟩, _ | ⟨⟨t, x⟩, r⟩⟩
    · exact nomatch (show (none : Option (Nat × List ma_V)) = some (pc', st') from h)
    · exact nomatch (show (none : Option (Nat × List ma_V)) = some (pc', st') from h)
    · have h0 : (if (t = 0 ∧ u = 0) ∧ 0 ≤ (pc : Int) + off then some (if ma_cb cnd x y = true then ((pc : Int) + off).toNat else pc + 3, r) else none) = some (pc', st') := h
      split at h0
      · next hc =>
        obtain ⟨⟨rfl, rfl⟩, hp⟩ := hc
        cases h0
        have ht : (pc : Int) + off = ((((pc : Int) + off).toNat : Nat) : Int) := by omega
        have hy := ma_ok0 (ma_oks_h ho)
        have hr := ma_ok0 (ma_oks_h (ma_oks_t ho))
        have kt : ma_cb cnd x y = true → W p l e R s m args below meth c H locs cells slots Q (F0 m ((pc : Int) + off).toNat ls (st'.map (ma_tv ad))) := fun z => by
          have q := kk (ma_oks_t (ma_oks_t ho))
          rw [if_pos z] at q
          exact q
        have kf : ¬ ma_cb cnd x y = true → W p l e R s m args below meth c H locs cells slots Q (F0 m (pc + 3) ls (st'.map (ma_tv ad))) := fun z => by
          have q := kk (ma_oks_t (ma_oks_t ho))
          rw [if_neg z] at q
          exact q
        cases cnd
        case eq => exact lv_icmp_eq (x := Int32.ofInt x) (y := Int32.ofInt y) hx hb hd ht (fun z => kt (decide_eq_true ((ma_e32 hr hy).mp z))) (fun z => kf (fun q => z ((ma_e32 hr hy).mpr (of_decide_eq_true q))))
        case ne => exact lv_icmp_ne (x := Int32.ofInt x) (y := Int32.ofInt y) hx hb hd ht (fun z => kt (decide_eq_true (fun q => z ((ma_e32 hr hy).mpr q)))) (fun z => kf (fun q => (of_decide_eq_true q) ((ma_e32 hr hy).mp z)))
        case lt => exact lv_icmp_lt (x := Int32.ofInt x) (y := Int32.ofInt y) hx hb hd ht (fun z => kt (decide_eq_true ((ma_lt32 hr hy).mp z))) (fun z => kf (fun q => z ((ma_lt32 hr hy).mpr (of_decide_eq_true q))))
        case ge => exact lv_icmp_ge (x := Int32.ofInt x) (y := Int32.ofInt y) hx hb hd ht (fun z => kt (decide_eq_true ((ma_le32 hy hr).mp z))) (fun z => kf (fun q => z ((ma_le32 hy hr).mpr (of_decide_eq_true q))))
        case gt => exact lv_icmp_gt (x := Int32.ofInt x) (y := Int32.ofInt y) hx hb hd ht (fun z => kt (decide_eq_true ((ma_lt32 hy hr).mp z))) (fun z => kf (fun q => z ((ma_lt32 hy hr).mpr (of_decide_eq_true q))))
        case le => exact lv_icmp_le (x := Int32.ofInt x) (y := Int32.ofInt y) hx hb hd ht (fun z => kt (decide_eq_true ((ma_le32 hr hy).mp z))) (fun z => kf (fun q => z ((ma_le32 hr hy).mpr (of_decide_eq_true q))))
      · cases h0
  case tableswitch d lo hi offs =>
    rcases st with _ | ⟨⟨t, x⟩, r⟩
    · exact nomatch (show (none : Option (Nat × List ma_V)) = some (pc', st') from h)
    · have h0 : (if t = 0 then (if x < lo ∨ hi < x then (if 0 ≤ (pc : Int) + d then some (((pc : Int) + d).toNat, r) else none) else match offs[(x - lo).toNat]? with
          | some o => if 0 ≤ (pc : Int) + o then some (((pc : Int) + o).toNat, r) else none
          | none => none) else none) = some (pc', st') := h
      split at h0
      · next hc =>
        subst hc
        have hr := ma_ok0 (ma_oks_h ho)
        split at h0
        · next hc2 =>
          split at h0
          · next hp =>
            cases h0
            exact lv_tableOut (x := Int32.ofInt x) hx hb hd (by rw [ma_t32 hr.1 hr.2]; exact hc2) (by omega) (kk (ma_oks_t ho))
          · cases h0
        · next hc2 =>
          split at h0
          · next o hoff =>
            split at h0
            · next hp =>
              cases h0
              exact lv_tableIn (x := Int32.ofInt x) hx hb hd (by rw [ma_t32 hr.1 hr.2]; exact fun z => hc2 (Or.inl z)) (by rw [ma_t32 hr.1 hr.2]; exact fun z => hc2 (Or.inr z)) (by rw [ma_t32 hr.1 hr.2]; exact hoff) (by omega) (kk (ma_oks_t ho))
            · cases h0
          · cases h0
      · cases h0
  all_goals exact nomatch (show (none : Option (Nat × List ma_V)) = some (pc', st') from h)
end SIM1
