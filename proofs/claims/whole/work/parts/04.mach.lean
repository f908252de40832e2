/-! The abstract machine. A value is (tag, number): tag 0 an int, 1 a long, 2 a reference (a cell's place in the world; -1 null, -2 the script), 3 nothing. Memory: cell, place, number. A cell's shape is (kind, length): kind 0 int[], 1 long[], 2 boolean[], 3 int[][], 4 + c an object of kind c. -/
abbrev ma_V : Type := Nat × Int
abbrev ma_M : Type := Int → Int → Int
abbrev ma_S : Type := List (Nat × Nat)
def ma_32 (x : Int) : Int := Int.bmod x 4294967296
def ma_64 (x : Int) : Int := Int.bmod x 18446744073709551616
def ma_up (M : ma_M) (c i v : Int) : ma_M := fun c' i' => if c' = c ∧ i' = i then v else M c' i'
def ma_un : ma_V := (3, 0)
def ma_clr (al : List ma_V) (i : Nat) : List ma_V := if 1 ≤ i ∧ (al.getD (i - 1) ma_un).1 = 1 then al.set (i - 1) ma_un else al
def ma_st1 (al : List ma_V) (i : Nat) (v : ma_V) : Option (List ma_V) := if i < al.length then some ((ma_clr al i).set i v) else none
def ma_st2 (al : List ma_V) (i : Nat) (v : ma_V) : Option (List ma_V) := if i + 1 < al.length then some (((ma_clr al i).set i v).set (i + 1) ma_un) else none
def ma_ps (al st : List ma_V) (t : Nat) (v lo hi : Int) : Option (List ma_V × List ma_V) := if lo ≤ v ∧ v ≤ hi then some (al, (t, v) :: st) else none
def ma_ld (al : List ma_V) (i t : Nat) (st : List ma_V) : Option (List ma_V × List ma_V) := match al[i]? with
  | some v => if v.1 = t ∧ (t = 2 → v.2 ≠ -1) then some (al, v :: st) else none
  | none => none
def ma_sv1 (al : List ma_V) (i t : Nat) (st : List ma_V) : Option (List ma_V × List ma_V) := match st with
  | v :: r => if v.1 = t ∧ (t = 2 → v.2 ≠ -1) then (ma_st1 al i v).map (fun a => (a, r)) else none
  | [] => none
def ma_sv2 (al : List ma_V) (i : Nat) (st : List ma_V) : Option (List ma_V × List ma_V) := match st with
  | v :: r => if v.1 = 1 then (ma_st2 al i v).map (fun a => (a, r)) else none
  | [] => none
def ma_u1 (t t' : Nat) (f : Int → Int) (al st : List ma_V) : Option (List ma_V × List ma_V) := match st with
  | v :: r => if v.1 = t then some (al, (t', f v.2) :: r) else none
  | [] => none
def ma_b2 (t1 t2 t' : Nat) (f : Int → Int → Int) (al st : List ma_V) : Option (List ma_V × List ma_V) := match st with
  | y :: x :: r => if x.1 = t1 ∧ y.1 = t2 then some (al, (t', f x.2 y.2) :: r) else none
  | _ => none
def ma_d2 (t t' : Nat) (f : Int → Int → Int) (al st : List ma_V) : Option (List ma_V × List ma_V) := match st with
  | y :: x :: r => if (x.1 = t ∧ y.1 = t) ∧ y.2 ≠ 0 then some (al, (t', f x.2 y.2) :: r) else none
  | _ => none
def ma_and (x y : Int) : Int := (Int32.ofInt x &&& Int32.ofInt y).toInt
def ma_or (x y : Int) : Int := (Int32.ofInt x ||| Int32.ofInt y).toInt
def ma_shl (x y : Int) : Int := (Int32.ofInt x <<< (Int32.ofInt y &&& 31)).toInt
def ma_shr (x y : Int) : Int := (Int32.ofInt x >>> (Int32.ofInt y &&& 31)).toInt
def ma_land (x y : Int) : Int := (Int64.ofInt x &&& Int64.ofInt y).toInt
def ma_lshr (x y : Int) : Int := (Int64.ofInt x >>> ((Int32.ofInt y).toInt64 &&& 63)).toInt
def ma_lcmp (x y : Int) : Int := if y < x then 1 else if x = y then 0 else -1
/-- instructions over locals and stack alone -/
def ma_s1 (ins : Instr) (lk : List Int) (al st : List ma_V) : Option (List ma_V × List ma_V) := match ins with
  | .iconst n => ma_ps al st 0 n (-32768) 32767
  | .bipush n => ma_ps al st 0 n (-128) 127
  | .sipush n => ma_ps al st 0 n (-32768) 32767
  | .lconst n => ma_ps al st 1 ((n : Nat) : Int) 0 1
  | .ldc _ => match lk with
    | [v] => ma_ps al st 0 v (-2147483648) 2147483647
    | _ => none
  | .ldc2_w _ => match lk with
    | [v] => ma_ps al st 1 v (-9223372036854775808) 9223372036854775807
    | _ => none
  | .iload_n k => ma_ld al k 0 st
  | .iload k => ma_ld al k 0 st
  | .lload_n k => ma_ld al k 1 st
  | .lload k => ma_ld al k 1 st
  | .aload_n k => ma_ld al k 2 st
  | .aload k => ma_ld al k 2 st
  | .istore_n k => ma_sv1 al k 0 st
  | .istore k => ma_sv1 al k 0 st
  | .lstore_n k => ma_sv2 al k st
  | .lstore k => ma_sv2 al k st
  | .astore_n k => ma_sv1 al k 2 st
  | .astore k => ma_sv1 al k 2 st
  | .iinc k n => match al[k]? with
    | some v => if v.1 = 0 then (ma_st1 al k (0, ma_32 (v.2 + n))).map (fun a => (a, st)) else none
    | none => none
  | .iadd => ma_b2 0 0 0 (fun x y => ma_32 (x + y)) al st
  | .isub => ma_b2 0 0 0 (fun x y => ma_32 (x - y)) al st
  | .imul => ma_b2 0 0 0 (fun x y => ma_32 (x * y)) al st
  | .idiv => ma_d2 0 0 (fun x y => ma_32 (x.tdiv y)) al st
  | .ineg => ma_u1 0 0 (fun x => ma_32 (-x)) al st
  | .iand => ma_b2 0 0 0 ma_and al st
  | .ior => ma_b2 0 0 0 ma_or al st
  | .ishl => ma_b2 0 0 0 ma_shl al st
  | .ishr => ma_b2 0 0 0 ma_shr al st
  | .ladd => ma_b2 1 1 1 (fun x y => ma_64 (x + y)) al st
  | .lsub => ma_b2 1 1 1 (fun x y => ma_64 (x - y)) al st
  | .lmul => ma_b2 1 1 1 (fun x y => ma_64 (x * y)) al st
  | .lrem => ma_d2 1 1 (fun x y => ma_64 (x.tmod y)) al st
  | .land => ma_b2 1 1 1 ma_land al st
  | .lshr => ma_b2 1 0 1 ma_lshr al st
  | .lcmp => ma_b2 1 1 0 ma_lcmp al st
  | .i2l => ma_u1 0 1 (fun x => x) al st
  | .l2i => ma_u1 1 0 ma_32 al st
  | .dup => match st with
    | v :: r => if v.1 = 0 ∨ v.1 = 2 then some (al, v :: v :: r) else none
    | [] => none
  | .dup2 => match st with
    | v :: w :: r => if (v.1 = 0 ∨ v.1 = 2) ∧ (w.1 = 0 ∨ w.1 = 2) then some (al, v :: w :: v :: w :: r) else none
    | _ => none
  | _ => none
def ma_cb (c : Jvm.ClassFile.Cond) (x y : Int) : Bool := match c with
  | .eq => decide (x = y)
  | .ne => decide (¬ x = y)
  | .lt => decide (x < y)
  | .ge => decide (y ≤ x)
  | .gt => decide (y < x)
  | .le => decide (x ≤ y)
/-- jumps -/
def ma_s2 (ins : Instr) (pc len : Nat) (st : List ma_V) : Option (Nat × List ma_V) := match ins with
  | .goto off => if 0 ≤ (pc : Int) + off then some (((pc : Int) + off).toNat, st) else none
  | .ifCond c off => match st with
    | x :: r => if x.1 = 0 ∧ 0 ≤ (pc : Int) + off then some (if ma_cb c x.2 0 = true then ((pc : Int) + off).toNat else pc + len, r) else none
    | [] => none
  | .if_icmp c off => match st with
    | y :: x :: r => if (x.1 = 0 ∧ y.1 = 0) ∧ 0 ≤ (pc : Int) + off then some (if ma_cb c x.2 y.2 = true then ((pc : Int) + off).toNat else pc + len, r) else none
    | _ => none
  | .tableswitch d lo hi offs => match st with
    | x :: r => if x.1 = 0 then (if x.2 < lo ∨ hi < x.2 then (if 0 ≤ (pc : Int) + d then some (((pc : Int) + d).toNat, r) else none) else match offs[(x.2 - lo).toNat]? with
      | some o => if 0 ≤ (pc : Int) + o then some (((pc : Int) + o).toNat, r) else none
      | none => none) else none
    | [] => none
  | _ => none
/-- the length of cell r if it is of kind k, else -1 -/
def ma_al (sh : ma_S) (r : Int) (k : Nat) : Int := if 0 ≤ r then (match sh[r.toNat]? with
  | some q => if q.1 = k then (q.2 : Int) else -1
  | none => -1) else -1
def ma_ad (st : List ma_V) (sh : ma_S) (M : ma_M) (k t : Nat) : Option (List ma_V × ma_S × ma_M) := match st with
  | i :: o :: r => if (i.1 = 0 ∧ o.1 = 2) ∧ 0 ≤ i.2 ∧ i.2 < ma_al sh o.2 k then some ((t, M o.2 i.2) :: r, sh, M) else none
  | _ => none
def ma_as (st : List ma_V) (sh : ma_S) (M : ma_M) (k t : Nat) : Option (List ma_V × ma_S × ma_M) := match st with
  | v :: i :: o :: r => if (v.1 = t ∧ i.1 = 0 ∧ o.1 = 2) ∧ 0 ≤ i.2 ∧ i.2 < ma_al sh o.2 k then some (r, sh, ma_up M o.2 i.2 v.2) else none
  | _ => none
def ma_az (st : List ma_V) (sh : ma_S) (M : ma_M) : Option (List ma_V × ma_S × ma_M) := match st with
  | v :: i :: o :: r => if (v.1 = 0 ∧ i.1 = 0 ∧ o.1 = 2) ∧ (0 ≤ i.2 ∧ i.2 < ma_al sh o.2 2) ∧ (v.2 = 0 ∨ v.2 = 1) then some (r, sh, ma_up M o.2 i.2 v.2) else none
  | _ => none
def ma_cp (M : ma_M) (a dp n a0 sp : Int) : ma_M := fun c i => if c = a ∧ dp ≤ i ∧ i < dp + n then M a0 (sp + (i - dp)) else M c i
def ma_nw (M : ma_M) (q : Int) (f : Int → Int) : ma_M := fun c i => if c = q then f i else M c i
def ma_nm (M : ma_M) (q n : Int) : ma_M := fun c i => if c = q then q + 1 + i else if q < c ∧ c ≤ q + n then 0 else M c i
def ma_kd (t : Jvm.ClassFile.ArrayType) : Nat := match t with
  | .int => 0
  | .long => 1
  | .boolean => 2
  | _ => 9
/-- instructions over the memory -/
def ma_s3 (ins : Instr) (lk : List Int) (st : List ma_V) (sh : ma_S) (M : ma_M) : Option (List ma_V × ma_S × ma_M) := match ins with
  | .getfield _ => match lk with
    | [ci, k] => match st with
      | o :: r => if o.1 = 2 ∧ 0 ≤ k ∧ k < ma_al sh o.2 (ci.toNat + 4) then some ((ma_fk ci.toNat k.toNat, M o.2 k) :: r, sh, M) else none
      | [] => none
    | _ => none
  | .putfield _ => match lk with
    | [ci, k] => match st with
      | v :: o :: r => if (v.1 = ma_fk ci.toNat k.toNat ∧ o.1 = 2) ∧ (0 ≤ k ∧ k < ma_al sh o.2 (ci.toNat + 4)) ∧ (ma_fz ci.toNat k.toNat = true → v.2 = 0 ∨ v.2 = 1) then some (r, sh, ma_up M o.2 k v.2) else none
      | _ => none
    | _ => none
  | .iaload => match lk with
    | [] => ma_ad st sh M 0 0
    | _ => match st with
      | i :: o :: r => if (i.1 = 0 ∧ o = (2, -2)) ∧ 0 ≤ i.2 ∧ i.2 < M (-2) (-1) then some ((0, M (-2) i.2) :: r, sh, M) else none
      | _ => none
  | .laload => ma_ad st sh M 1 1
  | .baload => ma_ad st sh M 2 0
  | .aaload => ma_ad st sh M 3 2
  | .iastore => ma_as st sh M 0 0
  | .lastore => ma_as st sh M 1 1
  | .bastore => ma_az st sh M
  | .arraylength => match lk with
    | [] => match st with
      | o :: r => if o.1 = 2 ∧ 0 ≤ ma_al sh o.2 0 ∧ ma_al sh o.2 0 ≤ 2147483647 then some ((0, ma_al sh o.2 0) :: r, sh, M) else none
      | [] => none
    | _ => match st with
      | o :: r => if o = (2, -2) then some ((0, M (-2) (-1)) :: r, sh, M) else none
      | [] => none
  | .new _ => match lk with
    | [ci, n] => some ((2, (sh.length : Int)) :: st, sh ++ [(ci.toNat + 4, n.toNat)], ma_nw M sh.length (fun i => if ma_fk ci.toNat i.toNat = 2 then -1 else 0))
    | _ => none
  | .newarray t => match st with
    | n :: r => if n.1 = 0 ∧ 0 ≤ n.2 ∧ n.2 ≤ 10000 then some ((2, (sh.length : Int)) :: r, sh ++ [(ma_kd t, n.2.toNat)], ma_nw M sh.length (fun _ => 0)) else none
    | [] => none
  | .multianewarray _ _ => match st with
    | k :: n :: r => if (k.1 = 0 ∧ n.1 = 0) ∧ (0 ≤ k.2 ∧ k.2 ≤ 10000) ∧ 0 ≤ n.2 ∧ n.2 ≤ 10000 then some ((2, (sh.length : Int)) :: r, sh ++ (3, n.2.toNat) :: List.replicate n.2.toNat (0, k.2.toNat), ma_nm M sh.length n.2) else none
    | _ => none
  | .invokespecial _ => match lk with
    | [] => match st with
      | o :: r => if o.1 = 2 ∧ o.2 ≠ -1 ∧ (r.map (fun v : ma_V => if v.1 = 1 then 2 else 1)).sum ≤ 8 then some (r, sh, M) else none
      | [] => none
    | _ => none
  | .invokestatic _ => match lk with
    | [c] => if c = -1 then (match st with
        | y :: x :: o :: sp :: o0 :: r => if ((y.1 = 0 ∧ x.1 = 0 ∧ o.1 = 2 ∧ sp.1 = 0 ∧ o0.1 = 2) ∧ (r.map (fun v : ma_V => if v.1 = 1 then 2 else 1)).sum ≤ 8) ∧ (0 ≤ y.2 ∧ 0 ≤ x.2 ∧ 0 ≤ sp.2) ∧ sp.2 + y.2 ≤ ma_al sh o0.2 0 ∧ x.2 + y.2 ≤ ma_al sh o.2 0 then some (r, sh, ma_cp M o.2 x.2 y.2 o0.2 sp.2) else none
        | _ => none)
      else (match st with
        | y :: x :: r => if (y.1 = 0 ∧ x.1 = 0) ∧ (r.map (fun v : ma_V => if v.1 = 1 then 2 else 1)).sum ≤ 8 then some ((0, if c = -2 then (if y.2 < x.2 then y.2 else x.2) else (if x.2 < y.2 then y.2 else x.2)) :: r, sh, M) else none
        | _ => none)
    | _ => none
  | _ => none
/-- returns -/
def ma_s4 (mid : Nat) (ins : Instr) (st : List ma_V) : Option (Option ma_V) := match ins with
  | .ireturn => match st with
    | [v] => if v.1 = 0 ∧ (ma_r mid = some .boolean → v.2 = 0 ∨ v.2 = 1) then some (some v) else none
    | _ => none
  | .lreturn => match st with
    | [v] => if v.1 = 1 then some (some v) else none
    | _ => none
  | .return_ => match st with
    | [] => some none
    | _ => none
  | _ => none
def ma_sp : List ma_V → List ma_V
  | [] => []
  | v :: r => if v.1 = 1 then v :: ma_un :: ma_sp r else v :: ma_sp r
def ma_en (args : List ma_V) (nL : Nat) : List ma_V := ma_sp args ++ List.replicate (nL - (ma_sp args).length) ma_un
/-- calls: callee, arguments, the rest of the stack -/
def ma_s5 (ins : Instr) (lk : List Int) (st : List ma_V) (sh : ma_S) : Option (Nat × List ma_V × List ma_V) := match ins with
  | .invokevirtual _ => match lk with
    | [m, na, ci] => match st.drop na.toNat with
      | o :: r => if ((o.1 = 2 ∧ na.toNat ≤ st.length) ∧ 0 ≤ ma_al sh o.2 (ci.toNat + 4)) ∧ (ma_sp (o :: (st.take na.toNat).reverse)).length ≤ ma_mL m.toNat ∧ (r.map (fun v : ma_V => if v.1 = 1 then 2 else 1)).sum ≤ 8 then some (m.toNat, o :: (st.take na.toNat).reverse, r) else none
      | [] => none
    | _ => none
  | .invokespecial _ => match lk with
    | [m] => match st with
      | o :: r => if ((o.1 = 2 ∧ o.2 ≠ -1) ∧ (ma_sp [o]).length ≤ ma_mL m.toNat) ∧ (r.map (fun v : ma_V => if v.1 = 1 then 2 else 1)).sum ≤ 8 then some (m.toNat, [o], r) else none
      | [] => none
    | _ => none
  | .invokestatic _ => match lk with
    | [m, na] => if (na.toNat ≤ st.length ∧ (ma_sp (st.take na.toNat).reverse).length ≤ ma_mL m.toNat) ∧ ((st.drop na.toNat).map (fun v : ma_V => if v.1 = 1 then 2 else 1)).sum ≤ 8 then some (m.toNat, (st.take na.toNat).reverse, st.drop na.toNat) else none
    | _ => none
  | _ => none
def ma_bd (f : Nat → Nat → List ma_V → List ma_V → ma_S → ma_M → Option (Option ma_V × ma_S × ma_M)) (mid pc : Nat) (al st : List ma_V) (sh : ma_S) (M : ma_M) : Option (Option ma_V × ma_S × ma_M) := match ma_lk mid pc with
  | none => none
  | some (ins, len, lk) => match ma_s1 ins lk al st with
    | some (al', st') => f mid (pc + len) al' st' sh M
    | none => match ma_s2 ins pc len st with
      | some (pc', st') => f mid pc' al st' sh M
      | none => match ma_s3 ins lk st sh M with
        | some (st', sh', M') => f mid (pc + len) al st' sh' M'
        | none => match ma_s4 mid ins st with
          | some r => some (r, sh, M)
          | none => match ma_s5 ins lk st sh with
            | some (mid', args, rest) => match f mid' 0 (ma_en args (ma_mL mid')) [] sh M with
              | some (r, sh', M') => f mid (pc + len) al (r.toList ++ rest) sh' M'
              | none => none
            | none => none
def ma_ex : Nat → Nat → Nat → List ma_V → List ma_V → ma_S → ma_M → Option (Option ma_V × ma_S × ma_M)
  | 0 => fun _ _ _ _ _ _ => none
  | n + 1 => ma_bd (ma_ex n)
