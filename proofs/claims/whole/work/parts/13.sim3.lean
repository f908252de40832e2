def ma_ckf (mid i ci k : Nat) : Bool := match ma_cl[ci]? with
  | some q => decide (k < q.2.2) && decide (Cond.fieldLink (ma_y mid).cls i (q.2.1 k).1 (q.2.1 k).2.1 (q.2.1 k).2.2.1 ∈ ma_wo (ma_k mid))
  | none => false
def ma_ckp (mid ci k : Nat) : Bool := match ma_cl[ci]? with
  | some q => decide ((q.2.1 k).2.2.2 = false ∨ ((q.2.1 k).2.2.2 = true ∧ (ma_y mid).name = "<init>" ∧ (q.2.1 k).1 = (ma_y mid).cls))
  | none => false
def ma_ckn (mid i ci n : Nat) : Bool := match ma_cl[ci]? with
  | some q => decide (q.2.2 = n) && decide (Cond.classLink (ma_y mid).cls i q.1 ∈ ma_wo (ma_k mid)) && decide (Cond.instantiable q.1 q.2.2 ∈ ma_wg) && decide (Cond.initialized q.1 ∈ ma_wg)
  | none => false
def ma_ckm (mid m na : Nat) : Bool := decide (m < ma_nM) && decide (m ≠ 113) && decide (ma_h m < ma_h mid) && decide (8 + (ma_mL m + 11) + ma_q m ≤ ma_q mid) && decide ((ma_y m).cls ≠ "java/lang/invoke/MethodHandle" ∧ (ma_y m).cls ≠ "java/lang/invoke/VarHandle") && decide ((parseMethodDescriptor (ma_y m).desc).map (fun d => d.parameters.length) = some na) && decide (Cond.initialized (ma_y m).cls ∈ ma_wm m)
def ma_ckv (mid i m ci : Nat) : Bool := match ma_cl[ci]? with
  | some q => decide (q.1 = (ma_y m).cls) && decide (Cond.methodLink (ma_y mid).cls i (ma_y m) ∈ ma_wo (ma_k mid)) && decide (Cond.instanceMethod (ma_y m) ∈ ma_wm m) && decide (Cond.selects (ma_y m).cls (ma_y m) (ma_y m) ∈ ma_wm m)
  | none => false
def ma_cks (mid i m : Nat) : Bool := decide (Cond.methodLink (ma_y mid).cls i (ma_y m) ∈ ma_wo (ma_k mid)) && decide (Cond.static (ma_y m) ∈ ma_wm m)
def ma_cki (mid i m : Nat) : Bool := (decide (Cond.methodLink (ma_y mid).cls i (ma_y m) ∈ ma_wo (ma_k mid)) || decide (Cond.methodLinkNest (ma_y mid).cls i (ma_y m) ma_host ∈ ma_NW)) && decide (Cond.instanceMethod (ma_y m) ∈ ma_wm m) && decide ((ma_y m).name = "<init>") && decide (ma_r m = none)
def ma_ck (mid : Nat) (ins : Instr) (len : Nat) (lk : List Int) : Bool := match ins with
  | .tableswitch _ _ _ _ => true
  | .ldc i => len == 2 && (match lk with
    | [v] => decide (Cond.constant (ma_y mid).cls i (Int32.ofInt v) ∈ ma_wo (ma_k mid))
    | _ => true)
  | .ldc2_w i => len == 3 && (match lk with
    | [v] => decide (Cond.constantLong (ma_y mid).cls i (Int64.ofInt v) ∈ ma_wo (ma_k mid))
    | _ => true)
  | .getfield i => len == 3 && (match lk with
    | [ci, k] => ma_ckf mid i ci.toNat k.toNat
    | _ => true)
  | .putfield i => len == 3 && (match lk with
    | [ci, k] => ma_ckf mid i ci.toNat k.toNat && ma_ckp mid ci.toNat k.toNat
    | _ => true)
  | .new i => len == 3 && (match lk with
    | [ci, n] => ma_ckn mid i ci.toNat n.toNat
    | _ => true)
  | .newarray t => len == 2 && decide (t = .int ∨ t = .long ∨ t = .boolean) && decide (Cond.arrayClass (newarray.typeOf t) ∈ ma_wg)
  | .multianewarray i d => len == 4 && decide (d = 2) && decide (Cond.classLink (ma_y mid).cls i "[[I" ∈ ma_wo (ma_k mid)) && decide (Cond.arrayClass .int ∈ ma_wg)
  | .invokespecial i => len == 3 && (match lk with
    | [] => decide (Cond.methodLink (ma_y mid).cls i objectInit ∈ ma_wo (ma_k mid)) && decide (Cond.instanceMethod objectInit ∈ ma_wg) && decide (1 ≤ ma_h mid) && decide (20 ≤ ma_q mid)
    | [m] => ma_ckm mid m.toNat 0 && ma_cki mid i m.toNat
    | _ => true)
  | .invokevirtual i => len == 3 && (match lk with
    | [m, na, ci] => ma_ckm mid m.toNat na.toNat && ma_ckv mid i m.toNat ci.toNat
    | _ => true)
  | .invokestatic i => len == 3 && (match lk with
    | [c] => decide (1 ≤ ma_h mid) && decide (21 ≤ ma_q mid) && (if c = -1 then decide (60 ≤ ma_q mid) && decide (Cond.methodLink (ma_y mid).cls i arraycopyName ∈ ma_wo (ma_k mid)) && decide (Cond.native arraycopyName ∈ ma_wg) && decide (Cond.static arraycopyName ∈ ma_wg) && decide (Cond.initialized "java/lang/System" ∈ ma_wg)
      else if c = -2 then decide (Cond.methodLink (ma_y mid).cls i Lib.Math.min.name ∈ ma_wo (ma_k mid)) && decide (Cond.static Lib.Math.min.name ∈ ma_wg) && decide (Cond.initialized "java/lang/Math" ∈ ma_wg)
      else decide (Cond.methodLink (ma_y mid).cls i Lib.Math.max.name ∈ ma_wo (ma_k mid)) && decide (Cond.static Lib.Math.max.name ∈ ma_wg) && decide (Cond.initialized "java/lang/Math" ∈ ma_wg))
    | [m, na] => ma_ckm mid m.toNat na.toNat && ma_cks mid i m.toNat
    | _ => true)
  | .ireturn => len == 1 && decide (ma_r mid = some .int ∨ ma_r mid = some .boolean)
  | .lreturn => len == 1 && decide (ma_r mid = some .long)
  | .return_ => len == 1 && decide (ma_r mid = none)
  | i => len == ma_ln i
set_option maxHeartbeats 4000000 in
theorem ma_ck1 {mid len : Nat} {ins : Instr} {lk : List Int} {al st al' st' : List ma_V} (hck : ma_ck mid ins len lk = true) (h : ma_s1 ins lk al st = some (al', st')) : (∀ i v, ins = .ldc i → lk = [v] → Cond.constant (ma_y mid).cls i (Int32.ofInt v) ∈ ma_wo (ma_k mid)) ∧ (∀ i v, ins = .ldc2_w i → lk = [v] → Cond.constantLong (ma_y mid).cls i (Int64.ofInt v) ∈ ma_wo (ma_k mid)) ∧ len = ma_ln ins := by
  cases ins
  case ldc i =>
    rcases lk with _ | ⟨v, _ | ⟨w, t⟩⟩
    · exact nomatch (show (none : Option (List ma_V × List ma_V)) = some (al', st') from h)
    · have hck1 : (len == 2 && decide (Cond.constant (ma_y mid).cls i (Int32.ofInt v) ∈ ma_wo (ma_k mid))) = true := hck
      rw [Bool.and_eq_true, beq_iff_eq] at hck1
      refine ⟨fun i' v' z1 z2 => ?_, fun i' v z1 _ => (nomatch z1), hck1.1⟩
      cases z1
      cases z2
      exact of_decide_eq_true hck1.2
    · exact nomatch (show (none : Option (List ma_V × List ma_V)) = some (al', st') from h)
  case ldc2_w i =>
    rcases lk with _ | ⟨v, _ | ⟨w, t⟩⟩
    · exact nomatch (show (none : Option (List ma_V × List ma_V)) = some (al', st') from h)
    · have hck1 : (len == 3 && decide (Cond.constantLong (ma_y mid).cls i (Int64.ofInt v) ∈ ma_wo (ma_k mid))) = true := hck
      rw [Bool.and_eq_true, beq_iff_eq] at hck1
      refine ⟨fun i' v z1 _ => (nomatch z1), fun i' v' z1 z2 => ?_, hck1.1⟩
      cases z1
      cases z2
      exact of_decide_eq_true hck1.2
    · exact nomatch (show (none : Option (List ma_V × List ma_V)) = some (al', st') from h)
  all_goals first
    | exact nomatch (show (none : Option (List ma_V × List ma_V)) = some (al', st') from h)
    | exact ⟨fun _ _ z _ => (nomatch z), fun _ _ z _ => (nomatch z), beq_iff_eq.mp hck⟩
set_option maxHeartbeats 4000000 in
theorem ma_ck2 {mid len pc pc' : Nat} {ins : Instr} {lk : List Int} {st st' : List ma_V} (hck : ma_ck mid ins len lk = true) (h : ma_s2 ins pc len st = some (pc', st')) : (∃ a b d o, ins = .tableswitch a b d o) ∨ len = ma_ln ins := by
  cases ins
  case tableswitch a b d o => exact Or.inl ⟨a, b, d, o, rfl⟩
  all_goals first
    | exact nomatch (show (none : Option (Nat × List ma_V)) = some (pc', st') from h)
    | exact Or.inr (beq_iff_eq.mp hck)
def ma_sz (sh : ma_S) : Nat := (sh.map (fun q => q.2)).sum
theorem ma_catE {ad : Int → Nat} (v : ma_V) : (ma_tv ad v).category = if v.1 = 1 then 2 else 1 := by
  by_cases h : v.1 = 1
  · rw [if_pos h]
    unfold ma_tv
    rw [if_neg (by omega), if_pos h]
    rfl
  · rw [if_neg h, ma_cat1 h]
theorem ma_cats {ad : Int → Nat} (r : List ma_V) : ((r.map (ma_tv ad)).map (fun v => v.category)).sum = (r.map (fun v : ma_V => if v.1 = 1 then 2 else 1)).sum := by
  rw [List.map_map]
  congr 1
  apply List.map_congr_left
  intro v _
  exact ma_catE v
theorem ma_MO_al {sh : ma_S} {M : ma_M} {k : Nat} {r i : Int} (h : ma_MO sh M) (h0 : 0 ≤ i) (hl : i < ma_al sh r k) : ma_ok sh.length (ma_kt k i.toNat, M r i) := by
  obtain ⟨q, n, rfl, hs, hn⟩ := ma_al_i (show 0 ≤ ma_al sh r k by omega)
  have h2 := h q _ hs i.toNat (by show i.toNat < n; omega)
  rw [Int.toNat_of_nonneg h0] at h2
  exact h2
theorem ma_ad_i {st st' : List ma_V} {sh sh' : ma_S} {M M' : ma_M} {k t : Nat} (h : ma_ad st sh M k t = some (st', sh', M')) : ∃ (i o : Int) (r : List ma_V), st = (0, i) :: (2, o) :: r ∧ 0 ≤ i ∧ i < ma_al sh o k ∧ (t, M o i) :: r = st' ∧ sh = sh' ∧ M = M' := by
  unfold ma_ad at h
  split at h
  · next v w r =>
    split at h
    · next hc =>
      obtain ⟨a, i⟩ := v
      obtain ⟨b, o⟩ := w
      obtain ⟨⟨h1, h2⟩, h3, h4⟩ := hc
      obtain rfl : a = 0 := h1
      obtain rfl : b = 2 := h2
      cases h
      exact ⟨i, o, r, rfl, h3, h4, rfl, rfl, rfl⟩
    · cases h
  · cases h
theorem ma_as_i {st st' : List ma_V} {sh sh' : ma_S} {M M' : ma_M} {k t : Nat} (h : ma_as st sh M k t = some (st', sh', M')) : ∃ (v i o : Int) (r : List ma_V), st = (t, v) :: (0, i) :: (2, o) :: r ∧ 0 ≤ i ∧ i < ma_al sh o k ∧ r = st' ∧ sh = sh' ∧ ma_up M o i v = M' := by
  unfold ma_as at h
  split at h
  · next u v w r =>
    split at h
    · next hc =>
      obtain ⟨a0, x⟩ := u
      obtain ⟨a, i⟩ := v
      obtain ⟨b, o⟩ := w
      obtain ⟨⟨h0, h1, h2⟩, h3, h4⟩ := hc
      obtain rfl : a0 = t := h0
      obtain rfl : a = 0 := h1
      obtain rfl : b = 2 := h2
      cases h
      exact ⟨x, i, o, _, rfl, h3, h4, rfl, rfl, rfl⟩
    · cases h
  · cases h
theorem ma_az_i {st st' : List ma_V} {sh sh' : ma_S} {M M' : ma_M} (h : ma_az st sh M = some (st', sh', M')) : ∃ (v i o : Int) (r : List ma_V), st = (0, v) :: (0, i) :: (2, o) :: r ∧ 0 ≤ i ∧ i < ma_al sh o 2 ∧ (v = 0 ∨ v = 1) ∧ r = st' ∧ sh = sh' ∧ ma_up M o i v = M' := by
  unfold ma_az at h
  split at h
  · next u v w r =>
    split at h
    · next hc =>
      obtain ⟨a0, x⟩ := u
      obtain ⟨a, i⟩ := v
      obtain ⟨b, o⟩ := w
      obtain ⟨⟨h0, h1, h2⟩, ⟨h3, h4⟩, h5⟩ := hc
      obtain rfl : a0 = 0 := h0
      obtain rfl : a = 0 := h1
      obtain rfl : b = 2 := h2
      cases h
      exact ⟨x, i, o, _, rfl, h3, h4, h5, rfl, rfl, rfl⟩
    · cases h
  · cases h
theorem ma_kt0 (j : Nat) : ma_kt 0 j = 0 := rfl
theorem ma_sz_app (sh ex : ma_S) : ma_sz (sh ++ ex) = ma_sz sh + ma_sz ex := by
  unfold ma_sz
  rw [List.map_append, List.sum_append]
section COPY
variable {p : Program} {l : Launch} {e : Env} {R : Room} {s : State} {m : MethodId} {args : Array Value} {below : List Frame} {meth : Method} {c : Code} {H : Heap} {locs : List Loc} {cells slots : Nat} {Q : State → Prop}
variable {cc : ByteArray} {pc : Nat} {ls : Array Slot} {ad : Int → Nat} {D : va_G} {cl : List vw_C} {cA : Nat → ClassId} {A : Nat → Prop} {H0 : Heap} {b L : Nat} {xs : Nat → Int32} {sh : ma_S} {M : ma_M} {rest : List Value}
theorem ma_x_copy (hx : p.tables.exec = Jvm.exec) (hb : c.code = cc) (hml : c.maxLocals = ls.size) {own : String} {index : Nat} (hown : s.vm.findClass own = some m.cls) (hlink : (Cond.methodLink own index arraycopyName).before args s = true) (hnat : (Cond.native arraycopyName).before args s = true) (hstat : (Cond.static arraycopyName).before args s = true) (hini : (Cond.initialized "java/lang/System").before args s = true) (hK : va_K D cl (ma_ty cA) s) (G : ma_G D cl cA A H0 b L xs ad sh M H locs) {y x o sp o0 : Int} (hy : 0 ≤ y) (hy1 : y ≤ 2147483647) (hx0 : 0 ≤ x) (hx1 : x ≤ 2147483647) (hsp : 0 ≤ sp) (hsp1 : sp ≤ 2147483647)
    (hl1 : sp + y ≤ ma_al sh o0 0) (hl2 : x + y ≤ ma_al sh o 0) (hframes : 1 ≤ R.frames) (hlocals : (rest.map fun v => v.category).sum + (nativeFrameWords "java/lang/System" "arraycopy" 5 + 11) ≤ R.locals) (hd : decode cc pc = .ok (.invokestatic index, 3))
    (kk : ∀ (H1 : Heap) (locs1 : List Loc), ma_G D cl cA A H0 b L xs ad sh (ma_cp M o x y o0 sp) H1 locs1 → W p l e R s m args below meth c H1 locs1 cells slots Q (F0 m (pc + 3) ls rest)) : W p l e R s m args below meth c H locs cells slots Q (F0 m pc ls (.int (Int32.ofInt y) :: .int (Int32.ofInt x) :: ma_tv ad (2, o) :: .int (Int32.ofInt sp) :: ma_tv ad (2, o0) :: rest)) := by
  obtain ⟨q0, n0, rfl, hs0, hn0⟩ := ma_al_i (show 0 ≤ ma_al sh o0 0 by omega)
  obtain ⟨q1, n1, rfl, hs1, hn1⟩ := ma_al_i (show 0 ≤ ma_al sh o 0 by omega)
  rw [ma_tv2 ad (show (q1 : Int) ≠ -1 by omega), ma_tv2 ad (show (q0 : Int) ≠ -1 by omega)]
  have n1' : ∀ v : Int, 0 ≤ v → v ≤ 2147483647 → ¬ Int32.ofInt v < 0 := fun v h0 h1 z => by
    have := (ma_lt32 (y := 0) (by omega) ma_z0).mp z
    omega
  refine va_copyi (f := fun j : Nat => Int32.ofInt (M (q0 : Int) (j : Int))) (g := fun j : Nat => Int32.ofInt (M (q1 : Int) (j : Int))) hx hb hml hown hlink hnat hstat hini hK G.1 G.2.1 G.2.2.1 q0 q1 0 0 (c0 := cA 0) (c1 := cA 0) (n0 := n0) (n1 := n1) (ty := .int) (ma_ws_at hs0) (ma_ws_at hs1) rfl rfl rfl (n1' sp hsp hsp1) (n1' x hx0 hx1) (n1' y hy hy1) (by rw [ma_cl32 hsp hsp1, ma_cl32 hy hy1]; omega) (by rw [ma_cl32 hx0 hx1, ma_cl32 hy hy1]; omega) (fun _ _ => rfl) hframes hlocals hd (fun H1 locs1 hP hD hS => kk H1 locs1 ?_)
  rw [ma_cl32 hsp hsp1, ma_cl32 hx0 hx1, ma_cl32 hy hy1] at hP hD
  have hne : ∀ (k j : Int), k ≠ (q1 : Int) → ma_cp M (q1 : Int) x y (q0 : Int) sp k j = M k j := fun k j hk => if_neg (fun z => hk z.1)
  have e1 := ma_ws_set (ad := ad) (cA := cA) (M := M) (M' := ma_cp M (q1 : Int) x y (q0 : Int) sp) (E := .inl (cA 0, n1, .inl (va_cpy (fun j : Nat => Int32.ofInt (M (q0 : Int) (j : Int))) (fun j : Nat => Int32.ofInt (M (q1 : Int) (j : Int))) sp.toNat x.toNat y.toNat))) hs1 (by
    show Sum.inl (cA 0, n1, Sum.inl (fun j : Nat => Int32.ofInt (ma_cp M (q1 : Int) x y (q0 : Int) sp (q1 : Int) (j : Int)))) = _
    refine congrArg (fun g => Sum.inl (cA 0, n1, Sum.inl g)) (funext fun j => ?_)
    unfold va_cpy ma_cp
    by_cases hj : x.toNat ≤ j ∧ j < x.toNat + y.toNat
    · rw [if_pos hj, if_pos ⟨rfl, by omega, by omega⟩]
      have e2 : sp + ((j : Int) - x) = ((sp.toNat + (j - x.toNat) : Nat) : Int) := by omega
      rw [e2]
    · rw [if_neg hj, if_neg (fun z => hj (by omega))]) (fun k hk j => hne _ _ (by omega))
  rw [e1] at hP hD
  refine ⟨hP, hD, hS, fun q k hq j hj => ?_, G.2.2.2.2.1, by rw [hne _ _ (by omega)]; exact G.2.2.2.2.2.1, fun j hj => by rw [hne _ _ (by omega)]; exact G.2.2.2.2.2.2 j hj⟩
  by_cases hc : (q : Int) = (q1 : Int) ∧ x ≤ (j : Int) ∧ (j : Int) < x + y
  · obtain rfl : q = q1 := by omega
    cases hs1.symm.trans hq
    have e3 : ma_cp M (q : Int) x y (q0 : Int) sp (q : Int) (j : Int) = M (q0 : Int) (sp + ((j : Int) - x)) := if_pos hc
    rw [e3]
    exact ma_MO_al (k := 0) G.2.2.2.1 (by omega) (by omega)
  · have e3 : ma_cp M (q1 : Int) x y (q0 : Int) sp (q : Int) (j : Int) = M (q : Int) (j : Int) := if_neg hc
    rw [e3]
    exact G.2.2.2.1 q k hq j hj
end COPY
section SIM3
variable {p : Program} {l : Launch} {e : Env} {R : Room} {s : State} {m : MethodId} {args : Array Value} {below : List Frame} {meth : Method} {c : Code} {H : Heap} {locs : List Loc} {cells slots : Nat} {Q : State → Prop}
variable {cc : ByteArray} {pc : Nat} {ls : Array Slot} {ad : Int → Nat} {D : va_G} {cA : Nat → ClassId} {A : Nat → Prop} {H0 : Heap} {b L : Nat} {xs : Nat → Int32} {sh sh' : ma_S} {M M' : ma_M}
set_option maxHeartbeats 8000000 in
set_option maxRecDepth 100000 in
theorem ma_sim3 (hx : p.tables.exec = Jvm.exec) (hb : c.code = cc) {mid : Nat} (hml : c.maxLocals = ls.size) (hown : s.vm.findClass (ma_y mid).cls = some m.cls) (hts : ∀ w ∈ ma_W, w.before args s = true) (hAO : ma_AO s) (hK : va_K D ma_cl (ma_ty cA) s) (hA : ∀ q, H0.size ≤ q → A q) (hX : va_X b L xs s H0) (hL : L ≤ 2147483647) (hbl : b < H0.size) (hbA : ¬ A b)
    (hin : (ma_y mid).name = "<init>" → meth.name = "<init>") (hR1 : ma_q mid ≤ R.locals) (hR2 : ma_h mid ≤ R.frames) {ins : Instr} {len : Nat} {lk : List Int} (hd : decode cc pc = .ok (ins, len)) (hck : ma_ck mid ins len lk = true) {st st' : List ma_V} (h : ma_s3 ins lk st sh M = some (st', sh', M')) (ho : ma_oks sh.length st) (G : ma_G D ma_cl cA A H0 b L xs ad sh M H locs)
    (hc0 : cells ≤ R.cells) (hs0 : slots ≤ R.slots) (hcells : cells + (sh'.length - sh.length) ≤ R.cells) (hslots : slots + (ma_sz sh' - ma_sz sh) ≤ R.slots)
    (kk : ∀ (ad' : Int → Nat) (H' : Heap) (locs' : List Loc), (∀ r : Int, r < sh.length → ad' r = ad r) → ma_G D ma_cl cA A H0 b L xs ad' sh' M' H' locs' → ma_oks sh'.length st' → W p l e R s m args below meth c H' locs' (cells + (sh'.length - sh.length)) (slots + (ma_sz sh' - ma_sz sh)) Q (F0 m (pc + len) ls (st'.map (ma_tv ad')))) :
    W p l e R s m args below meth c H locs cells slots Q (F0 m pc ls (st.map (ma_tv ad))) := by
  cases ins
  case getfield i =>
    rcases lk with _ | ⟨ci, _ | ⟨k, _ | ⟨z, t⟩⟩⟩
    case cons.cons.nil =>
      rcases st with _ | ⟨⟨t0, o⟩, r⟩
      · exact nomatch (show (none : Option (List ma_V × ma_S × ma_M)) = some (st', sh', M') from h)
      · have h0 : (if t0 = 2 ∧ 0 ≤ k ∧ k < ma_al sh o (ci.toNat + 4) then some ((ma_fk ci.toNat k.toNat, M o k) :: r, sh, M) else none) = some (st', sh', M') := h
        split at h0
        · next hc =>
          obtain ⟨rfl, hk0, hkl⟩ := hc
          cases h0
          have hck1 : (len == 3 && ma_ckf mid i ci.toNat k.toNat) = true := hck
          rw [Bool.and_eq_true, beq_iff_eq] at hck1
          obtain ⟨rfl, hck1⟩ := hck1
          unfold ma_ckf at hck1
          cases hcl : ma_cl[ci.toNat]? with
          | none => rw [hcl] at hck1; cases hck1
          | some q =>
            obtain ⟨C, T, N⟩ := q
            rw [hcl] at hck1
            simp only [Bool.and_eq_true, decide_eq_true_eq] at hck1
            obtain ⟨hkN, hw⟩ := hck1
            have hok := ma_MO_al G.2.2.2.1 hk0 hkl
            rw [ma_kt_o] at hok
            have k1 := kk ad H locs (fun _ _ => rfl) G (ma_oks_c hok (ma_oks_t ho))
            rw [Nat.sub_self, Nat.sub_self, Nat.add_zero, Nat.add_zero] at k1
            obtain ⟨j, rfl⟩ : ∃ j : Nat, k = (j : Int) := ⟨k.toNat, by omega⟩
            rw [Int.toNat_natCast] at hkN hw k1
            exact ma_x_get hx hb hts (ma_uw hcl) hown hK G hcl hkN (hts _ (ma_wo_in _ _ hw)) hkl hd k1
        · cases h0
    all_goals exact nomatch (show (none : Option (List ma_V × ma_S × ma_M)) = some (st', sh', M') from h)
  case putfield i =>
    rcases lk with _ | ⟨ci, _ | ⟨k, _ | ⟨z, t⟩⟩⟩
    case cons.cons.nil =>
      rcases st with _ | ⟨v, _ | ⟨⟨t0, o⟩, r⟩⟩
      · exact nomatch (show (none : Option (List ma_V × ma_S × ma_M)) = some (st', sh', M') from h)
      · exact nomatch (show (none : Option (List ma_V × ma_S × ma_M)) = some (st', sh', M') from h)
      · have h0 : (if (v.1 = ma_fk ci.toNat k.toNat ∧ t0 = 2) ∧ (0 ≤ k ∧ k < ma_al sh o (ci.toNat + 4)) ∧ (ma_fz ci.toNat k.toNat = true → v.2 = 0 ∨ v.2 = 1) then some (r, sh, ma_up M o k v.2) else none) = some (st', sh', M') := h
        split at h0
        · next hc =>
          obtain ⟨⟨hv, rfl⟩, ⟨hk0, hkl⟩, hz⟩ := hc
          cases h0
          have hck1 : (len == 3 && (ma_ckf mid i ci.toNat k.toNat && ma_ckp mid ci.toNat k.toNat)) = true := hck
          rw [Bool.and_eq_true, Bool.and_eq_true, beq_iff_eq] at hck1
          obtain ⟨rfl, hck1, hck2⟩ := hck1
          unfold ma_ckf at hck1
          unfold ma_ckp at hck2
          cases hcl : ma_cl[ci.toNat]? with
          | none => rw [hcl] at hck1; cases hck1
          | some q =>
            obtain ⟨C, T, N⟩ := q
            rw [hcl] at hck1 hck2
            simp only [Bool.and_eq_true, decide_eq_true_eq] at hck1 hck2
            obtain ⟨hkN, hw⟩ := hck1
            obtain ⟨q1, q2, q3⟩ := ma_ci hcl
            have k1 := fun H' locs' g => kk ad H' locs' (fun _ _ => rfl) g (ma_oks_t (ma_oks_t ho))
            rw [Nat.sub_self, Nat.sub_self, Nat.add_zero, Nat.add_zero] at k1
            obtain ⟨j, rfl⟩ : ∃ j : Nat, k = (j : Int) := ⟨k.toNat, by omega⟩
            rw [Int.toNat_natCast] at hkN hw hck2 hv hz
            exact ma_x_put hx hb hts (ma_uw hcl) q1 q2 (q3 j hkN) hown hK G hcl hkN (hts _ (ma_wo_in _ _ hw)) (hck2.imp id (fun z => ⟨z.1, hin z.2.1, z.2.2⟩)) hv hz (ma_oks_h ho) hkl hd k1
        · cases h0
    all_goals exact nomatch (show (none : Option (List ma_V × ma_S × ma_M)) = some (st', sh', M') from h)
  case iaload =>
    obtain rfl : len = 1 := beq_iff_eq.mp hck
    rcases lk with _ | ⟨z, t⟩
    · obtain ⟨i, o, r, rfl, h0, h1, rfl, rfl, rfl⟩ := ma_ad_i h
      have k1 := kk ad H locs (fun _ _ => rfl) G (ma_oks_c (ma_MO_al G.2.2.2.1 h0 h1) (ma_oks_t (ma_oks_t ho)))
      rw [Nat.sub_self, Nat.sub_self, Nat.add_zero, Nat.add_zero] at k1
      exact ma_x_iald hx hb hK G h0 (ma_ok0 (ma_oks_h ho)).2 h1 hd k1
    · rcases st with _ | ⟨⟨t0, i⟩, _ | ⟨o, r⟩⟩
      · exact nomatch (show (none : Option (List ma_V × ma_S × ma_M)) = some (st', sh', M') from h)
      · exact nomatch (show (none : Option (List ma_V × ma_S × ma_M)) = some (st', sh', M') from h)
      · have h0 : (if (t0 = 0 ∧ o = (2, -2)) ∧ 0 ≤ i ∧ i < M (-2) (-1) then some ((0, M (-2) i) :: r, sh, M) else none) = some (st', sh', M') := h
        split at h0
        · next hc =>
          obtain ⟨⟨rfl, rfl⟩, h1, h2⟩ := hc
          cases h0
          have hok : ma_ok sh.length (0, M (-2) i) := by
            have h3 := h2
            rw [G.2.2.2.2.2.1] at h3
            obtain ⟨j, rfl⟩ : ∃ j : Nat, i = (j : Int) := ⟨i.toNat, by omega⟩
            rw [G.2.2.2.2.2.2 j (by omega)]
            exact ma_i0 (ma_r32 _)
          have k1 := kk ad H locs (fun _ _ => rfl) G (ma_oks_c hok (ma_oks_t (ma_oks_t ho)))
          rw [Nat.sub_self, Nat.sub_self, Nat.add_zero, Nat.add_zero] at k1
          exact ma_x_sld hx hb hX hbl hbA G h1 (ma_ok0 (ma_oks_h ho)).2 h2 hd k1
        · cases h0
  case laload =>
    obtain rfl : len = 1 := beq_iff_eq.mp hck
    obtain ⟨i, o, r, rfl, h0, h1, rfl, rfl, rfl⟩ := ma_ad_i h
    have k1 := kk ad H locs (fun _ _ => rfl) G (ma_oks_c (ma_MO_al G.2.2.2.1 h0 h1) (ma_oks_t (ma_oks_t ho)))
    rw [Nat.sub_self, Nat.sub_self, Nat.add_zero, Nat.add_zero] at k1
    exact ma_x_lald hx hb hK G h0 (ma_ok0 (ma_oks_h ho)).2 h1 hd k1
  case baload =>
    obtain rfl : len = 1 := beq_iff_eq.mp hck
    obtain ⟨i, o, r, rfl, h0, h1, rfl, rfl, rfl⟩ := ma_ad_i h
    have k1 := kk ad H locs (fun _ _ => rfl) G (ma_oks_c (ma_MO_al G.2.2.2.1 h0 h1) (ma_oks_t (ma_oks_t ho)))
    rw [Nat.sub_self, Nat.sub_self, Nat.add_zero, Nat.add_zero] at k1
    exact ma_x_zald hx hb hK G h0 (ma_ok0 (ma_oks_h ho)).2 h1 hd k1
  case aaload =>
    obtain rfl : len = 1 := beq_iff_eq.mp hck
    obtain ⟨i, o, r, rfl, h0, h1, rfl, rfl, rfl⟩ := ma_ad_i h
    have k1 := kk ad H locs (fun _ _ => rfl) G (ma_oks_c (ma_MO_al G.2.2.2.1 h0 h1) (ma_oks_t (ma_oks_t ho)))
    rw [Nat.sub_self, Nat.sub_self, Nat.add_zero, Nat.add_zero] at k1
    exact ma_x_aald hx hb hK G h0 (ma_ok0 (ma_oks_h ho)).2 h1 hd k1
  case iastore =>
    obtain rfl : len = 1 := beq_iff_eq.mp hck
    obtain ⟨v, i, o, r, rfl, h0, h1, rfl, rfl, rfl⟩ := ma_as_i h
    have k1 := fun H' locs' g => kk ad H' locs' (fun _ _ => rfl) g (ma_oks_t (ma_oks_t (ma_oks_t ho)))
    rw [Nat.sub_self, Nat.sub_self, Nat.add_zero, Nat.add_zero] at k1
    exact ma_x_iast hx hb hK G h0 (ma_ok0 (ma_oks_h (ma_oks_t ho))).2 h1 (ma_oks_h ho) hd k1
  case lastore =>
    obtain rfl : len = 1 := beq_iff_eq.mp hck
    obtain ⟨v, i, o, r, rfl, h0, h1, rfl, rfl, rfl⟩ := ma_as_i h
    have k1 := fun H' locs' g => kk ad H' locs' (fun _ _ => rfl) g (ma_oks_t (ma_oks_t (ma_oks_t ho)))
    rw [Nat.sub_self, Nat.sub_self, Nat.add_zero, Nat.add_zero] at k1
    exact ma_x_last hx hb hK G h0 (ma_ok0 (ma_oks_h (ma_oks_t ho))).2 h1 (ma_oks_h ho) hd k1
  case bastore =>
    obtain rfl : len = 1 := beq_iff_eq.mp hck
    obtain ⟨v, i, o, r, rfl, h0, h1, hv, rfl, rfl, rfl⟩ := ma_az_i h
    have k1 := fun H' locs' g => kk ad H' locs' (fun _ _ => rfl) g (ma_oks_t (ma_oks_t (ma_oks_t ho)))
    rw [Nat.sub_self, Nat.sub_self, Nat.add_zero, Nat.add_zero] at k1
    exact ma_x_zast hx hb hK G h0 (ma_ok0 (ma_oks_h (ma_oks_t ho))).2 h1 hv hd k1
  case arraylength =>
    obtain rfl : len = 1 := beq_iff_eq.mp hck
    rcases lk with _ | ⟨z, t⟩
    · rcases st with _ | ⟨⟨t0, o⟩, r⟩
      · exact nomatch (show (none : Option (List ma_V × ma_S × ma_M)) = some (st', sh', M') from h)
      · have h0 : (if t0 = 2 ∧ 0 ≤ ma_al sh o 0 ∧ ma_al sh o 0 ≤ 2147483647 then some ((0, ma_al sh o 0) :: r, sh, M) else none) = some (st', sh', M') := h
        split at h0
        · next hc =>
          obtain ⟨rfl, h1, h2⟩ := hc
          cases h0
          have k1 := kk ad H locs (fun _ _ => rfl) G (ma_oks_c (ma_i0 (by omega)) (ma_oks_t ho))
          rw [Nat.sub_self, Nat.sub_self, Nat.add_zero, Nat.add_zero] at k1
          exact ma_x_alen hx hb hK G h1 hd k1
        · cases h0
    · rcases st with _ | ⟨o, r⟩
      · exact nomatch (show (none : Option (List ma_V × ma_S × ma_M)) = some (st', sh', M') from h)
      · have h0 : (if o = (2, -2) then some ((0, M (-2) (-1)) :: r, sh, M) else none) = some (st', sh', M') := h
        split at h0
        · next hc =>
          subst hc
          cases h0
          have k1 := kk ad H locs (fun _ _ => rfl) G (ma_oks_c (ma_i0 (by rw [G.2.2.2.2.2.1]; omega)) (ma_oks_t ho))
          rw [Nat.sub_self, Nat.sub_self, Nat.add_zero, Nat.add_zero] at k1
          exact ma_x_slen hx hb hX hbl hbA G hd k1
        · cases h0
  case new i =>
    rcases lk with _ | ⟨ci, _ | ⟨n, _ | ⟨z, t⟩⟩⟩
    case cons.cons.nil =>
      have h0 : some ((2, (sh.length : Int)) :: st, sh ++ [(ci.toNat + 4, n.toNat)], ma_nw M sh.length (fun i => if ma_fk ci.toNat i.toNat = 2 then -1 else 0)) = some (st', sh', M') := h
      cases h0
      have hck1 : (len == 3 && ma_ckn mid i ci.toNat n.toNat) = true := hck
      rw [Bool.and_eq_true, beq_iff_eq] at hck1
      obtain ⟨rfl, hck1⟩ := hck1
      unfold ma_ckn at hck1
      cases hcl : ma_cl[ci.toNat]? with
      | none => rw [hcl] at hck1; cases hck1
      | some q =>
        obtain ⟨C, T, N⟩ := q
        rw [hcl] at hck1
        simp only [Bool.and_eq_true, decide_eq_true_eq] at hck1
        obtain ⟨⟨⟨hN, w1⟩, w2⟩, w3⟩ := hck1
        obtain ⟨q1, q2, q3⟩ := ma_ci hcl
        have e1 : (sh ++ [(ci.toNat + 4, n.toNat)]).length - sh.length = 1 := by rw [List.length_append, List.length_singleton]; omega
        have e2 : ma_sz (sh ++ [(ci.toNat + 4, n.toNat)]) - ma_sz sh = n.toNat := by
          rw [ma_sz_app]
          show ma_sz sh + (n.toNat + 0) - ma_sz sh = n.toNat
          omega
        rw [e1] at hcells
        rw [e2] at hslots
        rw [e1, e2] at kk
        subst hN
        refine ma_x_new hx hb hts (ma_uw hcl) q1 q3 hown (hts _ (ma_wo_in _ _ w1)) (hts _ (ma_wg_in _ w2)) (hts _ (ma_wg_in _ w3)) hK hA G hcl hcells hslots hd (fun q H1 g => ?_)
        have k1 := kk _ H1 locs (fun r hr => ma_ax_lt hr) g (ma_oks_c (ma_i2 (by rw [List.length_append, List.length_singleton]; omega)) (fun v hv => ma_ok_le (by rw [List.length_append]; omega) (ho v hv)))
        rw [List.map_cons, ma_tv2 _ (by omega), ma_ax_s, ma_map_eq ho (fun r hr => ma_ax_lt hr)] at k1
        exact k1
    all_goals exact nomatch (show (none : Option (List ma_V × ma_S × ma_M)) = some (st', sh', M') from h)
  case newarray at' =>
    rcases st with _ | ⟨⟨t0, n⟩, r⟩
    · exact nomatch (show (none : Option (List ma_V × ma_S × ma_M)) = some (st', sh', M') from h)
    · have h0 : (if t0 = 0 ∧ 0 ≤ n ∧ n ≤ 10000 then some ((2, (sh.length : Int)) :: r, sh ++ [(ma_kd at', n.toNat)], ma_nw M sh.length (fun _ => 0)) else none) = some (st', sh', M') := h
      split at h0
      · next hc =>
        obtain ⟨rfl, h1, h2⟩ := hc
        cases h0
        have hck1 : (len == 2 && decide (at' = .int ∨ at' = .long ∨ at' = .boolean) && decide (Cond.arrayClass (newarray.typeOf at') ∈ ma_wg)) = true := hck
        simp only [Bool.and_eq_true, beq_iff_eq, decide_eq_true_eq] at hck1
        obtain ⟨⟨rfl, hat⟩, hw⟩ := hck1
        have e1 : (sh ++ [(ma_kd at', n.toNat)]).length - sh.length = 1 := by rw [List.length_append, List.length_singleton]; omega
        have e2 : ma_sz (sh ++ [(ma_kd at', n.toNat)]) - ma_sz sh = n.toNat := by
          rw [ma_sz_app]
          show ma_sz sh + (n.toNat + 0) - ma_sz sh = n.toNat
          omega
        rw [e1] at hcells
        rw [e2] at hslots
        rw [e1, e2] at kk
        refine ma_x_newa hx hb hat (hts _ (ma_wg_in _ hw)) hK hA G h1 h2 hcells hslots hd (fun q H1 g => ?_)
        have k1 := kk _ H1 locs (fun r hr => ma_ax_lt hr) g (ma_oks_c (ma_i2 (by rw [List.length_append, List.length_singleton]; omega)) (fun v hv => ma_ok_le (by rw [List.length_append]; omega) (ma_oks_t ho v hv)))
        rw [List.map_cons, ma_tv2 _ (by omega), ma_ax_s, ma_map_eq (ma_oks_t ho) (fun r hr => ma_ax_lt hr)] at k1
        exact k1
      · cases h0
  case multianewarray i d =>
    rcases st with _ | ⟨⟨t0, k⟩, _ | ⟨⟨t1, n⟩, r⟩⟩
    · exact nomatch (show (none : Option (List ma_V × ma_S × ma_M)) = some (st', sh', M') from h)
    · exact nomatch (show (none : Option (List ma_V × ma_S × ma_M)) = some (st', sh', M') from h)
    · have h0 : (if (t0 = 0 ∧ t1 = 0) ∧ (0 ≤ k ∧ k ≤ 10000) ∧ 0 ≤ n ∧ n ≤ 10000 then some ((2, (sh.length : Int)) :: r, sh ++ (3, n.toNat) :: List.replicate n.toNat (0, k.toNat), ma_nm M sh.length n) else none) = some (st', sh', M') := h
      split at h0
      · next hc =>
        obtain ⟨⟨rfl, rfl⟩, ⟨h1, h2⟩, h3, h4⟩ := hc
        cases h0
        have hck1 : (len == 4 && decide (d = 2) && decide (Cond.classLink (ma_y mid).cls i "[[I" ∈ ma_wo (ma_k mid)) && decide (Cond.arrayClass .int ∈ ma_wg)) = true := hck
        simp only [Bool.and_eq_true, beq_iff_eq, decide_eq_true_eq] at hck1
        obtain ⟨⟨⟨rfl, rfl⟩, w1⟩, w2⟩ := hck1
        have e1 : (sh ++ (3, n.toNat) :: List.replicate n.toNat (0, k.toNat)).length - sh.length = 1 + n.toNat := by rw [List.length_append, List.length_cons, List.length_replicate]; omega
        have e3 : ma_sz ((3, n.toNat) :: List.replicate n.toNat (0, k.toNat)) = n.toNat + n.toNat * k.toNat := by
          unfold ma_sz
          rw [List.map_cons, List.sum_cons, List.map_replicate, List.sum_replicate_nat]
        have e2 : ma_sz (sh ++ (3, n.toNat) :: List.replicate n.toNat (0, k.toNat)) - ma_sz sh = n.toNat + n.toNat * k.toNat := by
          rw [ma_sz_app, e3]
          omega
        rw [e1] at hcells
        rw [e2] at hslots
        rw [e1, e2] at kk
        refine ma_x_multi hx hb hown (hts _ (ma_wo_in _ _ w1)) hAO (hts _ (ma_wg_in _ w2)) hK hA G h1 h2 h3 h4 hcells hslots hd (fun ad' H1 hext g => ?_)
        have hlen : sh.length ≤ (sh ++ (3, n.toNat) :: List.replicate n.toNat (0, k.toNat)).length := by rw [List.length_append]; omega
        have k1 := kk ad' H1 locs hext g (ma_oks_c (ma_i2 (by rw [List.length_append, List.length_cons]; omega)) (fun v hv => ma_ok_le hlen (ma_oks_t (ma_oks_t ho) v hv)))
        rw [List.map_cons, ma_tv2 _ (by omega), ma_map_eq (ma_oks_t (ma_oks_t ho)) hext, ← Nat.add_assoc, ← Nat.add_assoc] at k1
        exact k1
      · cases h0
  case invokespecial i =>
    rcases lk with _ | ⟨z, t⟩
    · rcases st with _ | ⟨⟨t0, o⟩, r⟩
      · exact nomatch (show (none : Option (List ma_V × ma_S × ma_M)) = some (st', sh', M') from h)
      · have h0 : (if t0 = 2 ∧ o ≠ -1 ∧ (r.map (fun v : ma_V => if v.1 = 1 then 2 else 1)).sum ≤ 8 then some (r, sh, M) else none) = some (st', sh', M') := h
        split at h0
        · next hc =>
          obtain ⟨rfl, h1, h2⟩ := hc
          cases h0
          have hck1 : (len == 3 && (decide (Cond.methodLink (ma_y mid).cls i objectInit ∈ ma_wo (ma_k mid)) && decide (Cond.instanceMethod objectInit ∈ ma_wg) && decide (1 ≤ ma_h mid) && decide (20 ≤ ma_q mid))) = true := hck
          simp only [Bool.and_eq_true, beq_iff_eq, decide_eq_true_eq] at hck1
          obtain ⟨rfl, ⟨⟨w1, w2⟩, w3⟩, w4⟩ := hck1
          have k1 := kk ad H locs (fun _ _ => rfl) G (ma_oks_t ho)
          rw [Nat.sub_self, Nat.sub_self, Nat.add_zero, Nat.add_zero] at k1
          rw [List.map_cons, ma_tv2 ad h1]
          exact W.objInit (g := F0 m pc ls (.ref (ad o) :: st'.map (ma_tv ad))) hx hb hown (hts _ (ma_wo_in _ _ w1)) (hts _ (ma_wg_in _ w2)) (hts _ ma_oc) rfl hml.symm rfl hd (by omega) (by show 2 * 0 + _ + 12 ≤ _; rw [ma_cats]; omega) k1
        · cases h0
    · exact nomatch (show (none : Option (List ma_V × ma_S × ma_M)) = some (st', sh', M') from h)
  case invokestatic i =>
    rcases lk with _ | ⟨z, _ | ⟨z2, t⟩⟩
    case cons.nil =>
      have hck1 : (len == 3 && (decide (1 ≤ ma_h mid) && decide (21 ≤ ma_q mid) && (if z = -1 then decide (60 ≤ ma_q mid) && decide (Cond.methodLink (ma_y mid).cls i arraycopyName ∈ ma_wo (ma_k mid)) && decide (Cond.native arraycopyName ∈ ma_wg) && decide (Cond.static arraycopyName ∈ ma_wg) && decide (Cond.initialized "java/lang/System" ∈ ma_wg)
        else if z = -2 then decide (Cond.methodLink (ma_y mid).cls i Lib.Math.min.name ∈ ma_wo (ma_k mid)) && decide (Cond.static Lib.Math.min.name ∈ ma_wg) && decide (Cond.initialized "java/lang/Math" ∈ ma_wg)
        else decide (Cond.methodLink (ma_y mid).cls i Lib.Math.max.name ∈ ma_wo (ma_k mid)) && decide (Cond.static Lib.Math.max.name ∈ ma_wg) && decide (Cond.initialized "java/lang/Math" ∈ ma_wg)))) = true := hck
      by_cases hz : z = -1
      · subst hz
        rw [if_pos rfl] at hck1
        simp only [Bool.and_eq_true, beq_iff_eq, decide_eq_true_eq] at hck1
        obtain ⟨rfl, ⟨w0, -⟩, ⟨⟨⟨w5, w1⟩, w2⟩, w3⟩, w4⟩ := hck1
        rcases st with _ | ⟨⟨t1, y⟩, _ | ⟨⟨t2, x⟩, _ | ⟨⟨t3, o⟩, _ | ⟨⟨t4, sp⟩, _ | ⟨⟨t5, o0⟩, r⟩⟩⟩⟩⟩
        case cons.cons.cons.cons.cons =>
          have h0 : (if ((t1 = 0 ∧ t2 = 0 ∧ t3 = 2 ∧ t4 = 0 ∧ t5 = 2) ∧ (r.map (fun v : ma_V => if v.1 = 1 then 2 else 1)).sum ≤ 8) ∧ (0 ≤ y ∧ 0 ≤ x ∧ 0 ≤ sp) ∧ sp + y ≤ ma_al sh o0 0 ∧ x + y ≤ ma_al sh o 0 then some (r, sh, ma_cp M o x y o0 sp) else none) = some (st', sh', M') := h
          split at h0
          · next hc =>
            obtain ⟨⟨⟨rfl, rfl, rfl, rfl, rfl⟩, hsum⟩, ⟨hy, hx0, hsp⟩, hl1, hl2⟩ := hc
            cases h0
            have k1 := fun H' locs' g => kk ad H' locs' (fun _ _ => rfl) g (ma_oks_t (ma_oks_t (ma_oks_t (ma_oks_t (ma_oks_t ho)))))
            rw [Nat.sub_self, Nat.sub_self, Nat.add_zero, Nat.add_zero] at k1
            have r1 := ma_ok0 (ma_oks_h ho)
            have r2 := ma_ok0 (ma_oks_h (ma_oks_t ho))
            have r3 := ma_ok0 (ma_oks_h (ma_oks_t (ma_oks_t (ma_oks_t ho))))
            exact ma_x_copy hx hb hml hown (hts _ (ma_wo_in _ _ w1)) (hts _ (ma_wg_in _ w2)) (hts _ (ma_wg_in _ w3)) (hts _ (ma_wg_in _ w4)) hK G hy r1.2 hx0 r2.2 hsp r3.2 hl1 hl2 (by omega) (by rw [ma_cats]; show _ + (7 + 11) ≤ _; omega) hd k1
          · cases h0
        all_goals exact nomatch (show (none : Option (List ma_V × ma_S × ma_M)) = some (st', sh', M') from h)
      · rcases st with _ | ⟨⟨t1, y⟩, _ | ⟨⟨t2, x⟩, r⟩⟩
        · exact nomatch (show (none : Option (List ma_V × ma_S × ma_M)) = some (st', sh', M') from (if_neg hz).symm.trans h)
        · exact nomatch (show (none : Option (List ma_V × ma_S × ma_M)) = some (st', sh', M') from (if_neg hz).symm.trans h)
        · have h0 : (if (t1 = 0 ∧ t2 = 0) ∧ (r.map (fun v : ma_V => if v.1 = 1 then 2 else 1)).sum ≤ 8 then some ((0, if z = -2 then (if y < x then y else x) else (if x < y then y else x)) :: r, sh, M) else none) = some (st', sh', M') := (if_neg hz).symm.trans h
          split at h0
          · next hc =>
            obtain ⟨⟨rfl, rfl⟩, hsum⟩ := hc
            cases h0
            have r1 := ma_ok0 (ma_oks_h ho)
            have r2 := ma_ok0 (ma_oks_h (ma_oks_t ho))
            rw [if_neg hz] at hck1
            by_cases hz2 : z = -2
            · rw [if_pos hz2] at hck1
              simp only [Bool.and_eq_true, beq_iff_eq, decide_eq_true_eq] at hck1
              obtain ⟨rfl, ⟨w0, w5⟩, ⟨w1, w2⟩, w3⟩ := hck1
              have k1 := kk ad H locs (fun _ _ => rfl) G (ma_oks_c (ma_i0 (by rw [if_pos hz2]; split <;> omega)) (ma_oks_t (ma_oks_t ho)))
              rw [Nat.sub_self, Nat.sub_self, Nat.add_zero, Nat.add_zero, List.map_cons, ma_tv0, if_pos hz2] at k1
              refine va_mmin (x := Int32.ofInt x) (y := Int32.ofInt y) hx hb hml hown (hts _ (ma_wo_in _ _ w1)) (hts _ (ma_wg_in _ w2)) (hts _ (ma_wg_in _ w3)) (hts _ ma_mn) (by omega) (by rw [ma_cats]; omega) hc0 hs0 hd ?_
              by_cases hlt : y < x
              · rw [if_pos hlt] at k1
                rw [if_pos ((ma_lt32 r1 r2).mpr hlt)]
                exact k1
              · rw [if_neg hlt] at k1
                rw [if_neg (fun q => hlt ((ma_lt32 r1 r2).mp q))]
                exact k1
            · rw [if_neg hz2] at hck1
              simp only [Bool.and_eq_true, beq_iff_eq, decide_eq_true_eq] at hck1
              obtain ⟨rfl, ⟨w0, w5⟩, ⟨w1, w2⟩, w3⟩ := hck1
              have k1 := kk ad H locs (fun _ _ => rfl) G (ma_oks_c (ma_i0 (by rw [if_neg hz2]; split <;> omega)) (ma_oks_t (ma_oks_t ho)))
              rw [Nat.sub_self, Nat.sub_self, Nat.add_zero, Nat.add_zero, List.map_cons, ma_tv0, if_neg hz2] at k1
              refine va_mmax (x := Int32.ofInt x) (y := Int32.ofInt y) hx hb hml hown (hts _ (ma_wo_in _ _ w1)) (hts _ (ma_wg_in _ w2)) (hts _ (ma_wg_in _ w3)) (hts _ ma_mx) (by omega) (by rw [ma_cats]; omega) hc0 hs0 hd ?_
              by_cases hlt : x < y
              · rw [if_pos hlt] at k1
                rw [if_pos ((ma_lt32 r2 r1).mpr hlt)]
                exact k1
              · rw [if_neg hlt] at k1
                rw [if_neg (fun q => hlt ((ma_lt32 r2 r1).mp q))]
                exact k1
          · cases h0
    all_goals exact nomatch (show (none : Option (List ma_V × ma_S × ma_M)) = some (st', sh', M') from h)
  all_goals exact nomatch (show (none : Option (List ma_V × ma_S × ma_M)) = some (st', sh', M') from h)
end SIM3
