section HEAP2
variable {p : Program} {l : Launch} {e : Env} {R : Room} {s : State} {m : MethodId} {args : Array Value} {below : List Frame} {meth : Method} {c : Code} {H : Heap} {locs : List Loc} {cells slots : Nat} {Q : State → Prop}
variable {cc : ByteArray} {pc : Nat} {ls : Array Slot} {ad : Int → Nat} {D : va_G} {cl : List vw_C} {cA : Nat → ClassId} {A : Nat → Prop} {H0 : Heap} {b L : Nat} {xs : Nat → Int32} {sh : ma_S} {M : ma_M} {rest : List Value}
theorem ma_up_ne {M : ma_M} {k i v k' j : Int} (h : k' ≠ k) : ma_up M k i v k' j = M k' j := if_neg (fun z => h z.1)
theorem ma_up_ne2 {M : ma_M} {k i v k' j : Int} (h : j ≠ i) : ma_up M k i v k' j = M k' j := if_neg (fun z => h z.2)
theorem ma_up_s {M : ma_M} {k i v : Int} : ma_up M k i v k i = v := if_pos ⟨rfl, rfl⟩
theorem ma_G_up {q j : Nat} {k : Nat × Nat} {v : Int} {E : va_E} {H1 : Heap} {locs1 : List Loc} (G : ma_G D cl cA A H0 b L xs ad sh M H locs) (hs : sh[q]? = some k) (hv : ma_ok sh.length (ma_kt k.1 j, v)) (h1 : ma_ce ad cA (ma_up M (q : Int) (j : Int) v) q k = E)
    (hP : va_P D cl ((ma_ws ad cA sh M).set q (ad (q : Int), E)) H1) (hD : va_D A ((ma_ws ad cA sh M).set q (ad (q : Int), E))) (hS : va_S A H0 H1 locs1) : ma_G D cl cA A H0 b L xs ad sh (ma_up M (q : Int) (j : Int) v) H1 locs1 := by
  have e1 : (ma_ws ad cA sh M).set q (ad (q : Int), E) = ma_ws ad cA sh (ma_up M (q : Int) (j : Int) v) := ma_ws_set hs h1 (fun c' hc j' => ma_up_ne (by omega))
  rw [e1] at hP hD
  exact ⟨hP, hD, hS, ma_MO_up G.2.2.2.1 hs hv, G.2.2.2.2.1, by rw [ma_up_ne (by omega)]; exact G.2.2.2.2.2.1, fun j' hj' => by rw [ma_up_ne (by omega)]; exact G.2.2.2.2.2.2 j' hj'⟩
theorem ma_x_iast (hx : p.tables.exec = Jvm.exec) (hb : c.code = cc) (hK : va_K D cl (ma_ty cA) s) (G : ma_G D cl cA A H0 b L xs ad sh M H locs) {r i v : Int} (hi : 0 ≤ i) (hr : i ≤ 2147483647) (hl : i < ma_al sh r 0) (hv : ma_ok sh.length (0, v)) (hd : decode cc pc = .ok (.iastore, 1))
    (kk : ∀ (H1 : Heap) (locs1 : List Loc), ma_G D cl cA A H0 b L xs ad sh (ma_up M r i v) H1 locs1 → W p l e R s m args below meth c H1 locs1 cells slots Q (F0 m (pc + 1) ls rest)) : W p l e R s m args below meth c H locs cells slots Q (F0 m pc ls (.int (Int32.ofInt v) :: .int (Int32.ofInt i) :: ma_tv ad (2, r) :: rest)) := by
  obtain ⟨q, n, rfl, hs, hn⟩ := ma_al_i (show 0 ≤ ma_al sh r 0 by omega)
  obtain ⟨j, rfl⟩ : ∃ j : Nat, i = (j : Int) := ⟨i.toNat, by omega⟩
  rw [ma_tv2 ad (by omega)]
  refine va_iast (f := fun j : Nat => Int32.ofInt (M (q : Int) (j : Int))) hx hb hK G.1 G.2.1 G.2.2.1 q 0 (cA := cA 0) (n := n) (ma_ws_at hs) rfl (ma_in32 hi hr (by omega)) hd (fun H1 locs1 hP hD hS => kk H1 locs1 (ma_G_up G hs hv ?_ hP hD hS))
  rw [ma_cl32 hi hr, Int.toNat_natCast]
  show Sum.inl (cA 0, n, Sum.inl (fun j' : Nat => Int32.ofInt (ma_up M (q : Int) (j : Int) v (q : Int) (j' : Int)))) = _
  refine congrArg (fun g => Sum.inl (cA 0, n, Sum.inl g)) (funext fun j' => ?_)
  by_cases h : j' = j
  · subst h
    rw [pk_us, ma_up_s]
  · rw [pk_un h, ma_up_ne2 (by omega)]
theorem ma_x_zast (hx : p.tables.exec = Jvm.exec) (hb : c.code = cc) (hK : va_K D cl (ma_ty cA) s) (G : ma_G D cl cA A H0 b L xs ad sh M H locs) {r i v : Int} (hi : 0 ≤ i) (hr : i ≤ 2147483647) (hl : i < ma_al sh r 2) (hv : v = 0 ∨ v = 1) (hd : decode cc pc = .ok (.bastore, 1))
    (kk : ∀ (H1 : Heap) (locs1 : List Loc), ma_G D cl cA A H0 b L xs ad sh (ma_up M r i v) H1 locs1 → W p l e R s m args below meth c H1 locs1 cells slots Q (F0 m (pc + 1) ls rest)) : W p l e R s m args below meth c H locs cells slots Q (F0 m pc ls (.int (Int32.ofInt v) :: .int (Int32.ofInt i) :: ma_tv ad (2, r) :: rest)) := by
  obtain ⟨q, n, rfl, hs, hn⟩ := ma_al_i (show 0 ≤ ma_al sh r 2 by omega)
  obtain ⟨j, rfl⟩ : ∃ j : Nat, i = (j : Int) := ⟨i.toNat, by omega⟩
  rw [ma_tv2 ad (by omega)]
  have ez : vp_nar .boolean (Int32.ofInt v) = Int32.ofInt v := by
    rcases hv with rfl | rfl
    · decide
    · decide
  refine va_zast (f := fun j : Nat => Int32.ofInt (M (q : Int) (j : Int))) hx hb hK G.1 G.2.1 G.2.2.1 q 2 (cA := cA 2) (n := n) (ma_ws_at hs) rfl (ma_in32 hi hr (by omega)) hd (fun H1 locs1 hP hD hS => kk H1 locs1 (ma_G_up G hs (ma_i0 (by omega)) ?_ hP hD hS))
  rw [ma_cl32 hi hr, Int.toNat_natCast, ez]
  show Sum.inl (cA 2, n, Sum.inl (fun j' : Nat => Int32.ofInt (ma_up M (q : Int) (j : Int) v (q : Int) (j' : Int)))) = _
  refine congrArg (fun g => Sum.inl (cA 2, n, Sum.inl g)) (funext fun j' => ?_)
  by_cases h : j' = j
  · subst h
    rw [pk_us, ma_up_s]
  · rw [pk_un h, ma_up_ne2 (by omega)]
theorem ma_x_last (hx : p.tables.exec = Jvm.exec) (hb : c.code = cc) (hK : va_K D cl (ma_ty cA) s) (G : ma_G D cl cA A H0 b L xs ad sh M H locs) {r i v : Int} (hi : 0 ≤ i) (hr : i ≤ 2147483647) (hl : i < ma_al sh r 1) (hv : ma_ok sh.length (1, v)) (hd : decode cc pc = .ok (.lastore, 1))
    (kk : ∀ (H1 : Heap) (locs1 : List Loc), ma_G D cl cA A H0 b L xs ad sh (ma_up M r i v) H1 locs1 → W p l e R s m args below meth c H1 locs1 cells slots Q (F0 m (pc + 1) ls rest)) : W p l e R s m args below meth c H locs cells slots Q (F0 m pc ls (.long (Int64.ofInt v) :: .int (Int32.ofInt i) :: ma_tv ad (2, r) :: rest)) := by
  obtain ⟨q, n, rfl, hs, hn⟩ := ma_al_i (show 0 ≤ ma_al sh r 1 by omega)
  obtain ⟨j, rfl⟩ : ∃ j : Nat, i = (j : Int) := ⟨i.toNat, by omega⟩
  rw [ma_tv2 ad (by omega)]
  refine va_last (f := fun j : Nat => Int64.ofInt (M (q : Int) (j : Int))) hx hb hK G.1 G.2.1 G.2.2.1 q 1 (cA := cA 1) (n := n) (ma_ws_at hs) rfl (ma_in32 hi hr (by omega)) hd (fun H1 locs1 hP hD hS => kk H1 locs1 (ma_G_up G hs hv ?_ hP hD hS))
  rw [ma_cl32 hi hr, Int.toNat_natCast]
  show Sum.inl (cA 1, n, Sum.inr (Sum.inl (fun j' : Nat => Int64.ofInt (ma_up M (q : Int) (j : Int) v (q : Int) (j' : Int))))) = _
  refine congrArg (fun g => Sum.inl (cA 1, n, Sum.inr (Sum.inl g))) (funext fun j' => ?_)
  by_cases h : j' = j
  · subst h
    rw [pk_uLs, ma_up_s]
  · rw [pk_uLn h, ma_up_ne2 (by omega)]
theorem ma_x_alen (hx : p.tables.exec = Jvm.exec) (hb : c.code = cc) (hK : va_K D cl (ma_ty cA) s) (G : ma_G D cl cA A H0 b L xs ad sh M H locs) {r : Int} (hl : 0 ≤ ma_al sh r 0) (hd : decode cc pc = .ok (.arraylength, 1))
    (kk : W p l e R s m args below meth c H locs cells slots Q (F0 m (pc + 1) ls (ma_tv ad (0, ma_al sh r 0) :: rest))) : W p l e R s m args below meth c H locs cells slots Q (F0 m pc ls (ma_tv ad (2, r) :: rest)) := by
  obtain ⟨q, n, rfl, hs, hn⟩ := ma_al_i hl
  rw [ma_tv2 ad (by omega)]
  rw [hn] at kk
  exact va_alen (x := (n, .inl (fun j : Nat => Int32.ofInt (M (q : Int) (j : Int))))) hx hb hK G.1 q 0 (cA := cA 0) (ma_ws_at hs) (ty := .int) rfl (v := Int32.ofInt (n : Int)) Int32.ofInt_eq_ofNat.symm hd kk
theorem ma_x_sld (hx : p.tables.exec = Jvm.exec) (hb : c.code = cc) (hX : va_X b L xs s H0) (hbl : b < H0.size) (hbA : ¬ A b) (G : ma_G D cl cA A H0 b L xs ad sh M H locs) {i : Int} (hi : 0 ≤ i) (hr : i ≤ 2147483647) (hl : i < M (-2) (-1)) (hd : decode cc pc = .ok (.iaload, 1))
    (kk : W p l e R s m args below meth c H locs cells slots Q (F0 m (pc + 1) ls (ma_tv ad (0, M (-2) i) :: rest))) : W p l e R s m args below meth c H locs cells slots Q (F0 m pc ls (.int (Int32.ofInt i) :: ma_tv ad (2, -2) :: rest)) := by
  obtain ⟨j, rfl⟩ : ∃ j : Nat, i = (j : Int) := ⟨i.toNat, by omega⟩
  rw [G.2.2.2.2.2.1] at hl
  rw [ma_tv2 ad (by decide), G.2.2.2.2.1]
  refine va_sld hx hb hX hbl hbA G.2.2.1 (ma_in32 hi hr hl) hd ?_
  rw [ma_cl32 hi hr, Int.toNat_natCast]
  rw [ma_tv0, G.2.2.2.2.2.2 j (by omega), Int32.ofInt_toInt] at kk
  exact kk
theorem ma_x_slen (hx : p.tables.exec = Jvm.exec) (hb : c.code = cc) (hX : va_X b L xs s H0) (hbl : b < H0.size) (hbA : ¬ A b) (G : ma_G D cl cA A H0 b L xs ad sh M H locs) (hd : decode cc pc = .ok (.arraylength, 1))
    (kk : W p l e R s m args below meth c H locs cells slots Q (F0 m (pc + 1) ls (ma_tv ad (0, M (-2) (-1)) :: rest))) : W p l e R s m args below meth c H locs cells slots Q (F0 m pc ls (ma_tv ad (2, -2) :: rest)) := by
  rw [ma_tv2 ad (by decide), G.2.2.2.2.1]
  rw [ma_tv0, G.2.2.2.2.2.1, Int32.ofInt_eq_ofNat] at kk
  exact va_slen hx hb hX hbl hbA G.2.2.1 hd kk
/-! fields -/
theorem ma_x_get (hx : p.tables.exec = Jvm.exec) (hb : c.code = cc) {own : String} {C : String} {T : u_T} {N ci index k : Nat} {Ts : List Cond} (hts : ∀ w ∈ Ts, w.before args s = true) (hin : ∀ w ∈ u_ws C T N, w ∈ Ts) (hown : s.vm.findClass own = some m.cls) (hK : va_K D cl (ma_ty cA) s) (G : ma_G D cl cA A H0 b L xs ad sh M H locs) (hc : cl[ci]? = some (C, T, N)) (hkN : k < N) (hlink : (Cond.fieldLink own index (T k).1 (T k).2.1 (T k).2.2.1).before args s = true) {r : Int} (hl : (k : Int) < ma_al sh r (ci + 4)) (hd : decode cc pc = .ok (.getfield index, 3))
    (kk : W p l e R s m args below meth c H locs cells slots Q (F0 m (pc + 3) ls (ma_tv ad (ma_fk ci k, M r (k : Int)) :: rest))) : W p l e R s m args below meth c H locs cells slots Q (F0 m pc ls (ma_tv ad (2, r) :: rest)) := by
  obtain ⟨q, n, rfl, hs, hn⟩ := ma_al_i (show 0 ≤ ma_al sh r (ci + 4) by omega)
  rw [ma_tv2 ad (by omega)]
  have ha := ma_ws_at (ad := ad) (cA := cA) (M := M) hs
  rw [ma_ce_o] at ha
  exact va_get (D := D) (ci := ci) (v := ma_tv ad (ma_fk ci k, M (q : Int) (k : Int))) (C := C) (T := T) (N := N) hx hb hts hin hown hK G.1 q ha hc k hkN hlink (fun _ h9 => h9) (by rw [List.getElem?_map, List.getElem?_range (by omega)]; rfl) hd kk
def ma_tk (ft : FieldType) (fk : Nat) (fz : Bool) : Prop := (ft = .int ∧ fk = 0 ∧ fz = false) ∨ (ft = .boolean ∧ fk = 0 ∧ fz = true) ∨ (fk = 2 ∧ ((∃ C, ft = .object C) ∨ ∃ t, ft = .array t))
theorem ma_fit {ft : FieldType} {fk : Nat} {fz : Bool} (h : ma_tk ft fk fz) {v : ma_V} (hv : v.1 = fk) (hz : fz = true → v.2 = 0 ∨ v.2 = 1) : narrow ft (ma_tv ad v) = ma_tv ad v ∧ fits ft (ma_tv ad v) = true := by
  obtain ⟨t, x⟩ := v
  obtain rfl : t = fk := hv
  rcases h with ⟨rfl, rfl, -⟩ | ⟨rfl, rfl, h⟩ | ⟨rfl, h⟩
  · exact ⟨rfl, rfl⟩
  · rcases hz h with h2 | h2
    · obtain rfl : x = 0 := h2
      rw [ma_tv0]
      exact ⟨by decide, by decide⟩
    · obtain rfl : x = 1 := h2
      rw [ma_tv0]
      exact ⟨by decide, by decide⟩
  · by_cases hx : x = -1
    · subst hx
      rcases h with ⟨C, rfl⟩ | ⟨t, rfl⟩
      · exact ⟨rfl, rfl⟩
      · exact ⟨rfl, rfl⟩
    · rw [ma_tv2 ad hx]
      rcases h with ⟨C, rfl⟩ | ⟨t, rfl⟩
      · exact ⟨rfl, rfl⟩
      · exact ⟨rfl, rfl⟩
theorem ma_fs_set {ad : Int → Nat} {M : ma_M} {ci q k n : Nat} {v : ma_V} (hv : v.1 = ma_fk ci k) : (List.range n).map (fun j : Nat => ma_tv ad (ma_fk ci j, ma_up M (q : Int) (k : Int) v.2 (q : Int) (j : Int))) = ((List.range n).map (fun j : Nat => ma_tv ad (ma_fk ci j, M (q : Int) (j : Int)))).set k (ma_tv ad v) := by
  apply List.ext_getElem?
  intro i
  by_cases hi : i < n
  · by_cases hk : k = i
    · subst hk
      rw [List.getElem?_set_self (by rw [List.length_map, List.length_range]; exact hi), List.getElem?_map, List.getElem?_range hi, Option.map_some, ma_up_s, ← hv]
    · rw [List.getElem?_set_ne hk, List.getElem?_map, List.getElem?_map, List.getElem?_range hi, Option.map_some, Option.map_some, ma_up_ne2 (by omega)]
  · rw [List.getElem?_eq_none (by rw [List.length_map, List.length_range]; omega), List.getElem?_eq_none (by rw [List.length_set, List.length_map, List.length_range]; omega)]
theorem ma_x_put (hx : p.tables.exec = Jvm.exec) (hb : c.code = cc) {own : String} {C : String} {T : u_T} {N ci index k : Nat} {Ts : List Cond} {ft : Nat → FieldType} {fz : Bool} (hts : ∀ w ∈ Ts, w.before args s = true) (hin : ∀ w ∈ u_ws C T N, w ∈ Ts) (hty : ∀ k, k < N → parseFieldDescriptor (T k).2.2.1 = some (ft k)) (hnm : ∀ a, a < N → ∀ b, b < N → a ≠ b → (T a).2.1 ≠ (T b).2.1) (htk : ma_tk (ft k) (ma_fk ci k) fz) (hown : s.vm.findClass own = some m.cls) (hK : va_K D cl (ma_ty cA) s) (G : ma_G D cl cA A H0 b L xs ad sh M H locs) (hc : cl[ci]? = some (C, T, N)) (hkN : k < N) (hlink : (Cond.fieldLink own index (T k).1 (T k).2.1 (T k).2.2.1).before args s = true)
    (hfin : (T k).2.2.2 = false ∨ ((T k).2.2.2 = true ∧ meth.name = "<init>" ∧ (T k).1 = own)) {r : Int} {v : ma_V} (hv : v.1 = ma_fk ci k) (hz : fz = true → v.2 = 0 ∨ v.2 = 1) (hok : ma_ok sh.length v) (hl : (k : Int) < ma_al sh r (ci + 4)) (hd : decode cc pc = .ok (.putfield index, 3))
    (kk : ∀ (H1 : Heap) (locs1 : List Loc), ma_G D cl cA A H0 b L xs ad sh (ma_up M r (k : Int) v.2) H1 locs1 → W p l e R s m args below meth c H1 locs1 cells slots Q (F0 m (pc + 3) ls rest)) : W p l e R s m args below meth c H locs cells slots Q (F0 m pc ls (ma_tv ad v :: ma_tv ad (2, r) :: rest)) := by
  obtain ⟨q, n, rfl, hs, hn⟩ := ma_al_i (show 0 ≤ ma_al sh r (ci + 4) by omega)
  rw [ma_tv2 ad (show (q : Int) ≠ -1 by omega)]
  have ha := ma_ws_at (ad := ad) (cA := cA) (M := M) hs
  rw [ma_ce_o] at ha
  obtain ⟨f1, f2⟩ := ma_fit (ad := ad) htk hv hz
  have hkl : k < ((List.range n).map (fun j : Nat => ma_tv ad (ma_fk ci j, M (q : Int) (j : Int)))).length := by rw [List.length_map, List.length_range]; omega
  have hok2 : ma_ok sh.length (ma_kt (ci + 4, n).1 k, v.2) := by
    show ma_ok sh.length (ma_kt (ci + 4) k, v.2)
    rw [ma_kt_o, ← hv]
    exact hok
  have hce : ma_ce ad cA (ma_up M (q : Int) (k : Int) v.2) q (ci + 4, n) = .inr (ci, ((List.range n).map (fun j : Nat => ma_tv ad (ma_fk ci j, M (q : Int) (j : Int)))).set k (ma_tv ad v)) := by
    rw [ma_ce_o, ma_fs_set hv]
  rcases hfin with hf | ⟨hf, hi, ho⟩
  · exact va_put (D := D) (ci := ci) (v := ma_tv ad v) (ty := ft k) (C := C) (T := T) (N := N) hx hb hts hin ft hty hnm hown hK G.1 G.2.1 G.2.2.1 q ha hc k hkN hlink (fun _ h9 => h9) hf (hty k hkN) f1 f2 hkl hd (fun H1 locs1 hP hD hS => kk H1 locs1 (ma_G_up G hs hok2 hce hP hD hS))
  · exact va_putF (D := D) (ci := ci) (v := ma_tv ad v) (ty := ft k) (C := C) (T := T) (N := N) hx hb hts hin ft hty hnm hown hK G.1 G.2.1 G.2.2.1 q ha hc k hkN hlink (fun _ h9 => h9) hf hi ho (hty k hkN) f1 f2 hkl hd (fun H1 locs1 hP hD hS => kk H1 locs1 (ma_G_up G hs hok2 hce hP hD hS))
/-! making -/
def ma_ax (ad : Int → Nat) (n q : Nat) : Int → Nat := fun r => if r = (n : Int) then q else ad r
theorem ma_ax_lt {n q : Nat} {r : Int} (h : r < n) : ma_ax ad n q r = ad r := if_neg (by omega)
theorem ma_ax_s {n q : Nat} : ma_ax ad n q (n : Int) = q := if_pos rfl
theorem ma_G_new {k : Nat × Nat} {M' : ma_M} {q : Nat} {E : va_E} {H1 : Heap} (G : ma_G D cl cA A H0 b L xs ad sh M H locs) (hM : ∀ i : Int, i < sh.length → ∀ j : Int, M' i j = M i j) (hk : ∀ j : Nat, j < k.2 → ma_ok (sh.length + 1) (ma_kt k.1 j, M' (sh.length : Int) (j : Int))) (h1 : ma_ce (ma_ax ad sh.length q) cA M' sh.length k = E)
    (hP : va_P D cl (ma_ws ad cA sh M ++ [(q, E)]) H1) (hD : va_D A (ma_ws ad cA sh M ++ [(q, E)])) (hS : va_S A H0 H1 locs) : ma_G D cl cA A H0 b L xs (ma_ax ad sh.length q) (sh ++ [k]) M' H1 locs := by
  have e1 : ma_ws (ma_ax ad sh.length q) cA (sh ++ [k]) M' = ma_ws ad cA sh M ++ [(q, E)] := by
    rw [ma_ws_app (ad := ad) (ad' := ma_ax ad sh.length q) G.2.2.2.1 (fun r hr => ma_ax_lt hr) (fun i hi j => hM i (by omega) j), ma_ax_s, h1]
  refine ⟨by rw [e1]; exact hP, by rw [e1]; exact hD, hS, ma_MO_app G.2.2.2.1 (fun i hi j => hM i (by omega) j) hk, ?_, ?_, fun j hj => ?_⟩
  · rw [ma_ax_lt (by omega)]
    exact G.2.2.2.2.1
  · rw [hM (-2) (by omega)]
    exact G.2.2.2.2.2.1
  · rw [hM (-2) (by omega)]
    exact G.2.2.2.2.2.2 j hj
theorem ma_nw_lt {M : ma_M} {q i : Int} {f : Int → Int} (h : i < q) (j : Int) : ma_nw M q f i j = M i j := if_neg (by omega)
theorem ma_nw_s {M : ma_M} {q : Int} {f : Int → Int} (j : Int) : ma_nw M q f q j = f j := if_pos rfl
theorem ma_x_newa (hx : p.tables.exec = Jvm.exec) (hb : c.code = cc) {at' : Jvm.ClassFile.ArrayType} (hat : at' = .int ∨ at' = .long ∨ at' = .boolean) (harr : (Cond.arrayClass (newarray.typeOf at')).before args s = true) (hK : va_K D cl (ma_ty cA) s) (hA : ∀ q, H0.size ≤ q → A q) (G : ma_G D cl cA A H0 b L xs ad sh M H locs) {v : Int} (h0 : 0 ≤ v) (h1 : v ≤ 10000) (hcells : cells + 1 ≤ R.cells) (hslots : slots + v.toNat ≤ R.slots) (hd : decode cc pc = .ok (.newarray at', 2))
    (kk : ∀ (q : Nat) (H1 : Heap), ma_G D cl cA A H0 b L xs (ma_ax ad sh.length q) (sh ++ [(ma_kd at', v.toNat)]) (ma_nw M sh.length (fun _ => 0)) H1 locs → W p l e R s m args below meth c H1 locs (cells + 1) (slots + v.toNat) Q (F0 m (pc + 2) ls (.ref q :: rest))) : W p l e R s m args below meth c H locs cells slots Q (F0 m pc ls (.int (Int32.ofInt v) :: rest)) := by
  have hn : ¬ Int32.ofInt v < 0 := fun z => by
    have := (ma_lt32 (y := 0) (by omega) ma_z0).mp z
    omega
  have hN : (Int32.ofInt v).toNatClampNeg = v.toNat := ma_cl32 h0 (by omega)
  rcases hat with rfl | rfl | rfl
  · refine va_newa (atype := .int) (ty := .int) (a0 := (v.toNat, .inl (fun _ => 0))) hx hb harr rfl hK G.1 G.2.1 G.2.2.1 hA (fun _ => rfl) hn hN (by show v.toNat * 4 ≤ _; omega) hcells hslots hd (fun q c1 H1 hK1 hP hD hS => ?_)
    have e1 := (hK1.2 4 _ rfl).2
    have e2 := (hK.2 0 _ rfl).2
    obtain rfl : cA 0 = c1 := Option.some.inj (e2.symm.trans e1)
    exact kk q H1 (ma_G_new G (fun i hi j => ma_nw_lt hi j) (fun j hj => by rw [ma_nw_s]; exact ma_i0 (by decide)) (by show Sum.inl (cA 0, v.toNat, Sum.inl (fun j : Nat => Int32.ofInt (ma_nw M sh.length (fun _ => 0) sh.length j))) = _; simp only [ma_nw_s]; rfl) hP hD hS)
  · refine va_newa (atype := .long) (ty := .long) (a0 := (v.toNat, .inr (.inl (fun _ => 0)))) hx hb harr rfl hK G.1 G.2.1 G.2.2.1 hA (fun _ => rfl) hn hN (by show v.toNat * 8 ≤ _; omega) hcells hslots hd (fun q c1 H1 hK1 hP hD hS => ?_)
    have e1 := (hK1.2 4 _ rfl).2
    have e2 := (hK.2 1 _ rfl).2
    obtain rfl : cA 1 = c1 := Option.some.inj (e2.symm.trans e1)
    exact kk q H1 (ma_G_new G (fun i hi j => ma_nw_lt hi j) (fun j hj => by rw [ma_nw_s]; exact ma_i1 (by decide)) (by show Sum.inl (cA 1, v.toNat, Sum.inr (Sum.inl (fun j : Nat => Int64.ofInt (ma_nw M sh.length (fun _ => 0) sh.length j)))) = _; simp only [ma_nw_s]; rfl) hP hD hS)
  · refine va_newa (atype := .boolean) (ty := .boolean) (a0 := (v.toNat, .inl (fun _ => 0))) hx hb harr rfl hK G.1 G.2.1 G.2.2.1 hA (fun _ => rfl) hn hN (by show v.toNat * 1 ≤ _; omega) hcells hslots hd (fun q c1 H1 hK1 hP hD hS => ?_)
    have e1 := (hK1.2 4 _ rfl).2
    have e2 := (hK.2 2 _ rfl).2
    obtain rfl : cA 2 = c1 := Option.some.inj (e2.symm.trans e1)
    exact kk q H1 (ma_G_new G (fun i hi j => ma_nw_lt hi j) (fun j hj => by rw [ma_nw_s]; exact ma_i0 (by decide)) (by show Sum.inl (cA 2, v.toNat, Sum.inl (fun j : Nat => Int32.ofInt (ma_nw M sh.length (fun _ => 0) sh.length j))) = _; simp only [ma_nw_s]; rfl) hP hD hS)
theorem ma_x_new (hx : p.tables.exec = Jvm.exec) (hb : c.code = cc) {own : String} {C : String} {T : u_T} {N ci index : Nat} {Ts : List Cond} {ft : Nat → FieldType} {fz : Nat → Bool} (hts : ∀ w ∈ Ts, w.before args s = true) (hin : ∀ w ∈ u_ws C T N, w ∈ Ts) (hty : ∀ k, k < N → parseFieldDescriptor (T k).2.2.1 = some (ft k)) (htk : ∀ k, k < N → ma_tk (ft k) (ma_fk ci k) (fz k)) (hown : s.vm.findClass own = some m.cls) (hcl : (Cond.classLink own index C).before args s = true) (hinst : (Cond.instantiable C N).before args s = true) (hini : (Cond.initialized C).before args s = true)
    (hK : va_K D cl (ma_ty cA) s) (hA : ∀ q, H0.size ≤ q → A q) (G : ma_G D cl cA A H0 b L xs ad sh M H locs) (hc : cl[ci]? = some (C, T, N)) (hcells : cells + 1 ≤ R.cells) (hslots : slots + N ≤ R.slots) (hd : decode cc pc = .ok (.new index, 3))
    (kk : ∀ (q : Nat) (H1 : Heap), ma_G D cl cA A H0 b L xs (ma_ax ad sh.length q) (sh ++ [(ci + 4, N)]) (ma_nw M sh.length (fun i => if ma_fk ci i.toNat = 2 then -1 else 0)) H1 locs → W p l e R s m args below meth c H1 locs (cells + 1) (slots + N) Q (F0 m (pc + 3) ls (.ref q :: rest))) : W p l e R s m args below meth c H locs cells slots Q (F0 m pc ls rest) := by
  have hdv : ∀ j, j < N → defaultValue (ft j) = ma_tv ad (ma_fk ci j, if ma_fk ci j = 2 then -1 else 0) := fun j hj => by
    rcases htk j hj with ⟨h1, h2, -⟩ | ⟨h1, h2, -⟩ | ⟨h2, ⟨C', h1⟩ | ⟨t', h1⟩⟩
    · rw [h1, h2]; rfl
    · rw [h1, h2]; rfl
    · rw [h1, h2]; rfl
    · rw [h1, h2]; rfl
  have hfk : ∀ j, j < N → ma_fk ci j = 0 ∨ ma_fk ci j = 2 := fun j hj => by
    rcases htk j hj with ⟨-, h2, -⟩ | ⟨-, h2, -⟩ | ⟨h2, -⟩
    · exact Or.inl h2
    · exact Or.inl h2
    · exact Or.inr h2
  refine va_new (ci := ci) (fs := (List.range N).map (fun j : Nat => ma_tv ad (ma_fk ci j, if ma_fk ci j = 2 then -1 else 0))) (C := C) (T := T) (N := N) hx hb hts hin ft hty hown hcl hinst hini hK G.1 G.2.1 G.2.2.1 hA hc (fun j hj => by
    rw [hdv j hj]
    unfold vp_V
    rw [List.getD_eq_getElem?_getD, List.getElem?_map, List.getElem?_range hj]
    rfl) hcells hslots hd (fun q H1 hP hD hS => kk q H1 (ma_G_new G (fun i hi j => ma_nw_lt hi j) (fun j hj => ?_) ?_ hP hD hS))
  · show ma_ok (sh.length + 1) (ma_kt (ci + 4) j, _)
    rw [ma_kt_o, ma_nw_s]
    have hj2 : ((j : Int)).toNat = j := Int.toNat_natCast j
    simp only [hj2]
    rcases hfk j hj with h | h
    · rw [h]; exact ma_i0 (by decide)
    · rw [h]; exact ma_i2 (by rw [if_pos rfl]; omega)
  · rw [ma_ce_o]
    congr 2
    apply List.map_congr_left
    intro j hj
    have hj2 : ((j : Int)).toNat = j := Int.toNat_natCast j
    rw [ma_nw_s]
    simp only [hj2]
    rcases hfk j (List.mem_range.mp hj) with h | h
    · rw [h]; rfl
    · rw [h]; rfl
end HEAP2
