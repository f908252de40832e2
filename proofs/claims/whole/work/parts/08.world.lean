def ma_kt (k j : Nat) : Nat := if k = 0 then 0 else if k = 1 then 1 else if k = 2 then 0 else if k = 3 then 2 else ma_fk (k - 4) j
def ma_ce (ad : Int → Nat) (cA : Nat → ClassId) (M : ma_M) (i : Nat) (k : Nat × Nat) : va_E :=
  if k.1 = 0 then .inl (cA 0, k.2, .inl (fun j : Nat => Int32.ofInt (M (i : Int) (j : Int))))
  else if k.1 = 1 then .inl (cA 1, k.2, .inr (.inl (fun j : Nat => Int64.ofInt (M (i : Int) (j : Int)))))
  else if k.1 = 2 then .inl (cA 2, k.2, .inl (fun j : Nat => Int32.ofInt (M (i : Int) (j : Int))))
  else if k.1 = 3 then .inl (cA 3, k.2, .inr (.inr (.inr (.inr (fun j : Nat => if j < k.2 ∧ M (i : Int) (j : Int) ≠ -1 then some (ad (M (i : Int) (j : Int))) else none)))))
  else .inr (k.1 - 4, (List.range k.2).map (fun j : Nat => ma_tv ad (ma_fk (k.1 - 4) j, M (i : Int) (j : Int))))
def ma_ws (ad : Int → Nat) (cA : Nat → ClassId) (sh : ma_S) (M : ma_M) : va_W := (List.range sh.length).map (fun i : Nat => (ad (i : Int), ma_ce ad cA M i (sh.getD i (0, 0))))
section WSS
variable {ad ad' : Int → Nat} {cA : Nat → ClassId} {sh : ma_S} {M M' : ma_M}
theorem ma_ws_len : (ma_ws ad cA sh M).length = sh.length := by
  unfold ma_ws
  rw [List.length_map, List.length_range]
theorem ma_ws_at {i : Nat} {k : Nat × Nat} (h : sh[i]? = some k) : (ma_ws ad cA sh M)[i]? = some (ad (i : Int), ma_ce ad cA M i k) := by
  have hl : i < sh.length := (List.getElem?_eq_some_iff.mp h).1
  unfold ma_ws
  rw [List.getElem?_map, List.getElem?_range hl, Option.map_some, List.getD_eq_getElem?_getD, h, Option.getD_some]
theorem ma_ce_congr {i : Nat} {k : Nat × Nat} (h : ∀ j : Nat, M' (i : Int) (j : Int) = M (i : Int) (j : Int)) : ma_ce ad cA M' i k = ma_ce ad cA M i k := by
  unfold ma_ce
  simp only [h]
theorem ma_ce_o {i ci n : Nat} : ma_ce ad cA M i (ci + 4, n) = .inr (ci, (List.range n).map (fun j : Nat => ma_tv ad (ma_fk ci j, M (i : Int) (j : Int)))) := by
  unfold ma_ce
  rw [if_neg (by show ¬ ci + 4 = 0; omega), if_neg (by show ¬ ci + 4 = 1; omega), if_neg (by show ¬ ci + 4 = 2; omega), if_neg (by show ¬ ci + 4 = 3; omega)]
  show Sum.inr (ci + 4 - 4, _) = _
  rw [Nat.add_sub_cancel]
theorem ma_kt_o {ci j : Nat} : ma_kt (ci + 4) j = ma_fk ci j := by
  unfold ma_kt
  rw [if_neg (by omega), if_neg (by omega), if_neg (by omega), if_neg (by omega), Nat.add_sub_cancel]
theorem ma_ce_ad {n i : Nat} {k : Nat × Nat} (h : ∀ j : Nat, j < k.2 → ma_ok n (ma_kt k.1 j, M (i : Int) (j : Int))) (ha : ∀ r : Int, r < n → ad' r = ad r) : ma_ce ad' cA M i k = ma_ce ad cA M i k := by
  unfold ma_ce
  by_cases h0 : k.1 = 0
  · rw [if_pos h0, if_pos h0]
  · by_cases h1 : k.1 = 1
    · rw [if_neg h0, if_pos h1, if_neg h0, if_pos h1]
    · by_cases h2 : k.1 = 2
      · rw [if_neg h0, if_neg h1, if_pos h2, if_neg h0, if_neg h1, if_pos h2]
      · by_cases h3 : k.1 = 3
        · rw [if_neg h0, if_neg h1, if_neg h2, if_pos h3, if_neg h0, if_neg h1, if_neg h2, if_pos h3]
          have e : (fun j : Nat => if j < k.2 ∧ M (i : Int) (j : Int) ≠ -1 then some (ad' (M (i : Int) (j : Int))) else none) = (fun j : Nat => if j < k.2 ∧ M (i : Int) (j : Int) ≠ -1 then some (ad (M (i : Int) (j : Int))) else none) := by
            funext j
            by_cases hj : j < k.2 ∧ M (i : Int) (j : Int) ≠ -1
            · have h4 := h j hj.1
              rw [h3] at h4
              rw [if_pos hj, if_pos hj, ha _ (ma_ok2 h4).2]
            · rw [if_neg hj, if_neg hj]
          rw [e]
        · rw [if_neg h0, if_neg h1, if_neg h2, if_neg h3, if_neg h0, if_neg h1, if_neg h2, if_neg h3]
          have e : (List.range k.2).map (fun j : Nat => ma_tv ad' (ma_fk (k.1 - 4) j, M (i : Int) (j : Int))) = (List.range k.2).map (fun j : Nat => ma_tv ad (ma_fk (k.1 - 4) j, M (i : Int) (j : Int))) := List.map_congr_left fun j hj => by
            have h4 := h j (List.mem_range.mp hj)
            unfold ma_kt at h4
            rw [if_neg h0, if_neg h1, if_neg h2, if_neg h3] at h4
            exact ma_tv_eq h4 ha
          rw [e]
theorem ma_ws_set {q : Nat} {k : Nat × Nat} {E : va_E} (h : sh[q]? = some k) (h1 : ma_ce ad cA M' q k = E) (h2 : ∀ c : Nat, c ≠ q → ∀ j : Nat, M' (c : Int) (j : Int) = M (c : Int) (j : Int)) : (ma_ws ad cA sh M).set q (ad (q : Int), E) = ma_ws ad cA sh M' := by
  apply List.ext_getElem?
  intro i
  by_cases hi : i < sh.length
  · have hs : sh[i]? = some sh[i] := List.getElem?_eq_getElem hi
    by_cases hq : q = i
    · subst hq
      rw [List.getElem?_set_self (by rw [ma_ws_len]; exact hi), ma_ws_at (M := M') h, h1]
    · rw [List.getElem?_set_ne hq, ma_ws_at hs, ma_ws_at hs, ma_ce_congr (h2 i (Ne.symm hq))]
  · rw [List.getElem?_eq_none (by rw [List.length_set, ma_ws_len]; omega), List.getElem?_eq_none (by rw [ma_ws_len]; omega)]
def ma_MO (sh : ma_S) (M : ma_M) : Prop := ∀ (q : Nat) (k : Nat × Nat), sh[q]? = some k → ∀ j : Nat, j < k.2 → ma_ok sh.length (ma_kt k.1 j, M (q : Int) (j : Int))
theorem ma_ws_app {k : Nat × Nat} (hMO : ma_MO sh M) (ha : ∀ r : Int, r < sh.length → ad' r = ad r) (hM : ∀ i : Nat, i < sh.length → ∀ j : Nat, M' (i : Int) (j : Int) = M (i : Int) (j : Int)) : ma_ws ad' cA (sh ++ [k]) M' = ma_ws ad cA sh M ++ [(ad' (sh.length : Int), ma_ce ad' cA M' sh.length k)] := by
  apply List.ext_getElem?
  intro i
  by_cases hi : i < sh.length
  · have hs : sh[i]? = some sh[i] := List.getElem?_eq_getElem hi
    have hs' : (sh ++ [k])[i]? = some sh[i] := by rw [List.getElem?_append_left hi]; exact hs
    rw [List.getElem?_append_left (by rw [ma_ws_len]; exact hi), ma_ws_at hs, ma_ws_at hs', ha i (by omega), ma_ce_congr (hM i hi), ma_ce_ad (n := sh.length) (fun j hj => hMO i _ hs j hj) ha]
  · by_cases he : i = sh.length
    · subst he
      have hs' : (sh ++ [k])[sh.length]? = some k := by simp
      rw [ma_ws_at hs', List.getElem?_append_right (by rw [ma_ws_len]; exact Nat.le_refl _), ma_ws_len, Nat.sub_self]
      rfl
    · rw [List.getElem?_eq_none (by rw [ma_ws_len, List.length_append, List.length_singleton]; omega), List.getElem?_eq_none (by rw [List.length_append, ma_ws_len, List.length_singleton]; omega)]
theorem ma_MO_up {q : Nat} {k : Nat × Nat} {j : Nat} {v : Int} (h : ma_MO sh M) (hq : sh[q]? = some k) (hv : ma_ok sh.length (ma_kt k.1 j, v)) : ma_MO sh (ma_up M (q : Int) (j : Int) v) := by
  intro q' k' hq' j' hj'
  show ma_ok sh.length (ma_kt k'.1 j', if (q' : Int) = (q : Int) ∧ (j' : Int) = (j : Int) then v else M (q' : Int) (j' : Int))
  by_cases hc : (q' : Int) = (q : Int) ∧ (j' : Int) = (j : Int)
  · obtain rfl : q' = q := by omega
    obtain rfl : j' = j := by omega
    rw [if_pos hc]
    cases hq.symm.trans hq'
    exact hv
  · rw [if_neg hc]
    exact h q' k' hq' j' hj'
theorem ma_MO_app {k : Nat × Nat} (h : ma_MO sh M) (hM : ∀ i : Nat, i < sh.length → ∀ j : Nat, M' (i : Int) (j : Int) = M (i : Int) (j : Int)) (hk : ∀ j : Nat, j < k.2 → ma_ok (sh.length + 1) (ma_kt k.1 j, M' (sh.length : Int) (j : Int))) : ma_MO (sh ++ [k]) M' := by
  intro q k' hq j hj
  rw [List.length_append, List.length_singleton]
  by_cases hi : q < sh.length
  · rw [List.getElem?_append_left hi] at hq
    rw [hM q hi]
    exact ma_ok_le (by omega) (h q k' hq j hj)
  · have hlt := (List.getElem?_eq_some_iff.mp hq).1
    rw [List.length_append, List.length_singleton] at hlt
    obtain rfl : q = sh.length := by omega
    rw [List.getElem?_append_right (Nat.le_refl _), Nat.sub_self] at hq
    cases hq
    exact hk j hj
theorem ma_al_i {r : Int} {k : Nat} (h : 0 ≤ ma_al sh r k) : ∃ q n : Nat, r = (q : Int) ∧ sh[q]? = some (k, n) ∧ ma_al sh r k = (n : Int) := by
  unfold ma_al at h ⊢
  by_cases h0 : 0 ≤ r
  · rw [if_pos h0] at h ⊢
    cases hs : sh[r.toNat]? with
    | none => rw [hs] at h; exact absurd (show (0 : Int) ≤ -1 from h) (by decide)
    | some q =>
      rw [hs] at h
      obtain ⟨a, n⟩ := q
      by_cases hk : a = k
      · subst hk
        exact ⟨r.toNat, n, by omega, hs, by simp only [if_true]⟩
      · simp only [hk, if_false] at h
        exact absurd h (by decide)
  · rw [if_neg h0] at h
    exact absurd h (by decide)
theorem ma_al_lt {r : Int} {k : Nat} (h : 0 ≤ ma_al sh r k) : 0 ≤ r ∧ r < sh.length := by
  obtain ⟨q, n, rfl, hs, -⟩ := ma_al_i h
  have := (List.getElem?_eq_some_iff.mp hs).1
  omega
end WSS
theorem ma_cl32 {i : Int} (h0 : 0 ≤ i) (h : i ≤ 2147483647) : (Int32.ofInt i).toNatClampNeg = i.toNat := by
  show (Int32.ofInt i).toInt.toNat = _
  rw [ma_t32 (by omega) h]
theorem ma_in32 {i : Int} {n : Nat} (h0 : 0 ≤ i) (h : i ≤ 2147483647) (hn : i < n) : vp_in (Int32.ofInt i) n := by
  rw [vp_in_iff, ma_t32 (by omega) h]
  exact ⟨h0, hn⟩
abbrev ma_ty (cA : Nat → ClassId) : List (ClassId × FieldType) := [(cA 0, .int), (cA 1, .long), (cA 2, .boolean), (cA 3, .array .int)]
def ma_G (D : va_G) (cl : List vw_C) (cA : Nat → ClassId) (A : Nat → Prop) (H0 : Heap) (b L : Nat) (xs : Nat → Int32) (ad : Int → Nat) (sh : ma_S) (M : ma_M) (H : Heap) (locs : List Loc) : Prop :=
  va_P D cl (ma_ws ad cA sh M) H ∧ va_D A (ma_ws ad cA sh M) ∧ va_S A H0 H locs ∧ ma_MO sh M ∧ ad (-2) = b ∧ M (-2) (-1) = (L : Int) ∧ ∀ j : Nat, j < L → M (-2) (j : Int) = (xs j).toInt
section HEAP
variable {p : Program} {l : Launch} {e : Env} {R : Room} {s : State} {m : MethodId} {args : Array Value} {below : List Frame} {meth : Method} {c : Code} {H : Heap} {locs : List Loc} {cells slots : Nat} {Q : State → Prop}
variable {cc : ByteArray} {pc : Nat} {ls : Array Slot} {ad : Int → Nat} {D : va_G} {cl : List vw_C} {cA : Nat → ClassId} {A : Nat → Prop} {H0 : Heap} {b L : Nat} {xs : Nat → Int32} {sh : ma_S} {M : ma_M} {rest : List Value}
theorem ma_x_iald (hx : p.tables.exec = Jvm.exec) (hb : c.code = cc) (hK : va_K D cl (ma_ty cA) s) (G : ma_G D cl cA A H0 b L xs ad sh M H locs) {r i : Int} (hi : 0 ≤ i) (hr : i ≤ 2147483647) (hl : i < ma_al sh r 0) (hd : decode cc pc = .ok (.iaload, 1))
    (kk : W p l e R s m args below meth c H locs cells slots Q (F0 m (pc + 1) ls (ma_tv ad (0, M r i) :: rest))) : W p l e R s m args below meth c H locs cells slots Q (F0 m pc ls (.int (Int32.ofInt i) :: ma_tv ad (2, r) :: rest)) := by
  obtain ⟨q, n, rfl, hs, hn⟩ := ma_al_i (show 0 ≤ ma_al sh r 0 by omega)
  rw [ma_tv2 ad (by omega)]
  refine va_iald (f := fun j : Nat => Int32.ofInt (M (q : Int) (j : Int))) hx hb hK G.1 q 0 (cA := cA 0) (n := n) (ma_ws_at hs) rfl (ma_in32 hi hr (by omega)) hd ?_
  rw [ma_cl32 hi hr]
  show W p l e R s m args below meth c H locs cells slots Q (F0 m (pc + 1) ls (.int (Int32.ofInt (M (q : Int) ((i.toNat : Nat) : Int))) :: rest))
  rw [Int.toNat_of_nonneg hi]
  exact kk
theorem ma_x_zald (hx : p.tables.exec = Jvm.exec) (hb : c.code = cc) (hK : va_K D cl (ma_ty cA) s) (G : ma_G D cl cA A H0 b L xs ad sh M H locs) {r i : Int} (hi : 0 ≤ i) (hr : i ≤ 2147483647) (hl : i < ma_al sh r 2) (hd : decode cc pc = .ok (.baload, 1))
    (kk : W p l e R s m args below meth c H locs cells slots Q (F0 m (pc + 1) ls (ma_tv ad (0, M r i) :: rest))) : W p l e R s m args below meth c H locs cells slots Q (F0 m pc ls (.int (Int32.ofInt i) :: ma_tv ad (2, r) :: rest)) := by
  obtain ⟨q, n, rfl, hs, hn⟩ := ma_al_i (show 0 ≤ ma_al sh r 2 by omega)
  rw [ma_tv2 ad (by omega)]
  refine va_zald (f := fun j : Nat => Int32.ofInt (M (q : Int) (j : Int))) hx hb hK G.1 q 2 (cA := cA 2) (n := n) (ma_ws_at hs) rfl (ma_in32 hi hr (by omega)) hd ?_
  rw [ma_cl32 hi hr]
  show W p l e R s m args below meth c H locs cells slots Q (F0 m (pc + 1) ls (.int (Int32.ofInt (M (q : Int) ((i.toNat : Nat) : Int))) :: rest))
  rw [Int.toNat_of_nonneg hi]
  exact kk
theorem ma_x_lald (hx : p.tables.exec = Jvm.exec) (hb : c.code = cc) (hK : va_K D cl (ma_ty cA) s) (G : ma_G D cl cA A H0 b L xs ad sh M H locs) {r i : Int} (hi : 0 ≤ i) (hr : i ≤ 2147483647) (hl : i < ma_al sh r 1) (hd : decode cc pc = .ok (.laload, 1))
    (kk : W p l e R s m args below meth c H locs cells slots Q (F0 m (pc + 1) ls (ma_tv ad (1, M r i) :: rest))) : W p l e R s m args below meth c H locs cells slots Q (F0 m pc ls (.int (Int32.ofInt i) :: ma_tv ad (2, r) :: rest)) := by
  obtain ⟨q, n, rfl, hs, hn⟩ := ma_al_i (show 0 ≤ ma_al sh r 1 by omega)
  rw [ma_tv2 ad (by omega)]
  refine va_lald (f := fun j : Nat => Int64.ofInt (M (q : Int) (j : Int))) hx hb hK G.1 q 1 (cA := cA 1) (n := n) (ma_ws_at hs) rfl (ma_in32 hi hr (by omega)) hd ?_
  rw [ma_cl32 hi hr]
  show W p l e R s m args below meth c H locs cells slots Q (F0 m (pc + 1) ls (.long (Int64.ofInt (M (q : Int) ((i.toNat : Nat) : Int))) :: rest))
  rw [Int.toNat_of_nonneg hi]
  exact kk
theorem ma_x_aald (hx : p.tables.exec = Jvm.exec) (hb : c.code = cc) (hK : va_K D cl (ma_ty cA) s) (G : ma_G D cl cA A H0 b L xs ad sh M H locs) {r i : Int} (hi : 0 ≤ i) (hr : i ≤ 2147483647) (hl : i < ma_al sh r 3) (hd : decode cc pc = .ok (.aaload, 1))
    (kk : W p l e R s m args below meth c H locs cells slots Q (F0 m (pc + 1) ls (ma_tv ad (2, M r i) :: rest))) : W p l e R s m args below meth c H locs cells slots Q (F0 m pc ls (.int (Int32.ofInt i) :: ma_tv ad (2, r) :: rest)) := by
  obtain ⟨q, n, rfl, hs, hn⟩ := ma_al_i (show 0 ≤ ma_al sh r 3 by omega)
  rw [ma_tv2 ad (by omega)]
  have hat : H[ad (q : Int)]? = some (vp_cell (cA 3) (n, .inr (.inr (.inr (.inr (fun j : Nat => if j < n ∧ M (q : Int) (j : Int) ≠ -1 then some (ad (M (q : Int) (j : Int))) else none)))))) := G.1 q _ (ma_ws_at hs)
  refine W.aald (v := ma_tv ad (2, M (q : Int) i)) (ty := .array .int) hx hb hat ((hK.2 3 _ rfl).1 n (fun j => va_rf (if j < n ∧ M (q : Int) (j : Int) ≠ -1 then some (ad (M (q : Int) (j : Int))) else none))) rfl (fun q => by cases q) (by show ¬ (_ ∨ (arrV _ _ _).slots.size ≤ _); rw [arrV_size]; exact ma_in32 hi hr (by omega)) ?_ rfl rfl hd kk
  show (arrV _ _ _).slots[_]? = _
  rw [ma_cl32 hi hr, arrV_read _ _ (by omega)]
  have hn2 : i.toNat < n := by omega
  show some (va_rf (if i.toNat < n ∧ M (q : Int) ((i.toNat : Nat) : Int) ≠ -1 then some (ad (M (q : Int) ((i.toNat : Nat) : Int))) else none)) = _
  rw [Int.toNat_of_nonneg hi]
  by_cases h1 : M (q : Int) i = -1
  · rw [if_neg (fun z => z.2 h1), h1]
    rfl
  · rw [if_pos ⟨hn2, h1⟩, ma_tv2 ad h1]
    rfl
end HEAP
