def ma_AO (U : State) : Prop := (Cond.arrayOver (.array .int)).before #[] U = true
theorem ma_AO_use {A : Array Value} {U : State} (h : ma_AO U) : (Cond.arrayOver (.array .int)).before A U = true := h
theorem ma_AO_of {A : Array Value} {U : State} (h : (Cond.arrayOver (.array .int)).before A U = true) : ma_AO U := h
theorem ma_AO_moved {u U : State} (hvm : u.vm.Alike U.vm) (h : ma_AO u) : ma_AO U := by
  obtain ⟨comp, c, k, h1, h2, h3, h4, h5⟩ := arrayOverA_spec h
  obtain ⟨k', hk', he⟩ := hvm.2.2 _ _ h3
  have hi := (hvm.findIdx?_eq _ (fun _ => rfl)).trans h2
  have hkind : k'.kind = .array comp (.array .int) := by rw [he]; exact h4
  have f1 : U.vm.findClass (FieldType.array .int).toString = some comp := by rw [hvm.findClass]; exact h1
  have f2 : U.vm.findClass ("[" ++ (FieldType.array .int).toString) = some c := by rw [hvm.findClass]; exact h5
  unfold ma_AO Cond.before Cond.holds
  simp only [Cond.value]
  rw [f1, Option.bind_some]
  refine (congrArg (fun o : Option Nat => (o.bind (fun c => (U.vm.classes[c]?).map fun (k : Class) => match k.kind with | .array _ ty => decide (ty = FieldType.array .int) && decide (U.vm.findClass ("[" ++ (FieldType.array .int).toString) = some c) | _ => false) == some true)) hi).trans ?_
  simp [hk', hkind, f2]
theorem ma_outer (c : ClassId) (N h0 : Nat) : ∀ i : Nat, Jvm.Free.Multi.outerC c N h0 i = arrV c N (fun j => va_rf (if j < i then some (h0 + 1 + j) else none))
  | 0 => by
    show ({ cls := c, slots := Array.replicate N .null, vm := .none } : Cell) = _
    rw [arrV_new]
    refine congrArg (arrV c N) (funext fun j => ?_)
    simp [va_rf]
  | i + 1 => by
    show (Jvm.Free.Multi.outerC c N h0 i).setSlot i (.ref (h0 + 1 + i)) = _
    rw [ma_outer c N h0 i, arrV_store]
    refine congrArg (arrV c N) (funext fun j => ?_)
    by_cases e : j = i
    · subst e
      simp [updV, va_rf]
    · by_cases h : j < i
      · simp [updV, e, h, Nat.lt_succ_of_lt h]
      · simp [updV, e, h, show ¬ j < i + 1 by omega]
def ma_am (ad : Int → Nat) (n h : Nat) : Int → Nat := fun r => if r < (n : Int) then ad r else h + (r - n).toNat
theorem ma_am_lt {ad : Int → Nat} {n h : Nat} {r : Int} (hr : r < n) : ma_am ad n h r = ad r := if_pos hr
theorem ma_am_ge {ad : Int → Nat} {n h : Nat} {r : Int} (hr : (n : Int) ≤ r) : ma_am ad n h r = h + (r - n).toNat := if_neg (by omega)
section MULTI
variable {p : Program} {l : Launch} {e : Env} {R : Room} {s : State} {m : MethodId} {args : Array Value} {below : List Frame} {meth : Method} {c : Code} {H : Heap} {locs : List Loc} {cells slots : Nat} {Q : State → Prop}
variable {cc : ByteArray} {pc : Nat} {ls : Array Slot} {ad : Int → Nat} {D : va_G} {cl : List vw_C} {cA : Nat → ClassId} {A : Nat → Prop} {H0 : Heap} {b L : Nat} {xs : Nat → Int32} {sh : ma_S} {M : ma_M} {rest : List Value}
theorem ma_sh2 (sh : ma_S) (N K i : Nat) (k : Nat × Nat) (h : (sh ++ (3, N) :: List.replicate N (0, K))[i]? = some k) : (i < sh.length ∧ sh[i]? = some k) ∨ (i = sh.length ∧ k = (3, N)) ∨ (sh.length < i ∧ i ≤ sh.length + N ∧ k = (0, K)) := by
  by_cases h1 : i < sh.length
  · rw [List.getElem?_append_left h1] at h
    exact Or.inl ⟨h1, h⟩
  · rw [List.getElem?_append_right (by omega)] at h
    by_cases h2 : i = sh.length
    · subst h2
      rw [Nat.sub_self] at h
      cases h
      exact Or.inr (Or.inl ⟨rfl, rfl⟩)
    · obtain ⟨j, hj⟩ : ∃ j, i - sh.length = j + 1 := ⟨i - sh.length - 1, by omega⟩
      rw [hj, List.getElem?_cons_succ] at h
      have h3 := (List.getElem?_eq_some_iff.mp h).1
      rw [List.length_replicate] at h3
      exact Or.inr (Or.inr ⟨by omega, by omega, List.eq_of_mem_replicate (List.mem_of_getElem? h)⟩)
theorem ma_nm_lt {M : ma_M} {q n i : Int} (h : i < q) (j : Int) : ma_nm M q n i j = M i j := by
  unfold ma_nm
  rw [if_neg (by omega), if_neg (by omega)]
theorem ma_nm_s {M : ma_M} {q n : Int} (j : Int) : ma_nm M q n q j = q + 1 + j := if_pos rfl
theorem ma_nm_r {M : ma_M} {q n i : Int} (h1 : q < i) (h2 : i ≤ q + n) (j : Int) : ma_nm M q n i j = 0 := by
  unfold ma_nm
  rw [if_neg (by omega), if_pos ⟨h1, h2⟩]
set_option maxHeartbeats 4000000 in
theorem ma_x_multi (hx : p.tables.exec = Jvm.exec) (hb : c.code = cc) {own : String} {index : Nat} (hown : s.vm.findClass own = some m.cls) (hclink : (Cond.classLink own index "[[I").before args s = true) (hAO : ma_AO s) (harr : (Cond.arrayClass .int).before args s = true) (hK : va_K D cl (ma_ty cA) s) (hA : ∀ q, H0.size ≤ q → A q) (G : ma_G D cl cA A H0 b L xs ad sh M H locs) {k n : Int} (hk0 : 0 ≤ k) (hk1 : k ≤ 10000) (hn0 : 0 ≤ n) (hn1 : n ≤ 10000)
    (hcells : cells + (1 + n.toNat) ≤ R.cells) (hslots : slots + (n.toNat + n.toNat * k.toNat) ≤ R.slots) (hd : decode cc pc = .ok (.multianewarray index 2, 4))
    (kk : ∀ (ad' : Int → Nat) (H1 : Heap), (∀ r : Int, r < sh.length → ad' r = ad r) → ma_G D cl cA A H0 b L xs ad' (sh ++ (3, n.toNat) :: List.replicate n.toNat (0, k.toNat)) (ma_nm M sh.length n) H1 locs → W p l e R s m args below meth c H1 locs (cells + 1 + n.toNat) (slots + n.toNat + n.toNat * k.toNat) Q (F0 m (pc + 4) ls (.ref (ad' (sh.length : Int)) :: rest))) : W p l e R s m args below meth c H locs cells slots Q (F0 m pc ls (.int (Int32.ofInt k) :: .int (Int32.ofInt n) :: rest)) := by
  have hn : ¬ Int32.ofInt n < 0 := fun z => by
    have := (ma_lt32 (y := 0) (by omega) ma_z0).mp z
    omega
  have hk : ¬ Int32.ofInt k < 0 := fun z => by
    have := (ma_lt32 (y := 0) (by omega) ma_z0).mp z
    omega
  have hN : (Int32.ofInt n).toNatClampNeg = n.toNat := ma_cl32 hn0 (by omega)
  have hKk : (Int32.ofInt k).toNatClampNeg = k.toNat := ma_cl32 hk0 (by omega)
  obtain ⟨N, rfl⟩ : ∃ N : Nat, n = (N : Int) := ⟨n.toNat, by omega⟩
  obtain ⟨K, rfl⟩ : ∃ K : Nat, k = (K : Int) := ⟨k.toNat, by omega⟩
  rw [Int.toNat_natCast] at hN hKk hcells kk hslots
  rw [Int.toNat_natCast] at kk hslots
  intro T hT Xs
  obtain ⟨vm₁, c1, comp, -, fA, fC, hO, -, X', step⟩ := Xs.multianewarray2F hx (ty := .int) hown hclink (ma_AO_use hAO) harr (g := F0 m pc ls (.int (Int32.ofInt (K : Int)) :: .int (Int32.ofInt (N : Int)) :: rest)) rfl (by rw [hb]; exact hd) rfl hn hk (by rw [hN]; omega) (by rw [hKk]; show K * 4 ≤ _; omega) (by rw [hKk]; omega) rfl rfl (by rw [hN]; exact hcells) (by rw [hN, hKk]; exact hslots)
  rw [hN, hKk] at X' step
  obtain rfl : cA 3 = c1 := Option.some.inj ((hK.2 3 _ rfl).2.symm.trans fA)
  obtain rfl : cA 0 = comp := Option.some.inj ((hK.2 0 _ rfl).2.symm.trans fC)
  generalize hF : Jvm.Free.Multi.fill (T.setVm vm₁) (cA 3) (cA 0) N K (defaultValue .int) N = F at X' step
  have hTh : (T.setVm vm₁).heap = H := hT
  obtain ⟨f1, f2, -, -⟩ := Jvm.Free.Multi.fill_facts (T.setVm vm₁) (cA 3) (cA 0) N K (defaultValue .int) N
  rw [hF, hTh] at f1 f2
  rw [ma_outer] at f2
  have hold : ∀ x : Nat, x < H.size → F.heap[x]? = H[x]? := fun x hx => by
    have := Jvm.Free.Multi.fill_old (T.setVm vm₁) (cA 3) (cA 0) N K (defaultValue .int) (a := x) (by rw [hTh]; exact hx) N
    rw [hF, hTh] at this
    exact this
  have hrow : ∀ j : Nat, j < N → F.heap[H.size + 1 + j]? = some (vp_cell (cA 0) (K, .inl (fun _ => 0))) := fun j hj => by
    have := Jvm.Free.Multi.fill_inner (T.setVm vm₁) (cA 3) (cA 0) N K (defaultValue .int) N j hj
    rw [hF, hTh] at this
    rw [this, vp_cell_i, ← arrV_new]
    rfl
  have hz : H0.size ≤ H.size := G.2.2.1.1
  have hadl : ∀ i : Nat, i < sh.length → ad (i : Int) < H.size := fun i hi => (G.1 i _ (ma_ws_at (List.getElem?_eq_getElem hi))).lt
  have hP2 : va_P D cl (ma_ws (ma_am ad sh.length H.size) cA (sh ++ (3, N) :: List.replicate N (0, K)) (ma_nm M sh.length N)) F.heap := by
    intro i q hq
    have hi : i < (sh ++ (3, N) :: List.replicate N (0, K)).length := by
      have := (List.getElem?_eq_some_iff.mp hq).1
      rw [ma_ws_len] at this
      exact this
    have hs := List.getElem?_eq_getElem hi
    rw [ma_ws_at hs] at hq
    cases hq
    rcases ma_sh2 sh N K i _ hs with ⟨g1, g2⟩ | ⟨rfl, g2⟩ | ⟨g1, g2, g3⟩
    · have e1 := G.1 i _ (ma_ws_at g2)
      rw [ma_am_lt (by omega), ma_ce_congr (fun j => ma_nm_lt (by omega) j), ma_ce_ad (n := sh.length) (fun j hj => G.2.2.2.1 i _ g2 j hj) (fun r hr => ma_am_lt hr)]
      exact e1.kept (hold _ (hadl i g1))
    · rw [g2, ma_am_ge (Int.le_refl _), Int.sub_self]
      show F.heap[H.size + 0]? = some (vp_cell (cA 3) _)
      rw [Nat.add_zero, f2, vp_cell_q]
      congr 2
      funext j
      simp only [ma_nm_s]
      congr 1
      by_cases hj : j < N
      · rw [if_pos hj, if_pos ⟨hj, by omega⟩, ma_am_ge (by omega)]
        congr 1
        omega
      · rw [if_neg hj, if_neg (fun z => hj z.1)]
    · rw [g3, ma_am_ge (by omega)]
      have e2 := hrow (i - sh.length - 1) (by omega)
      have e3 : H.size + ((i : Int) - (sh.length : Int)).toNat = H.size + 1 + (i - sh.length - 1) := by omega
      show F.heap[H.size + ((i : Int) - (sh.length : Int)).toNat]? = some (vp_cell (cA 0) _)
      rw [e3, e2]
      refine congrArg (fun g => some (vp_cell (cA 0) (K, Sum.inl g))) (funext fun j => ?_)
      rw [ma_nm_r (by omega) (by omega)]
      rfl
  have hD2 : va_D A (ma_ws (ma_am ad sh.length H.size) cA (sh ++ (3, N) :: List.replicate N (0, K)) (ma_nm M sh.length N)) := by
    have key : ∀ (i : Nat) (q : Nat × va_E), (ma_ws (ma_am ad sh.length H.size) cA (sh ++ (3, N) :: List.replicate N (0, K)) (ma_nm M sh.length N))[i]? = some q → (i < sh.length ∧ q.1 = ad (i : Int)) ∨ (sh.length ≤ i ∧ q.1 = H.size + (i - sh.length)) := by
      intro i q hq
      have hi : i < (sh ++ (3, N) :: List.replicate N (0, K)).length := by
        have := (List.getElem?_eq_some_iff.mp hq).1
        rw [ma_ws_len] at this
        exact this
      rw [ma_ws_at (List.getElem?_eq_getElem hi)] at hq
      cases hq
      by_cases h1 : i < sh.length
      · exact Or.inl ⟨h1, ma_am_lt (by omega)⟩
      · refine Or.inr ⟨by omega, ?_⟩
        show ma_am ad sh.length H.size (i : Int) = _
        rw [ma_am_ge (by omega)]
        omega
    refine ⟨fun i j x y hi hj hxy => ?_, fun i q hq => ?_⟩
    · rcases key i x hi with ⟨a1, a2⟩ | ⟨a1, a2⟩ <;> rcases key j y hj with ⟨b1, b2⟩ | ⟨b1, b2⟩
      · have e1 : ad (i : Int) = ad (j : Int) := by rw [← a2, ← b2]; exact hxy
        exact G.2.1.1 i j _ _ (ma_ws_at (List.getElem?_eq_getElem a1)) (ma_ws_at (List.getElem?_eq_getElem b1)) e1
      · have := hadl i a1
        omega
      · have := hadl j b1
        omega
      · omega
    · rcases key i q hq with ⟨a1, a2⟩ | ⟨a1, a2⟩
      · rw [a2]
        exact G.2.1.2 i _ (ma_ws_at (List.getElem?_eq_getElem a1))
      · exact hA _ (by omega)
  have hM2 : ma_MO (sh ++ (3, N) :: List.replicate N (0, K)) (ma_nm M sh.length N) := by
    intro i q hq j hj
    have hlen : (sh ++ (3, N) :: List.replicate N (0, K)).length = sh.length + (N + 1) := by rw [List.length_append, List.length_cons, List.length_replicate]
    rw [hlen]
    rcases ma_sh2 sh N K i _ hq with ⟨g1, g2⟩ | ⟨rfl, rfl⟩ | ⟨g1, g2, rfl⟩
    · rw [ma_nm_lt (by omega)]
      exact ma_ok_le (by omega) (G.2.2.2.1 i _ g2 j hj)
    · rw [ma_nm_s]
      have hj2 : j < N := hj
      exact ma_i2 (by omega)
    · rw [ma_nm_r (by omega) (by omega)]
      exact ma_i0 (by decide)
  obtain ⟨t, a1, b1⟩ := kk (ma_am ad sh.length H.size) F.heap (fun r hr => ma_am_lt hr) ⟨hP2, hD2, ⟨by rw [f1]; omega, fun x h1 h2 => (hold x (by omega)).trans (G.2.2.1.2.1 x h1 h2), G.2.2.1.2.2⟩, hM2, by rw [ma_am_lt (by omega)]; exact G.2.2.2.2.1, by rw [ma_nm_lt (by omega)]; exact G.2.2.2.2.2.1, fun j hj => by rw [ma_nm_lt (by omega)]; exact G.2.2.2.2.2.2 j hj⟩ F rfl X'
  refine ⟨t, step t ?_, b1⟩
  have e1 : T.heap.size = ma_am ad sh.length H.size (sh.length : Int) := by rw [ma_am_ge (Int.le_refl _), hT]; omega
  rw [e1]
  exact a1
end MULTI
