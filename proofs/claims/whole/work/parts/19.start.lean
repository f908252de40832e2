/-- what is left: on every script the law's run on the abstract machine ends, with 1, in the claim's room -/
def ma_PURE : Prop := ∀ (M : ma_M) (L : Nat), L ≤ 2048 → M (-2) (-1) = (L : Int) → (∀ j : Nat, j < L → -2147483648 ≤ M (-2) (j : Int) ∧ M (-2) (j : Int) ≤ 2147483647) → ∃ (n : Nat) (sh' : ma_S) (M' : ma_M), ma_ex n 113 0 (ma_en [(2, -2)] 4) [] [] M = some (some (0, 1), sh', M') ∧ sh'.length ≤ 600000 ∧ ma_sz sh' ≤ 7302250
theorem ma_inst : ∀ ci, ci < 7 → ∃ C T N, ma_cl[ci]? = some (C, T, N) ∧ Cond.instantiable C N ∈ ma_wg := by
  have h : ∀ ci, ci < 7 → ∀ q, ma_cl[ci]? = some q → Cond.instantiable q.1 q.2.2 ∈ ma_wg := by
    intro ci hci q hq
    have h1 : ∀ z ∈ ma_cl.map (fun q => (q.1, q.2.2)), Cond.instantiable z.1 z.2 ∈ ma_wg := by decide +kernel
    exact h1 (q.1, q.2.2) (List.mem_map.mpr ⟨q, List.mem_of_getElem? hq, rfl⟩)
  intro ci hci
  have hl : ci < ma_cl.length := hci
  have e := List.getElem?_eq_getElem hl
  exact ⟨_, _, _, e, h ci hci _ e⟩
theorem ma_kn {args : Array Value} {s : State} (hts : ∀ w ∈ ma_W, w.before args s = true) : ∃ D : va_G, ∀ (c : Nat) (q : vw_C), ma_cl[c]? = some q → u_Kn s q.1 q.2.1 q.2.2 (D.1 c) (D.2 c) := by
  have h : ∀ c : Nat, ∃ (cC : ClassId) (iS : Nat → Nat), ∀ q : vw_C, ma_cl[c]? = some q → u_Kn s q.1 q.2.1 q.2.2 cC iS := by
    intro c
    by_cases hc : c < 7
    · obtain ⟨C, T, N, e, hw⟩ := ma_inst c hc
      obtain ⟨cC, iS, hk⟩ := u_known hts (ma_uw e) (hts _ (ma_wg_in _ hw))
      refine ⟨cC, iS, fun q hq => ?_⟩
      cases e.symm.trans hq
      exact hk
    · refine ⟨0, fun _ => 0, fun q hq => ?_⟩
      exact absurd ((List.getElem?_eq_some_iff.mp hq).1 : c < 7) hc
  exact ⟨(fun c => Classical.choose (h c), fun c => Classical.choose (Classical.choose_spec (h c))), fun c q hq => Classical.choose_spec (Classical.choose_spec (h c)) q hq⟩
theorem ma_ar {args : Array Value} {s : State} {ty : FieldType} (hty : va_RA s 0 ty = (s.vm.findClass ("[" ++ ty.toString) = some 0)) (hra : ∀ c : ClassId, s.vm.findClass ("[" ++ ty.toString) = some c → va_RA s c ty) (h : (Cond.arrayClass ty).before args s = true) : ∃ c : ClassId, ArrOfT s c ty ∧ va_RA s c ty := by
  obtain ⟨c, k, comp, h1, h2, h3⟩ := Cond.arrayClass_spec h
  exact ⟨c, fun n z => ⟨(fun q hq => by cases hq), k, h2, comp, h3⟩, hra c h1⟩
theorem ma_ag {args : Array Value} {s : State} (h : (Cond.arrayOver (.array .int)).before args s = true) : ∃ c : ClassId, ArrOfT s c (.array .int) ∧ va_RA s c (.array .int) := by
  obtain ⟨comp, c, k, h1, -, h2, h3, h4⟩ := arrayOverA_spec h
  exact ⟨c, fun n z => ⟨(fun q hq => by cases hq), k, h2, comp, h3⟩, h4⟩
theorem ma_aow : Cond.arrayOver (.array .int) ∈ lw_tbl := List.mem_of_getElem? (i := 115) (by decide +kernel)
theorem ma_acw : Cond.arrayClass .int ∈ ma_wg ∧ Cond.arrayClass .long ∈ ma_wg ∧ Cond.arrayClass .boolean ∈ ma_wg := by decide +kernel
set_option maxHeartbeats 4000000 in
theorem ma_start (hpure : ma_PURE) {p : Program} {e : Env} {s : State} {m : MethodId} {below : List Frame} {meth : Method} {c : Code} (l : Launch) {b L : Nat} {xs : Nat → Int32} (hL : L ≤ 2048) (C0 : lw_At p s m meth c b L xs) : W p l e room_1 s m #[Value.ref b] below meth c s.heap [] 0 0 (lw_Z below #[Value.ref b] s) (entryFrame m ([Value.ref b] : List Value).toArray 4) := by
  obtain ⟨hx, hb, hr, hml, hown, hts, hX, hbl, hlocks, -⟩ := C0
  have htW : ∀ w ∈ ma_W, w.before #[Value.ref b] s = true := fun w hw => hts w (List.mem_filter.mp hw).1
  obtain ⟨D, hD⟩ := ma_kn htW
  obtain ⟨c0, i1, i2⟩ := ma_ar (ty := .int) rfl (fun _ h => h) (htW _ (ma_wg_in _ ma_acw.1))
  obtain ⟨c1, j1, j2⟩ := ma_ar (ty := .long) rfl (fun _ h => h) (htW _ (ma_wg_in _ ma_acw.2.1))
  obtain ⟨c2, k1, k2⟩ := ma_ar (ty := .boolean) rfl (fun _ h => h) (htW _ (ma_wg_in _ ma_acw.2.2))
  obtain ⟨c3, l1, l2⟩ := ma_ag (hts _ ma_aow)
  have hK : va_K D ma_cl (ma_ty (fun i => if i = 0 then c0 else if i = 1 then c1 else if i = 2 then c2 else c3)) s := by
    refine ⟨hD, fun k q hk => ?_⟩
    rcases k with _ | _ | _ | _ | k
    · cases hk; exact ⟨i1, i2⟩
    · cases hk; exact ⟨j1, j2⟩
    · cases hk; exact ⟨k1, k2⟩
    · cases hk; exact ⟨l1, l2⟩
    · cases hk
  obtain ⟨n, sh', M', hrun, hc, hsz⟩ := hpure (fun c i => if c = -2 then (if i = -1 then (L : Int) else (xs i.toNat).toInt) else 0) L hL rfl (fun j hj => by
    show -2147483648 ≤ (if (j : Int) = -1 then (L : Int) else (xs (j : Int).toNat).toInt) ∧ (if (j : Int) = -1 then (L : Int) else (xs (j : Int).toNat).toInt) ≤ 2147483647
    rw [if_neg (by omega)]
    exact ma_r32 _)
  rw [lg_entry_eq]
  refine ma_sim l n 113 0 (ma_en [(2, -2)] 4) [] [] _ (some (0, 1)) sh' M' hrun p e room_1 s m #[Value.ref b] below meth c D _ (fun q => s.heap.size ≤ q) b L xs _ ⟨⟨hx, hb, hml, hown⟩, ⟨htW, fun w hw => va_Nw.of (ma_NW_t w hw) (hts w (ma_NW_in w hw)), ma_AO_of (hts _ ma_aow), hK⟩, ⟨fun q h => h, hX, by omega, hbl, by omega⟩, fun z => absurd (show (ma_y 113).name = "<init>" from z) (by decide), by decide, by decide⟩ (fun _ => b) _ s.heap [] 0 0 ⟨fun k q hk => (by cases hk), ⟨fun i j x y hi => (by cases hi), fun k q hk => (by cases hk)⟩, va_S.rf, fun q k hq => (by cases hq), rfl, rfl, fun j hj => ?_⟩ (ma_entry (as := [(2, -2)]) (by decide)) (ma_en_ok (fun v hv => ?_)) (fun v hv => by cases hv) (by show 0 + (sh'.length - 0) ≤ 600000; omega) (by show 0 + (ma_sz sh' - 0) ≤ 7302250; omega) ?_
  · show (if (j : Int) = -1 then (L : Int) else (xs (j : Int).toNat).toInt) = _
    rw [if_neg (by omega), Int.toNat_natCast]
  · rcases List.mem_cons.mp hv with rfl | hv
    · exact ma_i2 (by decide)
    · cases hv
  · intro ad' ls' H' locs' pc' ins' len' lk' st' hext hlk h4 G' ho'
    obtain ⟨hd, hck⟩ := ma_dec hlk
    obtain ⟨rfl, hcase⟩ := ma_s4_i hck h4
    rcases hcase with ⟨x, rfl, rfl, h6, -⟩ | ⟨x, -, -, h6, -⟩ | ⟨-, -, h6, -⟩
    · cases h6
      refine va_forget (fun q hq => G'.2.2.1.2.2 q hq) ?_
      refine W.widen (k := 600000) (n := 7302250) (by show 0 + (sh'.length - 0) ≤ 600000; omega) (by show 0 + (ma_sz sh' - 0) ≤ 7302250; omega) ?_
      exact lw_ret hx hb hr hlocks hd
    · cases h6
    · cases h6
