theorem ma_PR_blind {D : va_G} {cA : Nat → ClassId} {b L sz : Nat} {xs : Nat → Int32} {ad : Int → Nat} {sh : ma_S} {M : ma_M} {av : List Value} : FrameBlind (va_Pc av (ma_PR D cA b L xs ad sh M sz)) := by
  intro a U g mk q
  obtain ⟨q0, q1, qP, qK, qD, qN, qg, qX, qb, qn⟩ := q
  exact ⟨q0, q1, qP, va_K.moved (u := U) (U := U.calling g mk a) (Vm.Alike.refl U.vm) qK, qD, fun w hw => va_Nw.same (ma_NW_t w hw) (u := U) (U := U.calling g mk a) rfl (qN w hw), ma_AO_moved (u := U) (U := U.calling g mk a) (Vm.Alike.refl U.vm) qg, va_X.moved (u := U) (U := U.calling g mk a) (Vm.Alike.refl U.vm) qX, qb, qn⟩
theorem ma_PR_at {s U : State} {H : Heap} {D : va_G} {cA : Nat → ClassId} {A : Nat → Prop} {H0 : Heap} {locs : List Loc} {b L : Nat} {xs : Nat → Int32} {ad : Int → Nat} {sh : ma_S} {M : ma_M} (hK : va_K D ma_cl (ma_ty cA) s) (hN : ∀ w ∈ ma_NW, va_Nw w s) (hg : ma_AO s) (hX : va_X b L xs s H0) (hbl : b < H0.size) (hbA : ¬ A b) (G : ma_G D ma_cl cA A H0 b L xs ad sh M H locs) (hU : U.heap = H) (hW : s.WarmedH U.vm) : ma_PR D cA b L xs ad sh M H.size U := by
  refine ⟨by rw [hU], by rw [hU]; exact G.1, va_K.moved hW.alike hK, G.2.1.weaken (fun _ _ _ _ => trivial), fun w hw => ma_NW_w w hw hW (hN w hw), ma_AO_moved hW.alike hg, ?_, Nat.lt_of_lt_of_le hbl G.2.2.1.1, fun k e hk => hbA (G.2.1.2 k _ hk)⟩
  rw [hU]
  exact (hX.kept (G.2.2.1.2.1 b hbl hbA)).moved hW.alike
theorem ma_s4_i {mid : Nat} {ins : Instr} {len : Nat} {lk : List Int} {st : List ma_V} {r : Option ma_V} (hck : ma_ck mid ins len lk = true) (h : ma_s4 mid ins st = some r) : len = 1 ∧ ((∃ x, ins = .ireturn ∧ st = [(0, x)] ∧ r = some (0, x) ∧ (ma_r mid = some .int ∨ (ma_r mid = some .boolean ∧ (x = 0 ∨ x = 1)))) ∨ (∃ x, ins = .lreturn ∧ st = [(1, x)] ∧ r = some (1, x) ∧ ma_r mid = some .long) ∨ (ins = .return_ ∧ st = [] ∧ r = none ∧ ma_r mid = none)) := by
  unfold ma_s4 at h
  split at h
  · have hck1 : (len == 1 && decide (ma_r mid = some .int ∨ ma_r mid = some .boolean)) = true := hck
    simp only [Bool.and_eq_true, beq_iff_eq, decide_eq_true_eq] at hck1
    split at h
    · next v =>
      split at h
      · next hc =>
        obtain ⟨t, x⟩ := v
        obtain ⟨h1, h2⟩ := hc
        obtain rfl : t = 0 := h1
        cases h
        refine ⟨hck1.1, Or.inl ⟨x, rfl, rfl, rfl, ?_⟩⟩
        rcases hck1.2 with h3 | h3
        · exact Or.inl h3
        · exact Or.inr ⟨h3, h2 h3⟩
      · cases h
    · cases h
  · have hck1 : (len == 1 && decide (ma_r mid = some .long)) = true := hck
    simp only [Bool.and_eq_true, beq_iff_eq, decide_eq_true_eq] at hck1
    split at h
    · next v =>
      split at h
      · next hc =>
        obtain ⟨t, x⟩ := v
        obtain rfl : t = 1 := hc
        cases h
        exact ⟨hck1.1, Or.inr (Or.inl ⟨x, rfl, rfl, rfl, hck1.2⟩)⟩
      · cases h
    · cases h
  · have hck1 : (len == 1 && decide (ma_r mid = none)) = true := hck
    simp only [Bool.and_eq_true, beq_iff_eq, decide_eq_true_eq] at hck1
    split at h
    · cases h
      exact ⟨hck1.1, Or.inr (Or.inr ⟨rfl, rfl, rfl, hck1.2⟩)⟩
    · cases h
  · cases h
section MAIN
variable {l : Launch}
/-- the walk from a state of the abstract machine, whatever is to be reached -/
def ma_SIM (l : Launch) (n : Nat) : Prop := ∀ (mid pc : Nat) (al st : List ma_V) (sh : ma_S) (M : ma_M) (r : Option ma_V) (sh' : ma_S) (M' : ma_M), ma_ex n mid pc al st sh M = some (r, sh', M') →
  ∀ (p : Program) (e : Env) (R : Room) (s : State) (m : MethodId) (args : Array Value) (below : List Frame) (meth : Method) (c : Code) (D : va_G) (cA : Nat → ClassId) (A : Nat → Prop) (b L : Nat) (xs : Nat → Int32) (Q : State → Prop), ma_ctx p R s m args meth c D cA A b L xs mid →
  ∀ (ad : Int → Nat) (ls : Array Slot) (H : Heap) (locs : List Loc) (cells slots : Nat), ma_G D ma_cl cA A s.heap b L xs ad sh M H locs → ma_LR ad ls (ma_mL mid) al → ma_okl sh.length al → ma_oks sh.length st → cells + (sh'.length - sh.length) ≤ R.cells → slots + (ma_sz sh' - ma_sz sh) ≤ R.slots →
  (∀ (ad' : Int → Nat) (ls' : Array Slot) (H' : Heap) (locs' : List Loc) (pc' : Nat) (ins' : Instr) (len' : Nat) (lk' : List Int) (st' : List ma_V), (∀ x : Int, x < sh.length → ad' x = ad x) → ma_lk mid pc' = some (ins', len', lk') → ma_s4 mid ins' st' = some r → ma_G D ma_cl cA A s.heap b L xs ad' sh' M' H' locs' → ma_oks sh'.length st' → W p l e R s m args below meth c H' locs' (cells + (sh'.length - sh.length)) (slots + (ma_sz sh' - ma_sz sh)) Q (F0 m pc' ls' (st'.map (ma_tv ad')))) →
  W p l e R s m args below meth c H locs cells slots Q (F0 m pc ls (st.map (ma_tv ad)))
/-- a method's contract out of a run of it -/
theorem ma_met {n : Nat} (IH : ma_SIM l n) {mid : Nat} {as : List ma_V} {sh sh' : ma_S} {M M' : ma_M} {r : Option ma_V} (hmid : mid < ma_nM) (hrun : ma_ex n mid 0 (ma_en as (ma_mL mid)) [] sh M = some (r, sh', M')) (hle : (ma_sp as).length ≤ ma_mL mid) {D : va_G} {cA : Nat → ClassId} {b L : Nat} {xs : Nat → Int32} {ad : Int → Nat} {sz : Nat} (hL : L ≤ 2147483647) (hM : ma_MO sh M) (hab : ad (-2) = b) (hs1 : M (-2) (-1) = (L : Int)) (hs2 : ∀ j : Nat, j < L → M (-2) (j : Int) = (xs j).toInt) (has : ma_oks sh.length as) :
    Met l (ma_y mid) (ma_cw mid :: ma_W) (ma_rm (ma_h mid) (ma_q mid) (sh'.length - sh.length) (ma_sz sh' - ma_sz sh)) (va_Pc (as.map (ma_tv ad)) (ma_PR D cA b L xs ad sh M sz)) (ma_QC D cA (va_A (ma_ws ad cA sh M) sz) b L xs ad sh.length sh' M' r) (sh'.length - sh.length) (ma_sz sh' - ma_sz sh) (va_A (ma_ws ad cA sh M) sz) := by
  refine Met.ofW (cc := ma_b mid) (maxL := ma_mL mid) (ret := ma_r mid) (ma_plain mid hmid) rfl ?_
  intro p e s m args below meth c s₁ B hml hv
  obtain ⟨rfl, hsz, hP, hK, hD0, hN, hg, hX, hbl, hbn⟩ := hv
  have hts := atoms_spec (ws := ma_cw mid :: ma_W) B.pre
  have hown : s.vm.findClass (ma_y mid).cls = some m.cls := findClass_of_methodNamed B.named
  have hlocks := B.notSynchronized
  have hin : meth.name = (ma_y mid).name := (name_of_methodNamed B.named B.method).1
  subst hsz
  rw [lg_entry_eq]
  have hbA : ¬ va_A (ma_ws ad cA sh M) s.heap.size b := fun q => by
    rcases q with ⟨k, e, h⟩ | h
    · exact hbn k e h
    · omega
  refine IH mid 0 (ma_en as (ma_mL mid)) [] sh M r sh' M' hrun p e _ s m _ below meth c D cA (va_A (ma_ws ad cA sh M) s.heap.size) b L xs _ ⟨⟨B.exec, B.bytes, hml, hown⟩, ⟨fun w hw => hts w (List.mem_cons_of_mem _ hw), hN, hg, hK⟩, ⟨fun q h => Or.inr h, hX, hL, hbl, hbA⟩, fun z => hin.trans z, Nat.le_refl _, Nat.le_refl _⟩ ad _ s.heap [] 0 0 ⟨hP, hD0.self, va_S.rf, hM, hab, hs1, hs2⟩ (ma_entry hle) (ma_en_ok has) (fun v hv => by cases hv) (by show 0 + _ ≤ _; rw [Nat.zero_add]; exact Nat.le_refl _) (by show 0 + _ ≤ _; rw [Nat.zero_add]; exact Nat.le_refl _) ?_
  intro ad' ls' H' locs' pc' ins' len' lk' st' hext hlk h4 G' ho'
  rw [Nat.zero_add, Nat.zero_add]
  obtain ⟨hd, hck⟩ := ma_dec hlk
  obtain ⟨rfl, hcase⟩ := ma_s4_i hck h4
  have hpo : ∀ v, r = some v → ma_ok sh'.length v := by
    intro v hv
    subst hv
    rcases hcase with ⟨x, -, rfl, h6, -⟩ | ⟨x, -, rfl, h6, -⟩ | ⟨-, -, h6, -⟩
    · cases h6; exact ma_oks_h ho'
    · cases h6; exact ma_oks_h ho'
    · cases h6
  have hPO : ma_PO b L xs ad sh.length sh' M' r ad' := ⟨hext, G'.2.2.2.1, ⟨G'.2.2.2.2.2.1, G'.2.2.2.2.2.2⟩, hpo⟩
  have hBO : ∀ t : State, t.heap = H' → s.WarmedH t.vm → ma_BO D cA (va_A (ma_ws ad cA sh M) s.heap.size) sh' M' ad' t := fun t ht hW => ⟨by rw [ht]; exact G'.1, va_K.moved hW.alike hK, G'.2.1⟩
  rcases hcase with ⟨x, rfl, rfl, rfl, h7⟩ | ⟨x, rfl, rfl, rfl, h7⟩ | ⟨rfl, rfl, rfl, h7⟩
  · rcases h7 with h7 | ⟨h7, h8⟩
    · exact W.zret (v := Int32.ofInt x) (ty := .int) B.exec B.bytes (B.returns.trans h7) rfl (fun t ht hW => ⟨⟨Int32.ofInt x, ad', rfl, ⟨rfl, hPO⟩, hBO t ht hW⟩, G'.2.2.1.F ht⟩) G'.2.2.1.2.2 hd
    · exact W.zret (v := Int32.ofInt x) (ty := .boolean) B.exec B.bytes (B.returns.trans h7) (by rcases h8 with rfl | rfl <;> decide) (fun t ht hW => ⟨⟨Int32.ofInt x, ad', rfl, ⟨rfl, hPO⟩, hBO t ht hW⟩, G'.2.2.1.F ht⟩) G'.2.2.1.2.2 hd
  · exact W.lret (v := Int64.ofInt x) B.exec B.bytes (B.returns.trans h7) (fun t ht hW => ⟨⟨Int64.ofInt x, ad', rfl, ⟨rfl, hPO⟩, hBO t ht hW⟩, G'.2.2.1.F ht⟩) G'.2.2.1.2.2 hd
  · exact W.vret B.exec B.bytes (B.returns.trans h7) (fun t ht hW => ⟨⟨ad', rfl, hPO, hBO t ht hW⟩, G'.2.2.1.F ht⟩) G'.2.2.1.2.2 hd
/-- behind a call -/
theorem ma_back {p : Program} {e : Env} {R : Room} {s : State} {m : MethodId} {args : Array Value} {below : List Frame} {meth : Method} {c : Code} {H : Heap} {locs : List Loc} {cells slots mc ms pc : Nat} {Q : State → Prop} {ls : Array Slot} {rest st0 : List Value} {a : Array Value} {D : va_G} {cA : Nat → ClassId} {A : Nat → Prop} {b L : Nat} {xs : Nat → Int32} {ad : Int → Nat} {sh sh' : ma_S} {M M' : ma_M} {r : Option ma_V}
    (hA : ∀ q, s.heap.size ≤ q → A q) (G : ma_G D ma_cl cA A s.heap b L xs ad sh M H locs) (hr : va_Run p l e R s m args below meth c H locs cells slots mc ms (F0 m pc ls st0) rest (ma_QC D cA (va_A (ma_ws ad cA sh M) H.size) b L xs ad sh.length sh' M' r a) (va_A (ma_ws ad cA sh M) H.size)) (hrt : ∀ v, r = some v → v.1 = 0 ∨ v.1 = 1)
    (kk : ∀ (u : Int → Nat) (H1 : Heap) (locs1 : List Loc), (∀ x : Int, x < sh.length → u x = ad x) → ma_G D ma_cl cA A s.heap b L xs u sh' M' H1 locs1 → (∀ v, r = some v → ma_ok sh'.length v) → W p l e R s m args below meth c H1 locs1 (cells + mc) (slots + ms) Q (F0 m (pc + 3) ls ((r.map (ma_tv u)).toList ++ rest))) :
    W p l e R s m args below meth c H locs cells slots Q (F0 m pc ls st0) := by
  have hF : ∀ q, va_A (ma_ws ad cA sh M) H.size q → A q := fun q h => by
    rcases h with ⟨k, e, h⟩ | h
    · exact G.2.1.2 k _ h
    · exact hA q (Nat.le_trans G.2.2.1.1 h)
  have fin : ∀ (u : Int → Nat) (t : State) (H1 : Heap) (locs1 : List Loc), t.heap = H1 → ma_PO b L xs ad sh.length sh' M' r u → ma_BO D cA (va_A (ma_ws ad cA sh M) H.size) sh' M' u t → va_S A s.heap H1 locs1 → ma_G D ma_cl cA A s.heap b L xs u sh' M' H1 locs1 := fun u t H1 locs1 ht hp hB hS => ⟨by rw [← ht]; exact hB.1, hB.2.2.weaken (fun _ _ _ h => hF _ h), hS, hp.2.1, by rw [hp.1 (-2) (by omega)]; exact G.2.2.2.2.1, hp.2.2.1.1, hp.2.2.1.2⟩
  rcases r with _ | ⟨t, x⟩
  · exact va_callv (a := a) (post := ma_PO b L xs ad sh.length sh' M' none) (B := ma_BO D cA (va_A (ma_ws ad cA sh M) H.size) sh' M') hr G.2.2.1 (fun q _ h => hF q h) hF (fun u t H1 locs1 ht hvm hp hB hz hk hS => kk u H1 locs1 hp.1 (fin u t H1 locs1 ht hp hB hS) hp.2.2.2)
  · rcases hrt _ rfl with h | h
    · obtain rfl : t = 0 := h
      exact va_calli (a := a) (post := fun (y : Int32) (u : Int → Nat) => y = Int32.ofInt x ∧ ma_PO b L xs ad sh.length sh' M' (some (0, x)) u) (B := ma_BO D cA (va_A (ma_ws ad cA sh M) H.size) sh' M') hr G.2.2.1 (fun q _ h => hF q h) hF (fun y u t H1 locs1 ht hvm hp hB hz hk hS => by
        obtain ⟨rfl, hp⟩ := hp
        exact kk u H1 locs1 hp.1 (fin u t H1 locs1 ht hp hB hS) hp.2.2.2)
    · obtain rfl : t = 1 := h
      exact va_calll (a := a) (post := fun (y : Int64) (u : Int → Nat) => y = Int64.ofInt x ∧ ma_PO b L xs ad sh.length sh' M' (some (1, x)) u) (B := ma_BO D cA (va_A (ma_ws ad cA sh M) H.size) sh' M') hr G.2.2.1 (fun q _ h => hF q h) hF (fun y u t H1 locs1 ht hvm hp hB hz hk hS => by
        obtain ⟨rfl, hp⟩ := hp
        exact kk u H1 locs1 hp.1 (fin u t H1 locs1 ht hp hB hS) hp.2.2.2)
end MAIN
