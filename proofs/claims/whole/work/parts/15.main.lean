theorem ma_s3_grow {ins : Instr} {lk : List Int} {st st' : List ma_V} {sh sh' : ma_S} {M M' : ma_M} (h : ma_s3 ins lk st sh M = some (st', sh', M')) : ∃ ex, sh' = sh ++ ex := by
  unfold ma_s3 at h
  split at h
  all_goals try (cases h; done)
  all_goals try (obtain ⟨i, o, r, -, -, -, -, rfl, -⟩ := ma_ad_i h; exact ⟨[], (List.append_nil _).symm⟩)
  all_goals try (obtain ⟨v, i, o, r, -, -, -, -, rfl, -⟩ := ma_as_i h; exact ⟨[], (List.append_nil _).symm⟩)
  all_goals try (obtain ⟨v, i, o, r, -, -, -, -, -, rfl, -⟩ := ma_az_i h; exact ⟨[], (List.append_nil _).symm⟩)
  all_goals (repeat' split at h)
  all_goals try (cases h; done)
  all_goals try (obtain ⟨i, o, r, -, -, -, -, rfl, -⟩ := ma_ad_i h; exact ⟨[], (List.append_nil _).symm⟩)
  all_goals (cases h; first | exact ⟨[], (List.append_nil _).symm⟩ | exact ⟨_, rfl⟩)
theorem ma_grow : ∀ (n mid pc : Nat) (al st : List ma_V) (sh : ma_S) (M : ma_M) (r : Option ma_V) (sh' : ma_S) (M' : ma_M), ma_ex n mid pc al st sh M = some (r, sh', M') → ∃ ex, sh' = sh ++ ex
  | 0, _, _, _, _, _, _, _, _, _, h => by cases h
  | n + 1, mid, pc, al, st, sh, M, r, sh', M', h => by
    obtain ⟨ins, len, lk, -, h1 | h1 | h1 | h1 | h1⟩ := ma_bd_i (f := ma_ex n) h
    · obtain ⟨_, _, -, h2⟩ := h1
      exact ma_grow n _ _ _ _ _ _ _ _ _ h2
    · obtain ⟨_, _, -, h2⟩ := h1
      exact ma_grow n _ _ _ _ _ _ _ _ _ h2
    · obtain ⟨_, s1, _, h3, h2⟩ := h1
      obtain ⟨e1, rfl⟩ := ma_s3_grow h3
      obtain ⟨e2, rfl⟩ := ma_grow n _ _ _ _ _ _ _ _ _ h2
      exact ⟨e1 ++ e2, List.append_assoc _ _ _⟩
    · obtain ⟨_, -, h2⟩ := h1
      cases h2
      exact ⟨[], (List.append_nil _).symm⟩
    · obtain ⟨_, _, _, _, s1, _, -, h3, h2⟩ := h1
      obtain ⟨e1, rfl⟩ := ma_grow n _ _ _ _ _ _ _ _ _ h3
      obtain ⟨e2, rfl⟩ := ma_grow n _ _ _ _ _ _ _ _ _ h2
      exact ⟨e1 ++ e2, List.append_assoc _ _ _⟩
theorem ma_grow_l {sh sh' ex : ma_S} (h : sh' = sh ++ ex) : sh.length ≤ sh'.length ∧ ma_sz sh ≤ ma_sz sh' := by
  subst h
  rw [List.length_append, ma_sz_app]
  omega
/-! the slots with which a method begins -/
theorem ma_sp_c (v : ma_V) (r : List ma_V) : ma_sp (v :: r) = if v.1 = 1 then v :: ma_un :: ma_sp r else v :: ma_sp r := rfl
theorem ma_sp_len {ad : Int → Nat} : ∀ as : List ma_V, (lg_sl (as.map (ma_tv ad))).length = (ma_sp as).length
  | [] => rfl
  | v :: r => by
    have ih := ma_sp_len (ad := ad) r
    unfold lg_sl at ih ⊢
    rw [List.map_cons, List.flatMap_cons, List.length_append, ih, ma_catE, ma_sp_c]
    by_cases h : v.1 = 1
    · rw [if_pos h, if_pos h, if_pos rfl]
      show 2 + _ = _
      rw [List.length_cons, List.length_cons]
      omega
    · rw [if_neg h, if_neg h, if_neg (by decide)]
      show 1 + _ = _
      rw [List.length_cons]
      omega
theorem ma_sp_at {ad : Int → Nat} : ∀ (as : List ma_V) (k i : Nat) (v : ma_V), (ma_sp as)[i]? = some v → v.1 ≤ 2 → (k + i, ma_tv ad v) ∈ lv_args k (as.map (ma_tv ad))
  | [], _, i, _, h, _ => by simp [ma_sp] at h
  | a :: r, k, i, v, h, hv => by
    rw [List.map_cons]
    show _ ∈ (k, ma_tv ad a) :: lv_args (if (ma_tv ad a).category = 2 then k + 2 else k + 1) (r.map (ma_tv ad))
    rw [ma_catE]
    rw [ma_sp_c] at h
    by_cases ha : a.1 = 1
    · rw [if_pos ha] at h
      rw [if_pos ha, if_pos rfl]
      rcases i with _ | _ | i
      · cases h
        exact List.mem_cons_self
      · cases h
        exact absurd hv (by decide)
      · have := ma_sp_at (ad := ad) r (k + 2) i v h hv
        rw [show k + (i + 1 + 1) = k + 2 + i by omega]
        exact List.mem_cons_of_mem _ this
    · rw [if_neg ha] at h
      rw [if_neg ha, if_neg (by decide)]
      rcases i with _ | i
      · cases h
        exact List.mem_cons_self
      · have := ma_sp_at (ad := ad) r (k + 1) i v h hv
        rw [show k + (i + 1) = k + 1 + i by omega]
        exact List.mem_cons_of_mem _ this
theorem ma_entry {ad : Int → Nat} {as : List ma_V} {nL : Nat} (hle : (ma_sp as).length ≤ nL) : ma_LR ad ((lg_sl (as.map (ma_tv ad)) ++ List.replicate (nL - (lg_sl (as.map (ma_tv ad))).length) Slot.unset).toArray) nL (ma_en as nL) := by
  have h := lv_entry (as.map (ma_tv ad)) (n := nL) (by rw [ma_sp_len]; exact hle)
  refine ⟨by unfold ma_en; rw [List.length_append, List.length_replicate]; omega, h.1, h.2.1, fun q hq => ?_⟩
  obtain ⟨w, h1, h2, h3⟩ := ma_lv_mem.mp hq
  unfold ma_en at h1
  by_cases hi : q.1 < (ma_sp as).length
  · rw [List.getElem?_append_left hi] at h1
    have h4 := ma_sp_at (ad := ad) as 0 q.1 w h1 h2
    rw [Nat.zero_add, ← h3] at h4
    exact h.2.2 q h4
  · rw [List.getElem?_append_right (by omega)] at h1
    have h4 := List.eq_of_mem_replicate (List.mem_of_getElem? h1)
    rw [h4] at h2
    exact absurd h2 (by decide)
theorem ma_sp_ok {n : Nat} : ∀ as : List ma_V, ma_oks n as → ma_okl n (ma_sp as)
  | [], _ => fun v hv => by cases hv
  | a :: r, h => by
    have ih := ma_sp_ok r (ma_oks_t h)
    intro v hv
    rw [ma_sp_c] at hv
    split at hv
    · rcases List.mem_cons.mp hv with rfl | hv
      · exact Or.inr (ma_oks_h h)
      · rcases List.mem_cons.mp hv with rfl | hv
        · exact Or.inl rfl
        · exact ih v hv
    · rcases List.mem_cons.mp hv with rfl | hv
      · exact Or.inr (ma_oks_h h)
      · exact ih v hv
theorem ma_en_ok {n nL : Nat} {as : List ma_V} (h : ma_oks n as) : ma_okl n (ma_en as nL) := by
  intro v hv
  unfold ma_en at hv
  rcases List.mem_append.mp hv with hv | hv
  · exact ma_sp_ok as h v hv
  · rw [List.eq_of_mem_replicate hv]
    exact Or.inl rfl
/-! contracts -/
def ma_PR (D : va_G) (cA : Nat → ClassId) (b L : Nat) (xs : Nat → Int32) (ad : Int → Nat) (sh : ma_S) (M : ma_M) (sz : Nat) (U : State) : Prop :=
  U.heap.size = sz ∧ va_P D ma_cl (ma_ws ad cA sh M) U.heap ∧ va_K D ma_cl (ma_ty cA) U ∧ va_D (fun _ => True) (ma_ws ad cA sh M) ∧ (∀ w ∈ ma_NW, va_Nw w U) ∧ ma_AO U ∧ va_X b L xs U U.heap ∧ b < sz ∧ ∀ (k : Nat) (e : va_E), (ma_ws ad cA sh M)[k]? ≠ some (b, e)
def ma_PO (b L : Nat) (xs : Nat → Int32) (ad : Int → Nat) (n : Nat) (sh' : ma_S) (M' : ma_M) (r : Option ma_V) (u : Int → Nat) : Prop :=
  (∀ x : Int, x < n → u x = ad x) ∧ ma_MO sh' M' ∧ (M' (-2) (-1) = (L : Int) ∧ ∀ j : Nat, j < L → M' (-2) (j : Int) = (xs j).toInt) ∧ ∀ v, r = some v → ma_ok sh'.length v
def ma_BO (D : va_G) (cA : Nat → ClassId) (A : Nat → Prop) (sh' : ma_S) (M' : ma_M) (u : Int → Nat) (t : State) : Prop := va_P D ma_cl (ma_ws u cA sh' M') t.heap ∧ va_K D ma_cl (ma_ty cA) t ∧ va_D A (ma_ws u cA sh' M')
def ma_QC (D : va_G) (cA : Nat → ClassId) (A : Nat → Prop) (b L : Nat) (xs : Nat → Int32) (ad : Int → Nat) (n : Nat) (sh' : ma_S) (M' : ma_M) (r : Option ma_V) : Array Value → State → Outcome → State → Prop := match r with
  | none => va_Qv (ma_PO b L xs ad n sh' M' none) (ma_BO D cA A sh' M') A
  | some v => if v.1 = 0 then va_Qi (fun (x : Int32) (u : Int → Nat) => x = Int32.ofInt v.2 ∧ ma_PO b L xs ad n sh' M' (some v) u) (ma_BO D cA A sh' M') A else va_Ql (fun (x : Int64) (u : Int → Nat) => x = Int64.ofInt v.2 ∧ ma_PO b L xs ad n sh' M' (some v) u) (ma_BO D cA A sh' M') A
def ma_rm (h q mc ms : Nat) : Room := { frames := h, cells := mc, slots := ms, locals := q }
def ma_ctx (p : Program) (R : Room) (s : State) (m : MethodId) (args : Array Value) (meth : Method) (c : Code) (D : va_G) (cA : Nat → ClassId) (A : Nat → Prop) (b L : Nat) (xs : Nat → Int32) (mid : Nat) : Prop :=
  (p.tables.exec = Jvm.exec ∧ c.code = ma_b mid ∧ c.maxLocals = ma_mL mid ∧ s.vm.findClass (ma_y mid).cls = some m.cls) ∧ ((∀ w ∈ ma_W, w.before args s = true) ∧ (∀ w ∈ ma_NW, va_Nw w s) ∧ ma_AO s ∧ va_K D ma_cl (ma_ty cA) s) ∧ ((∀ q, s.heap.size ≤ q → A q) ∧ va_X b L xs s s.heap ∧ L ≤ 2147483647 ∧ b < s.heap.size ∧ ¬ A b) ∧ ((ma_y mid).name = "<init>" → meth.name = "<init>") ∧ ma_q mid ≤ R.locals ∧ ma_h mid ≤ R.frames
