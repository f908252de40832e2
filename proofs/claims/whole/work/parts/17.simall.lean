theorem ma_rt : ∀ (n mid pc : Nat) (al st : List ma_V) (sh : ma_S) (M : ma_M) (r : Option ma_V) (sh' : ma_S) (M' : ma_M), ma_ex n mid pc al st sh M = some (r, sh', M') → ∀ v, r = some v → v.1 = 0 ∨ v.1 = 1
  | 0, _, _, _, _, _, _, _, _, _, h => by cases h
  | n + 1, mid, pc, al, st, sh, M, r, sh', M', h => by
    obtain ⟨ins, len, lk, -, h1 | h1 | h1 | h1 | h1⟩ := ma_bd_i (f := ma_ex n) h
    · obtain ⟨_, _, -, h2⟩ := h1
      exact ma_rt n _ _ _ _ _ _ _ _ _ h2
    · obtain ⟨_, _, -, h2⟩ := h1
      exact ma_rt n _ _ _ _ _ _ _ _ _ h2
    · obtain ⟨_, _, _, -, h2⟩ := h1
      exact ma_rt n _ _ _ _ _ _ _ _ _ h2
    · obtain ⟨r1, h2, h3⟩ := h1
      cases h3
      intro v hv
      subst hv
      unfold ma_s4 at h2
      split at h2
      · split at h2
        · split at h2
          · next hc => cases h2; exact Or.inl hc.1
          · cases h2
        · cases h2
      · split at h2
        · split at h2
          · next hc => cases h2; exact Or.inr hc
          · cases h2
        · cases h2
      · split at h2
        · cases h2
        · cases h2
      · cases h2
    · obtain ⟨_, _, _, _, _, _, -, -, h2⟩ := h1
      exact ma_rt n _ _ _ _ _ _ _ _ _ h2
theorem ma_stk {ad : Int → Nat} (st : List ma_V) (na : Nat) : st.map (ma_tv ad) = (((st.take na).reverse).map (ma_tv ad)).reverse ++ (st.drop na).map (ma_tv ad) := by
  rw [List.map_reverse, List.reverse_reverse, ← List.map_append, List.take_append_drop]
theorem ma_toL {ad : Int → Nat} (r : Option ma_V) (rest : List ma_V) : (r.map (ma_tv ad)).toList ++ rest.map (ma_tv ad) = (r.toList ++ rest).map (ma_tv ad) := by
  cases r <;> rfl
section CALL
variable {l : Launch} {p : Program} {e : Env} {R : Room} {s : State} {m : MethodId} {args : Array Value} {below : List Frame} {meth : Method} {c : Code} {H : Heap} {locs : List Loc} {cells slots : Nat}
variable {pc : Nat} {ls : Array Slot} {ad : Int → Nat} {D : va_G} {cA : Nat → ClassId} {A : Nat → Prop} {b L : Nat} {xs : Nat → Int32} {sh sh' : ma_S} {M M' : ma_M} {r : Option ma_V}
set_option maxHeartbeats 4000000 in
set_option maxRecDepth 100000 in
theorem ma_call {n : Nat} (IH : ma_SIM l n) {mid : Nat} (C : ma_ctx p R s m args meth c D cA A b L xs mid) (G : ma_G D ma_cl cA A s.heap b L xs ad sh M H locs) (hsz : ls.size = ma_mL mid) {ins : Instr} {len : Nat} {lk : List Int} (hd : decode (ma_b mid) pc = .ok (ins, len)) (hck : ma_ck mid ins len lk = true) {st as rest : List ma_V} {mid' : Nat} (h5 : ma_s5 ins lk st sh = some (mid', as, rest)) (ho : ma_oks sh.length st) (hrun : ma_ex n mid' 0 (ma_en as (ma_mL mid')) [] sh M = some (r, sh', M')) (hc : cells + (sh'.length - sh.length) ≤ R.cells) (hs : slots + (ma_sz sh' - ma_sz sh) ≤ R.slots) :
    len = 3 ∧ ma_oks sh.length rest ∧ ∃ a, va_Run p l e R s m args below meth c H locs cells slots (sh'.length - sh.length) (ma_sz sh' - ma_sz sh) (F0 m pc ls (st.map (ma_tv ad))) (rest.map (ma_tv ad)) (ma_QC D cA (va_A (ma_ws ad cA sh M) H.size) b L xs ad sh.length sh' M' r a) (va_A (ma_ws ad cA sh M) H.size) := by
  obtain ⟨⟨hx, hb, hml, hown⟩, ⟨hts, hN, hg, hK⟩, ⟨hA, hX, hL, hbl, hbA⟩, hin, hR1, hR2⟩ := C
  have hpr : ∀ U : State, U.heap = H → s.WarmedH U.vm → ma_PR D cA b L xs ad sh M H.size U := fun U hU hW => ma_PR_at hK hN hg hX hbl hbA G hU hW
  cases ins
  case invokevirtual i =>
    rcases lk with _ | ⟨mm, _ | ⟨na, _ | ⟨ci, _ | ⟨z, t⟩⟩⟩⟩
    case cons.cons.cons.nil =>
      have h0 : (match st.drop na.toNat with
        | o :: r => if ((o.1 = 2 ∧ na.toNat ≤ st.length) ∧ 0 ≤ ma_al sh o.2 (ci.toNat + 4)) ∧ (ma_sp (o :: (st.take na.toNat).reverse)).length ≤ ma_mL mm.toNat ∧ (r.map (fun v : ma_V => if v.1 = 1 then 2 else 1)).sum ≤ 8 then some (mm.toNat, o :: (st.take na.toNat).reverse, r) else none
        | [] => none) = some (mid', as, rest) := h5
      cases hdr : st.drop na.toNat with
      | nil => rw [hdr] at h0; cases h0
      | cons o r0 =>
        rw [hdr] at h0
        simp only at h0
        split at h0
        · next hc1 =>
          cases h0
          obtain ⟨⟨⟨ht, hna⟩, hal⟩, hle, hsum⟩ := hc1
          obtain ⟨t0, ov⟩ := o
          obtain rfl : t0 = 2 := ht
          have hck1 : (len == 3 && (ma_ckm mid mm.toNat na.toNat && ma_ckv mid i mm.toNat ci.toNat)) = true := hck
          simp only [Bool.and_eq_true, beq_iff_eq] at hck1
          obtain ⟨rfl, hcm, hcv⟩ := hck1
          unfold ma_ckm at hcm
          simp only [Bool.and_eq_true, decide_eq_true_eq] at hcm
          obtain ⟨⟨⟨⟨⟨⟨hlt, hnl⟩, hh⟩, hq⟩, hmh⟩, hpar⟩, hini⟩ := hcm
          unfold ma_ckv at hcv
          cases hcl : ma_cl[ci.toNat]? with
          | none => rw [hcl] at hcv; cases hcv
          | some q =>
            rw [hcl] at hcv
            simp only [Bool.and_eq_true, decide_eq_true_eq] at hcv
            obtain ⟨⟨⟨hqc, w1⟩, w2⟩, w3⟩ := hcv
            have hod : ma_oks sh.length ((2, ov) :: rest) := fun v hv => ho v (List.mem_of_mem_drop (by rw [hdr]; exact hv))
            have hot : ma_oks sh.length (st.take na.toNat).reverse := fun v hv => ho v (List.mem_of_mem_take (List.mem_reverse.mp hv))
            obtain ⟨oq, on, rfl, hsq, -⟩ := ma_al_i hal
            have hwq := ma_ws_at (ad := ad) (cA := cA) (M := M) hsq
            rw [ma_ce_o] at hwq
            have hmet := ma_met IH hlt hrun hle (D := D) (cA := cA) (b := b) (L := L) (xs := xs) (ad := ad) (sz := H.size) hL G.2.2.2.1 G.2.2.2.2.1 G.2.2.2.2.2.1 G.2.2.2.2.2.2 (ma_oks_c (ma_oks_h hod) hot)
            rw [List.map_cons, ma_tv2 ad (show (oq : Int) ≠ -1 by omega)] at hmet
            have hstk := ma_stk (ad := ad) st na.toNat
            rw [hdr, List.map_cons, ma_tv2 ad (show (oq : Int) ≠ -1 by omega)] at hstk
            refine ⟨rfl, ma_oks_t hod, _, va_runV (C := (ma_y mm.toNat).cls) (b := ad (oq : Int)) (As := ((st.take na.toNat).reverse).map (ma_tv ad)) (nL := ma_mL mid) (Ts := ma_W) (own := (ma_y mid).cls) (n := na.toNat) ⟨hx, hb, hml, hown, hts⟩ hmet ⟨callB_of na.toNat hts (ma_gi hlt hnl) rfl rfl rfl (hts _ (ma_wm_in _ _ hini)) (hts _ (ma_wo_in _ _ w1)) ⟨hmh.1, hmh.2, hpar⟩ ⟨by show ma_h mm.toNat + 1 ≤ _; omega, by show 8 + (ma_mL mm.toNat + 11) + ma_q mm.toNat ≤ _; omega⟩, hts _ (ma_wm_in _ _ w2), hts _ (ma_wm_in _ _ w3)⟩ ⟨ma_PR_blind, ?_, fun U hU hW => ⟨rfl, hpr U hU hW⟩⟩ rfl (by rw [List.length_map, List.length_reverse, List.length_take]; omega) hsz hstk (lv_room (by rw [ma_cats]; exact hsum)) hd ⟨hc, hs⟩⟩
            obtain ⟨cell, c1, c2, c3⟩ := va_recv hK G.1 hcl hwq
            exact ⟨cell, c1, c2, by rw [← hqc]; exact c3⟩
        · cases h0
    all_goals exact nomatch (show (none : Option (Nat × List ma_V × List ma_V)) = some (mid', as, rest) from h5)
  case invokestatic i =>
    rcases lk with _ | ⟨mm, _ | ⟨na, _ | ⟨z, t⟩⟩⟩
    case cons.cons.nil =>
      have h0 : (if (na.toNat ≤ st.length ∧ (ma_sp (st.take na.toNat).reverse).length ≤ ma_mL mm.toNat) ∧ ((st.drop na.toNat).map (fun v : ma_V => if v.1 = 1 then 2 else 1)).sum ≤ 8 then some (mm.toNat, (st.take na.toNat).reverse, st.drop na.toNat) else none) = some (mid', as, rest) := h5
      split at h0
      · next hc1 =>
        cases h0
        obtain ⟨⟨hna, hle⟩, hsum⟩ := hc1
        have hck1 : (len == 3 && (ma_ckm mid mm.toNat na.toNat && ma_cks mid i mm.toNat)) = true := hck
        simp only [Bool.and_eq_true, beq_iff_eq] at hck1
        obtain ⟨rfl, hcm, hcv⟩ := hck1
        unfold ma_ckm at hcm
        simp only [Bool.and_eq_true, decide_eq_true_eq] at hcm
        obtain ⟨⟨⟨⟨⟨⟨hlt, hnl⟩, hh⟩, hq⟩, hmh⟩, hpar⟩, hini⟩ := hcm
        unfold ma_cks at hcv
        simp only [Bool.and_eq_true, decide_eq_true_eq] at hcv
        obtain ⟨w1, w2⟩ := hcv
        have hod : ma_oks sh.length (st.drop na.toNat) := fun v hv => ho v (List.mem_of_mem_drop hv)
        have hot : ma_oks sh.length (st.take na.toNat).reverse := fun v hv => ho v (List.mem_of_mem_take (List.mem_reverse.mp hv))
        have hmet := ma_met IH hlt hrun hle (D := D) (cA := cA) (b := b) (L := L) (xs := xs) (ad := ad) (sz := H.size) hL G.2.2.2.1 G.2.2.2.2.1 G.2.2.2.2.2.1 G.2.2.2.2.2.2 hot
        exact ⟨rfl, hod, _, va_runS (As := ((st.take na.toNat).reverse).map (ma_tv ad)) (nL := ma_mL mid) (Ts := ma_W) (own := (ma_y mid).cls) (n := na.toNat) ⟨hx, hb, hml, hown, hts⟩ hmet ⟨callB_of na.toNat hts (ma_gi hlt hnl) rfl rfl rfl (hts _ (ma_wm_in _ _ hini)) (hts _ (ma_wo_in _ _ w1)) ⟨hmh.1, hmh.2, hpar⟩ ⟨by show ma_h mm.toNat + 1 ≤ _; omega, by show 8 + (ma_mL mm.toNat + 11) + ma_q mm.toNat ≤ _; omega⟩, hts _ (ma_wm_in _ _ w2)⟩ ⟨ma_PR_blind, fun U hU hW => ⟨rfl, hpr U hU hW⟩⟩ rfl (by rw [List.length_map, List.length_reverse, List.length_take]; omega) hsz (ma_stk st na.toNat) (lv_room (by rw [ma_cats]; exact hsum)) hd ⟨hc, hs⟩⟩
      · cases h0
    all_goals exact nomatch (show (none : Option (Nat × List ma_V × List ma_V)) = some (mid', as, rest) from h5)
  case invokespecial i =>
    rcases lk with _ | ⟨mm, _ | ⟨z, t⟩⟩
    case cons.nil =>
      rcases st with _ | ⟨⟨t0, ov⟩, r0⟩
      · exact nomatch (show (none : Option (Nat × List ma_V × List ma_V)) = some (mid', as, rest) from h5)
      · have h0 : (if ((t0 = 2 ∧ ov ≠ -1) ∧ (ma_sp [(t0, ov)]).length ≤ ma_mL mm.toNat) ∧ (r0.map (fun v : ma_V => if v.1 = 1 then 2 else 1)).sum ≤ 8 then some (mm.toNat, [(t0, ov)], r0) else none) = some (mid', as, rest) := h5
        split at h0
        · next hc1 =>
          cases h0
          obtain ⟨⟨⟨rfl, hov⟩, hle⟩, hsum⟩ := hc1
          have hck1 : (len == 3 && (ma_ckm mid mm.toNat 0 && ma_cki mid i mm.toNat)) = true := hck
          simp only [Bool.and_eq_true, beq_iff_eq] at hck1
          obtain ⟨rfl, hcm, hcv⟩ := hck1
          unfold ma_ckm at hcm
          simp only [Bool.and_eq_true, decide_eq_true_eq] at hcm
          obtain ⟨⟨⟨⟨⟨⟨hlt, hnl⟩, hh⟩, hq⟩, hmh⟩, hpar⟩, hini⟩ := hcm
          unfold ma_cki at hcv
          simp only [Bool.and_eq_true, Bool.or_eq_true, decide_eq_true_eq] at hcv
          obtain ⟨⟨⟨w1, w2⟩, w3⟩, w4⟩ := hcv
          have hmet := ma_met IH hlt hrun hle (D := D) (cA := cA) (b := b) (L := L) (xs := xs) (ad := ad) (sz := H.size) hL G.2.2.2.1 G.2.2.2.2.1 G.2.2.2.2.2.1 G.2.2.2.2.2.2 (ma_oks_c (ma_oks_h ho) (fun v hv => by cases hv))
          rw [List.map_cons, List.map_nil, ma_tv2 ad hov] at hmet
          rw [List.map_cons, ma_tv2 ad hov]
          have hcwe : ma_cw mm.toNat = Cond.code (ma_y mm.toNat) (ma_b mm.toNat) (ma_mL mm.toNat) none := by
            unfold ma_cw
            rw [w4]
          rcases w1 with w1 | w1
          · exact ⟨rfl, ma_oks_t ho, _, va_runI (As := []) (b := ad ov) (nL := ma_mL mid) (Ts := ma_W) (own := (ma_y mid).cls) (n := 0) ⟨hx, hb, hml, hown, hts⟩ hmet ⟨callB_of 0 hts (ma_gi hlt hnl) (by rw [hcwe]) rfl rfl (hts _ (ma_wm_in _ _ hini)) (hts _ (ma_wo_in _ _ w1)) ⟨hmh.1, hmh.2, hpar⟩ ⟨by show ma_h mm.toNat + 1 ≤ _; omega, by show 8 + (ma_mL mm.toNat + 11) + ma_q mm.toNat ≤ _; omega⟩, w3, hts _ (ma_wm_in _ _ w2)⟩ ⟨ma_PR_blind, fun U hU hW => ⟨rfl, hpr U hU hW⟩⟩ rfl rfl hsz rfl (lv_room (by rw [ma_cats]; exact hsum)) hd ⟨hc, hs⟩⟩
          · exact ⟨rfl, ma_oks_t ho, _, va_runIN (As := []) (b := ad ov) (nL := ma_mL mid) (Ts := ma_W) (own := (ma_y mid).cls) (n := 0) ⟨hx, hb, hml, hown, hts⟩ hmet ⟨va_cnB 0 hts (ma_gi hlt hnl) (by rw [hcwe]) rfl rfl (hN _ w1) (hts _ (ma_wm_in _ _ hini)) ⟨hmh.1, hmh.2, hpar⟩ ⟨by show ma_h mm.toNat + 1 ≤ _; omega, by show 8 + (ma_mL mm.toNat + 11) + ma_q mm.toNat ≤ _; omega⟩, w3, hts _ (ma_wm_in _ _ w2)⟩ ⟨ma_PR_blind, fun U hU hW => ⟨rfl, hpr U hU hW⟩⟩ rfl rfl hsz rfl (lv_room (by rw [ma_cats]; exact hsum)) hd ⟨hc, hs⟩⟩
        · cases h0
    all_goals exact nomatch (show (none : Option (Nat × List ma_V × List ma_V)) = some (mid', as, rest) from h5)
  all_goals exact nomatch (show (none : Option (Nat × List ma_V × List ma_V)) = some (mid', as, rest) from h5)
end CALL
set_option maxHeartbeats 4000000 in
theorem ma_sim (l : Launch) : ∀ n : Nat, ma_SIM l n := by
  intro n
  induction n with
  | zero => intro mid pc al st sh M r sh' M' h; cases h
  | succ n IH =>
    intro mid pc al st sh M r sh' M' h p e R s m args below meth c D cA A b L xs Q C ad ls H locs cells slots G hLR ha ho hc hs hend
    obtain ⟨ins, len, lk, hlk, h1⟩ := ma_bd_i (f := ma_ex n) h
    obtain ⟨hd, hck⟩ := ma_dec hlk
    obtain ⟨⟨hx, hb, hml, hown⟩, ⟨hts, hN, hg, hK⟩, ⟨hA, hX, hL, hbl, hbA⟩, hin, hR1, hR2⟩ := C
    have C : ma_ctx p R s m args meth c D cA A b L xs mid := ⟨⟨hx, hb, hml, hown⟩, ⟨hts, hN, hg, hK⟩, ⟨hA, hX, hL, hbl, hbA⟩, hin, hR1, hR2⟩
    have hsz : ls.size = ma_mL mid := hLR.2.1
    rcases h1 with h1 | h1 | h1 | h1 | h1
    · obtain ⟨al', st', h2, h3⟩ := h1
      obtain ⟨q1, q2, rfl⟩ := ma_ck1 hck h2
      exact ma_sim1 hx hb hown (fun i v z1 z2 => hts _ (ma_wo_in _ _ (q1 i v z1 z2))) (fun i v z1 z2 => hts _ (ma_wo_in _ _ (q2 i v z1 z2))) hd h2 hLR ha ho (fun ls' hL' ha' ho' => IH mid _ al' st' sh M r sh' M' h3 p e R s m args below meth c D cA A b L xs Q C ad ls' H locs cells slots G hL' ha' ho' hc hs hend)
    · obtain ⟨pc', st', h2, h3⟩ := h1
      exact ma_sim2 hx hb hd (ma_ck2 hck h2) h2 ho (fun ho' => IH mid _ al st' sh M r sh' M' h3 p e R s m args below meth c D cA A b L xs Q C ad ls H locs cells slots G hLR ha ho' hc hs hend)
    · obtain ⟨st', sh1, M1, h2, h3⟩ := h1
      obtain ⟨e1, he1⟩ := ma_s3_grow h2
      obtain ⟨e2, he2⟩ := ma_grow n _ _ _ _ _ _ _ _ _ h3
      obtain ⟨g1, g2⟩ := ma_grow_l he1
      obtain ⟨g3, g4⟩ := ma_grow_l he2
      refine ma_sim3 hx hb (by rw [hml, hsz]) hown hts hg hK hA hX hL hbl hbA hin hR1 hR2 hd hck h2 ho G (by omega) (by omega) (by omega) (by omega) (fun ad' H' locs' hext G' ho' => ?_)
      refine IH mid _ al st' sh1 M1 r sh' M' h3 p e R s m args below meth c D cA A b L xs Q C ad' ls H' locs' _ _ G' (ma_LR_eq hLR ha hext) (fun v hv => (ha v hv).imp id (ma_ok_le g1)) ho' (by omega) (by omega) (fun ad2 ls2 H2 locs2 pc2 ins2 len2 lk2 st2 hext2 a1 a2 a3 a4 => ?_)
      have k1 := hend ad2 ls2 H2 locs2 pc2 ins2 len2 lk2 st2 (fun x hx => (hext2 x (by omega)).trans (hext x hx)) a1 a2 a3 a4
      rw [show cells + (sh1.length - sh.length) + (sh'.length - sh1.length) = cells + (sh'.length - sh.length) by omega, show slots + (ma_sz sh1 - ma_sz sh) + (ma_sz sh' - ma_sz sh1) = slots + (ma_sz sh' - ma_sz sh) by omega]
      exact k1
    · obtain ⟨r1, h2, h3⟩ := h1
      cases h3
      have k1 := hend ad ls H locs pc ins len lk st (fun _ _ => rfl) hlk h2 G ho
      rw [Nat.sub_self, Nat.sub_self, Nat.add_zero, Nat.add_zero] at k1
      exact k1
    · obtain ⟨mid', as, rest, r1, sh1, M1, h5, hcall, h3⟩ := h1
      obtain ⟨e1, he1⟩ := ma_grow n _ _ _ _ _ _ _ _ _ hcall
      obtain ⟨e2, he2⟩ := ma_grow n _ _ _ _ _ _ _ _ _ h3
      obtain ⟨g1, g2⟩ := ma_grow_l he1
      obtain ⟨g3, g4⟩ := ma_grow_l he2
      obtain ⟨rfl, hor, a, hrun⟩ := ma_call (p := p) (e := e) (below := below) (locs := locs) (cells := cells) (slots := slots) IH C G hsz hd hck h5 ho hcall (by omega) (by omega)
      refine ma_back hA G hrun (ma_rt n _ _ _ _ _ _ _ _ _ hcall) (fun u H1 locs1 hext G' hokr => ?_)
      rw [← ma_map_eq hor hext, ma_toL]
      refine IH mid _ al _ sh1 M1 r sh' M' h3 p e R s m args below meth c D cA A b L xs Q C u ls H1 locs1 _ _ G' (ma_LR_eq hLR ha hext) (fun v hv => (ha v hv).imp id (ma_ok_le g1)) ?_ (by omega) (by omega) (fun ad2 ls2 H2 locs2 pc2 ins2 len2 lk2 st2 hext2 a1 a2 a3 a4 => ?_)
      · intro v hv
        rcases List.mem_append.mp hv with hv | hv
        · exact hokr v (Option.mem_toList.mp hv)
        · exact ma_ok_le g1 (hor v hv)
      · have k1 := hend ad2 ls2 H2 locs2 pc2 ins2 len2 lk2 st2 (fun x hx => (hext2 x (by omega)).trans (hext x hx)) a1 a2 a3 a4
        rw [show cells + (sh1.length - sh.length) + (sh'.length - sh1.length) = cells + (sh'.length - sh.length) by omega, show slots + (ma_sz sh1 - ma_sz sh) + (ma_sz sh' - ma_sz sh1) = slots + (ma_sz sh' - ma_sz sh) by omega]
        exact k1
