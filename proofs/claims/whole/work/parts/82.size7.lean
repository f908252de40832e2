set_option maxHeartbeats 1000000 in
theorem mm_size {M S : ma_M} (hI : mr_INV M) (hFS : mr_FIX S) (hS : ∀ c k, 80 ≤ c → c ≤ 89 → S c k = M c k) {Q : Option ma_V → ma_S → ma_M → Prop} (cont : ∀ S2 : ma_M, (∀ c x, ¬ (90 ≤ c ∧ c ≤ 98) → S2 c x = S c x) → Q (some (0, mc_n M (mt_V M (mt_L (M 50) (M 51))))) mr_SH S2) : mr_do 107 [(2, 80)] mr_SH S Q := by
  have hN := hI.2.1.1.2.1
  have hN0 := hI.2.1.1.1
  have hO0 := hI.2.1.2.2.1
  have hO := hI.2.1.2.2.2.1
  have hL : mt_Lb M (mt_L (M 50) (M 51)) := mt_L_b (mr_pt1 hI 50 (by omega)) (mr_pt1 hI 51 (by omega))
  simp (disch := (first | assumption | omega | ((repeat (refine mr_FIX_up ?_ (by unfold mr_nst; omega))); assumption))) only [x107, s107_0, x107_1, x107_2, x107_3, s107_4]
  refine mm_aimS hI hFS hS (D := M 51) (Or.inr rfl) (fun u _ _ => by rw [if_pos rfl]) (fun S1 hf1 hl1 => ?_)
  have hF1 : mr_FIX S1 := md_fr hFS (p := fun c => c = 90) (fun c x hc => hf1 c x hc) (fun c hc => by omega)
  simp only [Option.toList_some, Option.toList_none, List.cons_append, List.nil_append]
  simp (disch := (first | assumption | omega | ((repeat (refine mr_FIX_up ?_ (by unfold mr_nst; omega))); assumption))) only [s107_7, s107_8]
  refine mm_sweepS hI hF1 (fun c k a b => (hf1 c k (by omega)).trans (hS c k a b)) hL hl1 (fun S2 hf2 hag => ?_)
  have hF2 := mm_fs_F hF1 hf2
  have hR2 : mc_rp M S2 (mt_V M (mt_L (M 50) (M 51))) := ⟨hF2, fun c k a b => (hf2 c k (by omega) (by omega) (by omega) (by omega)).trans ((hf1 c k (by omega)).trans (hS c k a b)), fun u u0 u1 => ⟨by have := (hag u u0 u1).1 0 (by decide) (by decide); rwa [Int.add_zero] at this, (hag u u0 u1).2.1⟩⟩
  simp only [Option.toList_some, Option.toList_none, List.cons_append, List.nil_append]
  simp (disch := (first | assumption | omega | ((repeat (refine mr_FIX_up ?_ (by unfold mr_nst; omega))); assumption))) only [x107_11, x107_12]
  refine mc_ref1 hI hL hR2 (fun S3 hf3 hv3 => ?_) 25 0 S2 (by omega) (by decide) hN0 (fun _ _ _ _ => rfl) (fun u a b => by omega)
  have hR3 := mc_rp_k hR2 (S := S3) (fun c x hc => hf3 c x (by omega) (by omega))
  simp (disch := (first | assumption | omega | ((repeat (refine mr_FIX_up ?_ (by unfold mr_nst; omega))); assumption))) only [x107_84, x107_85]
  refine mc_ref2 hI hR3 (fun w a b => (hv3 w a b).1) (fun S4 a2 a3 hf4 hv4 => ?_) 25 0 S3 _ _ (by omega) (by decide) hN0 (fun _ _ _ => rfl) (fun p q a b => by omega)
  have hR4 := mc_rp_k hR3 (S := S4) (fun c x hc => hf4 c x (by omega))
  simp (disch := (first | assumption | omega | ((repeat (refine mr_FIX_up ?_ (by unfold mr_nst; omega))); assumption))) only [x107_144, x107_145]
  refine mc_ref4 hI hR4.1 hR4.2.1 (fun S5 hf5 hv5 => ?_) 6 0 S4 (by omega) (by omega) (fun _ _ _ => rfl) (fun w a b => (hf4 95 w (by decide)).trans (hv3 w a b).2)
  have hR5 := mc_rp_k hR4 (S := S5) (fun c x hc => hf5 c x (by omega))
  have hF5 := hR5.1
  have e80 : S5 80 0 = M 1 0 := (hR5.2.1 80 0 (by decide) (by decide)).trans hI.2.1.1.2.2
  simp (disch := (first | assumption | omega | ((repeat (refine mr_FIX_up ?_ (by unfold mr_nst; omega))); assumption))) only [s107_172, s107_173, x107_176, x107_177, x107_178, e80, ma_32i]
  have go := mc_ref5 hI hR5 (fun w a b => (hf5 97 w (by decide)).trans ((hf4 97 w (by decide)).trans (hv3 w a b).1)) (z4 := 0) (a2 := a2) (a3 := a3) (Q := Q) (fun S6 hf6 hv6 => ?_) 25 0 S5 (by omega) (by omega) (fun _ _ _ => rfl) hv5
  · rw [show M 1 0 - 1 - ((0 : Nat) : Int) = M 1 0 - 1 by omega] at go
    exact go
  · have hR6 := mc_rp_k hR5 (S := S6) (fun c x hc => hf6 c x (by omega))
    simp (disch := (first | assumption | omega | ((repeat (refine mr_FIX_up ?_ (by unfold mr_nst; omega))); assumption))) only [x107_253, x107_254, x107_255, x107_256]
    refine mc_ref6 hI hR6 hv6 (fun p q p0 p1 q0 q1 => (hf6 98 _ (by decide)).trans ((hf5 98 _ (by decide)).trans (hv4 p q p0 p1 q0 q1))) (cont S6 (fun c x hc => ?_)) 25 0 0 _ _ (by omega) (by omega) (mc_s0 _ _ (fun c _ _ => rfl)).symm (by decide) (by decide)
    rw [hf6 c x (by omega), hf5 c x (by omega), hf4 c x (by omega), hf3 c x (by omega) (by omega), hf2 c x (by omega) (by omega) (by omega) (by omega)]
    exact hf1 c x (by omega)
theorem mp_size : mr_p0 57 107 := by
  intro M hI
  unfold mr_pair
  obtain ⟨r1, sh1, M1, hrun, rfl, rfl, hI1, hf1⟩ := mc_size hI
  refine ⟨_, _, mr_SH, M1, hrun, rfl, rfl, fun x => hf1 (-2) x (by decide), ?_⟩
  refine mm_size hI hI1.1 (fun c k a b => hf1 c k (by omega)) (fun S2 hf2 => ?_)
  exact ⟨rfl, rfl, fun x => (hf2 (-2) x (by decide)).trans (hf1 (-2) x (by decide)), mr_keep95 hI1 (p := fun c => 90 ≤ c ∧ c ≤ 98) (fun c k hc => hf2 c k hc) (fun c hc => ⟨by unfold mr_scr; omega, by omega⟩)⟩
