/-! size: the reference's marks and counting -/
set_option maxHeartbeats 1000000 in
theorem mc_ref4 {M B : ma_M} (hI : mr_INV M) (hFB : mr_FIX B) (hB : ∀ c k, 80 ≤ c → c ≤ 89 → B c k = M c k) {z4 : Int} {a2 a3 : ma_V} {Q : Option ma_V → ma_S → ma_M → Prop} (cont : ∀ S : ma_M, (∀ c x, c ≠ 95 → S c x = B c x) → (∀ w, 0 ≤ w → w < M 1 0 → S 95 w = mc_o M (M 0 11).toNat w) → ma_wp 107 172 [(2, 80), (0, M 0 11), a2, a3, (3, z4)] [] mr_SH S Q) : ∀ (m : Nat) (i : Nat) (S : ma_M), (M 0 11 - i).toNat < m → (i : Int) ≤ M 0 11 → (∀ c x, c ≠ 95 → S c x = B c x) → (∀ w, 0 ≤ w → w < M 1 0 → S 95 w = mc_o M i w) → ma_wp 107 146 [(2, 80), (0, (i : Int)), a2, a3, (3, z4)] [] mr_SH S Q := by
  have hO := hI.2.1.2.2.2.1
  intro m
  induction m with
  | zero => intro i S h; omega
  | succ m ih =>
    intro i S hm h1 hfr hv
    have hF1 : mr_FIX S := md_fr hFB (p := fun c => c = 95) (fun c x hc => hfr c x hc) (fun c hc => by omega)
    have e9 : S 80 9 = M 0 11 := (hfr 80 9 (by decide)).trans ((hB 80 9 (by decide) (by decide)).trans hI.2.1.2.2.2.2)
    simp (disch := (first | assumption | omega | ((repeat (refine mr_FIX_up ?_ (by unfold mr_nst; omega))); assumption))) only [x107_146, s107_147, s107_148, x107_151, e9]
    refine ⟨fun h => ?_, fun h => ?_⟩
    · have e : (i : Int) = M 0 11 := by omega
      have e2 : i = (M 0 11).toNat := by omega
      rw [e2] at hv
      rw [e]
      exact cont S hfr hv
    · have ho := mz_o hI (show (0 : Int) ≤ i by omega) (show (i : Int) < M 0 11 by omega)
      have i5 : 0 ≤ (i : Int) ∧ (i : Int) < 5 := by omega
      have v24 : 0 ≤ M 54 i ∧ M 54 i < 24 := ⟨ho.1, ho.2.2.2⟩
      have e : S 88 i = M 54 i := (hfr 88 i (by decide)).trans ((hB 88 i (by decide) (by decide)).trans (hI.2.2.2.2.2.2.1 i (by omega) (by omega)).1)
      have nx : ma_wp 107 146 [(2, 80), (0, (i : Int) + 1), a2, a3, (3, z4)] [] mr_SH (ma_up S 95 (M 54 i) 1) Q := by
        rw [show (i : Int) + 1 = ((i + 1 : Nat) : Int) by omega]
        refine ih (i + 1) _ (by omega) (by omega) (fun c x hc => (ma_up_ne hc).trans (hfr c x hc)) (fun w w0 w1 => ?_)
        show _ = if w = M 54 i then (1 : Int) else mc_o M i w
        by_cases q : w = M 54 i
        · rw [if_pos q, q, ma_up_s]
        · rw [if_neg q, ma_up_ne2 q, hv w w0 w1]
      simp (disch := (first | assumption | omega | ((repeat (refine mr_FIX_up ?_ (by unfold mr_nst; omega))); assumption))) only [s107_154, s107_155, s107_158, s107_159, x107_162, s107_163, x107_164, s107_165, x107_166, x107_169, ma_32i, e]
      refine ⟨i5, ⟨v24, Or.inr trivial⟩, nx⟩
set_option maxHeartbeats 2000000 in
theorem mc_ref5 {M B : ma_M} (hI : mr_INV M) {V : Int → Int → Int} (hR : mc_rp M B V) (h97 : ∀ w, 0 ≤ w → w < M 1 0 → B 97 w = mc_F M V w) {z4 : Int} {a2 a3 : ma_V} {Q : Option ma_V → ma_S → ma_M → Prop} (cont : ∀ S : ma_M, (∀ c x, c ≠ 95 → S c x = B c x) → (∀ w, 0 ≤ w → w < M 1 0 → S 95 w = mc_l M V w) → ma_wp 107 253 [(2, 80), (0, -1), a2, a3, (3, z4)] [] mr_SH S Q) : ∀ (m : Nat) (k : Nat) (S : ma_M), (M 1 0 - k).toNat < m → (k : Int) ≤ M 1 0 → (∀ c x, c ≠ 95 → S c x = B c x) → (∀ w, 0 ≤ w → w < M 1 0 → S 95 w = mc_Lv M (mc_F M V) k w) → ma_wp 107 179 [(2, 80), (0, M 1 0 - 1 - k), a2, a3, (3, z4)] [] mr_SH S Q := by
  have hN := hI.2.1.1.2.1
  have hN0 := hI.2.1.1.1
  intro m
  induction m with
  | zero => intro k S h; omega
  | succ m ih =>
    intro k S hm h1 hfr hl
    have hR1 := mc_rp_k hR (S := S) (fun c x hc => hfr c x (by omega))
    have hF1 := hR1.1
    simp (disch := (first | assumption | omega | ((repeat (refine mr_FIX_up ?_ (by unfold mr_nst; omega))); assumption))) only [x107_179, x107_180]
    refine ⟨fun h => ?_, fun h => ?_⟩
    · have e : k = (M 1 0).toNat := by omega
      rw [show M 1 0 - 1 - (k : Int) = -1 by omega]
      rw [e] at hl
      exact cont S hfr hl
    · have es := mc_Lv_s M (mc_F M V) k
      have ek : M 1 0 - 1 - ((k + 1 : Nat) : Int) = M 1 0 - 1 - (k : Int) - 1 := by omega
      have nx : ∀ S2 : ma_M, (∀ c x, c ≠ 95 → S2 c x = B c x) → (∀ w, 0 ≤ w → w < M 1 0 → S2 95 w = mc_Lv M (mc_F M V) (k + 1) w) → ma_wp 107 179 [(2, 80), (0, M 1 0 - 1 - (k : Int) - 1), a2, a3, (3, z4)] [] mr_SH S2 Q := fun S2 a b => by
        have := ih (k + 1) S2 (by omega) (by omega) a b
        rwa [ek] at this
      generalize hx : M 1 0 - 1 - (k : Int) = x at *
      have x0 : 0 ≤ x := by omega
      have x1 : x < M 1 0 := by omega
      have x24 : 0 ≤ x ∧ x < 24 := by omega
      have e95 := hl x x0 x1
      have e97 : S 97 x = mc_F M V x := (hfr 97 x (by decide)).trans (h97 x x0 x1)
      obtain ⟨e81, e82, e5, e6⟩ := mc_nd hI hR1 x0 x1
      rcases mc_Lv01 M (mc_F M V) x k with g | g
      · have := nx S hfr (fun w w0 w1 => by rw [es, if_neg (by rw [g]; omega)]; exact hl w w0 w1)
        simp (disch := (first | assumption | omega | ((repeat (refine mr_FIX_up ?_ (by unfold mr_nst; omega))); assumption))) [s107_183, s107_184, x107_187, s107_188, x107_189, x107_247, x107_250, e95, g, x24, ma_32i]
        exact this
      · rcases mc_F01 hI V x0 x1 with f | f
        · by_cases op : M 2 x ≤ 6
          · have e82 := e82 op
            have ho := mc_op hI x0 x1 op
            have a24 : 0 ≤ M 3 x ∧ M 3 x < 24 := by omega
            have b24 : 0 ≤ M 4 x ∧ M 4 x < 24 := by omega
            have n7 : ¬ 7 ≤ M 2 x := by omega
            have hF2 : mr_FIX (ma_up S 95 (M 3 x) 1) := mr_FIX_up hF1 (by unfold mr_nst; omega)
            have e81' : ma_up S 95 (M 3 x) 1 81 x = M 2 x := (ma_up_ne (by decide)).trans e81
            by_cases k6 : M 2 x = 6
            · have := nx (ma_up S 95 (M 3 x) 1) (fun c y hc => (ma_up_ne hc).trans (hfr c y hc)) (fun w w0 w1 => by
                rw [es, (e6 k6).2]
                by_cases c3 : w = M 3 x
                · rw [if_pos ⟨⟨g, f, op⟩, Or.inl c3⟩, c3, ma_up_s]
                · rw [ma_up_ne2 c3, if_neg (fun z => z.2.elim c3 c3)]
                  exact hl w w0 w1)
              simp (disch := (first | assumption | omega | ((repeat (refine mr_FIX_up ?_ (by unfold mr_nst; omega))); assumption))) [s107_183, s107_184, x107_187, s107_188, x107_189, s107_192, s107_193, x107_196, s107_197, x107_198, s107_201, s107_202, x107_205, s107_206, x107_207, x107_209, s107_212, s107_213, s107_216, s107_217, x107_220, s107_221, x107_222, s107_223, s107_224, s107_225, x107_228, s107_229, x107_230, x107_232, s107_235, s107_236, s107_239, s107_240, x107_243, s107_244, x107_245, s107_246, x107_247, x107_250, e95, e97, e81, e82, e81', g, f, k6, x24, a24, ma_32i]
              exact this
            · have e83 : ma_up S 95 (M 3 x) 1 83 x = M 4 x := (ma_up_ne (by decide)).trans (e5 (by omega)).1
              have := nx (ma_up (ma_up S 95 (M 3 x) 1) 95 (M 4 x) 1) (fun c y hc => (ma_up_ne hc).trans ((ma_up_ne hc).trans (hfr c y hc))) (fun w w0 w1 => by
                rw [es]
                by_cases c4 : w = M 4 x
                · rw [if_pos ⟨⟨g, f, op⟩, Or.inr c4⟩, c4, ma_up_s]
                · rw [ma_up_ne2 c4]
                  by_cases c3 : w = M 3 x
                  · rw [if_pos ⟨⟨g, f, op⟩, Or.inl c3⟩, c3, ma_up_s]
                  · rw [ma_up_ne2 c3, if_neg (fun z => z.2.elim c3 c4)]
                    exact hl w w0 w1)
              simp (disch := (first | assumption | omega | ((repeat (refine mr_FIX_up ?_ (by unfold mr_nst; omega))); assumption))) [s107_183, s107_184, x107_187, s107_188, x107_189, s107_192, s107_193, x107_196, s107_197, x107_198, s107_201, s107_202, x107_205, s107_206, x107_207, x107_209, s107_212, s107_213, s107_216, s107_217, x107_220, s107_221, x107_222, s107_223, s107_224, s107_225, x107_228, s107_229, x107_230, x107_232, s107_235, s107_236, s107_239, s107_240, x107_243, s107_244, x107_245, s107_246, x107_247, x107_250, e95, e97, e81, e82, e81', e83, g, f, n7, k6, x24, a24, b24, ma_32i]
              exact this
          · have n7 : 7 ≤ M 2 x := by omega
            have := nx S hfr (fun w w0 w1 => by rw [es, if_neg (fun z => op z.1.2.2)]; exact hl w w0 w1)
            simp (disch := (first | assumption | omega | ((repeat (refine mr_FIX_up ?_ (by unfold mr_nst; omega))); assumption))) [s107_183, s107_184, x107_187, s107_188, x107_189, s107_192, s107_193, x107_196, s107_197, x107_198, s107_201, s107_202, x107_205, s107_206, x107_207, x107_209, x107_247, x107_250, e95, e97, e81, g, f, n7, x24, ma_32i]
            exact this
        · have := nx S hfr (fun w w0 w1 => by rw [es, if_neg (by rw [f]; omega)]; exact hl w w0 w1)
          simp (disch := (first | assumption | omega | ((repeat (refine mr_FIX_up ?_ (by unfold mr_nst; omega))); assumption))) [s107_183, s107_184, x107_187, s107_188, x107_189, s107_192, s107_193, x107_196, s107_197, x107_198, x107_247, x107_250, e95, e97, g, f, x24, ma_32i]
          exact this
/-- whether a live node is the first of its kind, seen from the nodes before u -/
def mc_fr (l m : Int → Int) (v : Int) (u : Nat) : Int := if l v = 1 ∧ mc_cn l m u (m v) = 0 then 1 else 0
theorem mc_fr_s {l m : Int → Int} {v : Int} {u : Nat} (h01 : l u = 0 ∨ l u = 1) : mc_fr l m v (u + 1) = if mc_fr l m v u = 1 ∧ ¬ (l u = 1 ∧ m u = m v) then 1 else 0 := by
  unfold mc_fr
  have e : mc_cn l m (u + 1) (m v) = if l u = 1 ∧ m u = m v then 1 else mc_cn l m u (m v) := rfl
  rw [e]
  by_cases h : l u = 1 ∧ m u = m v
  · rw [if_pos h, if_neg (by omega), if_neg (fun z => z.2 h)]
  · rw [if_neg h]
    by_cases q : l v = 1 ∧ mc_cn l m u (m v) = 0
    · rw [if_pos q, if_pos ⟨rfl, h⟩]
    · rw [if_neg q, if_neg (fun z => absurd z.1 (by decide))]
set_option maxHeartbeats 2000000 in
theorem mc_ref7 {M S : ma_M} (hI : mr_INV M) {V : Int → Int → Int} (hF : mr_FIX S) (h95 : ∀ w, 0 ≤ w → w < M 1 0 → S 95 w = mc_l M V w) (h98 : ∀ p q, 0 ≤ p → p < M 1 0 → 0 ≤ q → q < M 1 0 → S 98 (24 * p + q) = mc_b M V p q) {v t : Int} (v0 : 0 ≤ v) (v1 : v < M 1 0) {Q : Option ma_V → ma_S → ma_M → Prop} (cont : ma_wp 107 322 [(2, 80), (0, t), (0, v), (0, mc_fr (mc_l M V) (mc_m M V) v v.toNat), (0, v)] [] mr_SH S Q) : ∀ (m : Nat) (u : Nat), (v - u).toNat < m → (u : Int) ≤ v → ma_wp 107 275 [(2, 80), (0, t), (0, v), (0, mc_fr (mc_l M V) (mc_m M V) v u), (0, (u : Int))] [] mr_SH S Q := by
  have hN := hI.2.1.1.2.1
  intro m
  induction m with
  | zero => intro u h; omega
  | succ m ih =>
    intro u hm h1
    simp (disch := (first | assumption | omega | ((repeat (refine mr_FIX_up ?_ (by unfold mr_nst; omega))); assumption))) only [x107_275, x107_277, x107_278]
    refine ⟨fun h => ?_, fun h => ?_⟩
    · have e : (u : Int) = v := by omega
      have e2 : u = v.toNat := by omega
      rw [e, e2]
      exact cont
    · have u24 : 0 ≤ (u : Int) ∧ (u : Int) < 24 := by omega
      have i1 : 0 ≤ 24 * (u : Int) + v ∧ 24 * (u : Int) + v < 576 := by omega
      have e95 := h95 u (by omega) (by omega)
      have e98 := h98 u v (by omega) (by omega) v0 v1
      have l01 : mc_l M V u = 0 ∨ mc_l M V u = 1 := mc_Lv01 M (mc_F M V) u (M 1 0).toNat
      have nx := ih (u + 1) (by omega) (by omega)
      rw [mc_fr_s l01, show ((u + 1 : Nat) : Int) = (u : Int) + 1 by omega] at nx
      have f01 : mc_fr (mc_l M V) (mc_m M V) v u = 0 ∨ mc_fr (mc_l M V) (mc_m M V) v u = 1 := by unfold mc_fr; split <;> simp
      rcases f01 with f | f
      · rw [if_neg (by rw [f]; omega)] at nx
        rw [f]
        simp (disch := (first | assumption | omega | ((repeat (refine mr_FIX_up ?_ (by unfold mr_nst; omega))); assumption))) [x107_281, x107_282, s107_285, s107_286, x107_289, s107_291, x107_292, s107_295, s107_296, x107_299, x107_301, x107_303, x107_304, x107_305, s107_306, x107_307, x107_310, x107_311, x107_314, x107_315, x107_316, x107_319, ma_32i]
        exact nx
      · rw [f]
        rcases l01 with g | g
        · rw [if_pos ⟨f, by rw [g]; omega⟩] at nx
          simp (disch := (first | assumption | omega | ((repeat (refine mr_FIX_up ?_ (by unfold mr_nst; omega))); assumption))) [x107_281, x107_282, s107_285, s107_286, x107_289, s107_291, x107_292, s107_295, s107_296, x107_299, x107_301, x107_303, x107_304, x107_305, s107_306, x107_307, x107_310, x107_311, x107_314, x107_315, x107_316, x107_319, ma_32i, e95, g, u24]
          exact nx
        · unfold mc_b at e98
          by_cases c : mc_m M V u = mc_m M V v
          · rw [if_neg (fun z => z.2 ⟨g, c⟩)] at nx
            rw [if_pos c] at e98
            simp (disch := (first | assumption | omega | ((repeat (refine mr_FIX_up ?_ (by unfold mr_nst; omega))); assumption))) [x107_281, x107_282, s107_285, s107_286, x107_289, s107_291, x107_292, s107_295, s107_296, x107_299, x107_301, x107_303, x107_304, x107_305, s107_306, x107_307, x107_310, x107_311, x107_314, x107_315, x107_316, x107_319, ma_32i, e95, g, e98, u24, i1]
            exact nx
          · rw [if_pos ⟨f, fun z => c z.2⟩] at nx
            rw [if_neg c] at e98
            simp (disch := (first | assumption | omega | ((repeat (refine mr_FIX_up ?_ (by unfold mr_nst; omega))); assumption))) [x107_281, x107_282, s107_285, s107_286, x107_289, s107_291, x107_292, s107_295, s107_296, x107_299, x107_301, x107_303, x107_304, x107_305, s107_306, x107_307, x107_310, x107_311, x107_314, x107_315, x107_316, x107_319, ma_32i, e95, g, e98, u24, i1]
            exact nx
set_option maxHeartbeats 2000000 in
theorem mc_ref6 {M S : ma_M} (hI : mr_INV M) {V : Int → Int → Int} (hR : mc_rp M S V) (h95 : ∀ w, 0 ≤ w → w < M 1 0 → S 95 w = mc_l M V w) (h98 : ∀ p q, 0 ≤ p → p < M 1 0 → 0 ≤ q → q < M 1 0 → S 98 (24 * p + q) = mc_b M V p q) {Q : Option ma_V → ma_S → ma_M → Prop} (cont : Q (some (0, mc_n M V)) mr_SH S) : ∀ (m : Nat) (v : Nat) (t : Int) (a3 a4 : ma_V), (M 1 0 - v).toNat < m → (v : Int) ≤ M 1 0 → t = ms_s (mc_cn (mc_l M V) (mc_m M V) v) (M 1 0).toNat → 0 ≤ t → t ≤ v → ma_wp 107 257 [(2, 80), (0, t), (0, (v : Int)), a3, a4] [] mr_SH S Q := by
  have hN := hI.2.1.1.2.1
  have hN0 := hI.2.1.1.1
  have hF := hR.1
  have e80 : S 80 0 = M 1 0 := (hR.2.1 80 0 (by decide) (by decide)).trans hI.2.1.1.2.2
  intro m
  induction m with
  | zero => intro v t a3 a4 h; omega
  | succ m ih =>
    intro v t a3 a4 hm h1 ht t0 t1
    simp (disch := (first | assumption | omega | ((repeat (refine mr_FIX_up ?_ (by unfold mr_nst; omega))); assumption))) only [x107_257, s107_258, s107_259, x107_262, e80]
    refine ⟨fun h => ?_, fun h => ?_⟩
    · have e : v = (M 1 0).toNat := by omega
      rw [e] at ht
      simp (disch := (first | assumption | omega | ((repeat (refine mr_FIX_up ?_ (by unfold mr_nst; omega))); assumption))) only [x107_340, x107_341]
      rw [ht]
      have q : ms_s (mc_cn (mc_l M V) (mc_m M V) (M 1 0).toNat) (M 1 0).toNat = mc_n M V := mc_scg _ (fun c _ _ => mc_cnd hN0 _ _ c)
      rw [q]
      exact cont
    · have v0 : (0 : Int) ≤ v := by omega
      have v1 : (v : Int) < M 1 0 := by omega
      have v24 : 0 ≤ (v : Int) ∧ (v : Int) < 24 := by omega
      have e95 := h95 v v0 v1
      have l01 : mc_l M V v = 0 ∨ mc_l M V v = 1 := mc_Lv01 M (mc_F M V) v (M 1 0).toNat
      have mp := (mc_m_p hI V v0 v1).1
      have sum := mc_supd (f := mc_cn (mc_l M V) (mc_m M V) v) (p := mc_l M V v = 1) mp.1 (mc_cn01 _ _ v _) (M 1 0).toNat
      rw [← ht] at sum
      have sum2 : ms_s (mc_cn (mc_l M V) (mc_m M V) (v + 1)) (M 1 0).toNat = t + mc_fr (mc_l M V) (mc_m M V) v v := by
        refine Eq.trans (mc_scg _ (fun c _ _ => rfl)) (sum.trans ?_)
        unfold mc_fr
        have : ((mc_l M V v = 1 ∧ mc_cn (mc_l M V) (mc_m M V) v (mc_m M V v) = 0) ∧ mc_m M V v < ((M 1 0).toNat : Int)) ↔ (mc_l M V v = 1 ∧ mc_cn (mc_l M V) (mc_m M V) v (mc_m M V v) = 0) := ⟨fun z => z.1, fun z => ⟨z, by omega⟩⟩
        simp only [this]
      have fin : ma_wp 107 322 [(2, 80), (0, t), (0, (v : Int)), (0, mc_fr (mc_l M V) (mc_m M V) v v), (0, (v : Int))] [] mr_SH S Q := by
        have f01 : mc_fr (mc_l M V) (mc_m M V) v v = 0 ∨ mc_fr (mc_l M V) (mc_m M V) v v = 1 := by unfold mc_fr; split <;> simp
        rcases f01 with f | f
        · rw [f] at sum2 ⊢
          have nx := ih (v + 1) t (0, 0) (0, (v : Int)) (by omega) (by omega) (by omega) t0 (by omega)
          rw [show ((v + 1 : Nat) : Int) = (v : Int) + 1 by omega] at nx
          simp (disch := (first | assumption | omega | ((repeat (refine mr_FIX_up ?_ (by unfold mr_nst; omega))); assumption))) [x107_322, x107_323, x107_324, x107_327, x107_328, x107_331, x107_332, x107_333, x107_334, x107_337, ma_32i]
          exact nx
        · rw [f] at sum2 ⊢
          have nx := ih (v + 1) (t + 1) (0, 1) (0, (v : Int)) (by omega) (by omega) (by omega) (by omega) (by omega)
          rw [show ((v + 1 : Nat) : Int) = (v : Int) + 1 by omega] at nx
          simp (disch := (first | assumption | omega | ((repeat (refine mr_FIX_up ?_ (by unfold mr_nst; omega))); assumption))) [x107_322, x107_323, x107_324, x107_327, x107_328, x107_331, x107_332, x107_333, x107_334, x107_337, ma_32i]
          exact nx
      have st := mc_ref7 hI hF h95 h98 v0 v1 (t := t) (Q := Q) fin 25 0 (by omega) (by omega)
      have e0 : mc_fr (mc_l M V) (mc_m M V) v 0 = mc_l M V v := by
        unfold mc_fr
        have z : mc_cn (mc_l M V) (mc_m M V) 0 (mc_m M V v) = 0 := rfl
        rcases l01 with g | g
        · rw [if_neg (by rw [g]; omega), g]
        · rw [if_pos ⟨g, z⟩, g]
      rw [e0] at st
      simp (disch := (first | assumption | omega | ((repeat (refine mr_FIX_up ?_ (by unfold mr_nst; omega))); assumption))) only [s107_265, s107_266, x107_269, s107_270, x107_271, x107_272, x107_273, e95]
      exact ⟨v24, st⟩
