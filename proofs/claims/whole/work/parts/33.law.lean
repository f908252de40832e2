def mr_ALL : Prop := mr_p0 41 78 ∧ mr_p1 42 79 ∧ mr_p3 43 80 ∧ mr_p1 44 81 ∧ mr_p2 45 82 ∧ mr_p2 46 83 ∧ mr_p2 47 84 ∧ mr_p1 48 94 ∧ mr_p1 49 95 ∧ mr_p1 50 98 ∧ mr_p2 51 96 ∧ mr_p3 52 99 ∧ mr_p2 53 100 ∧ mr_p1 54 103 ∧ mr_p0 55 104 ∧ mr_p2 56 97 ∧ mr_p0 57 107 ∧ mr_p2 58 110 ∧ mr_p1 59 111 ∧ mr_p1 60 112
theorem ma_and31 (x : Int) : 0 ≤ ma_and x 31 ∧ ma_and x 31 < 32 := by
  unfold ma_and
  obtain ⟨j, h1, h2⟩ := pk_andE (Int32.ofInt x) (m := 31) 5 (by decide)
  have e : Int32.ofInt 31 = (31 : Int32) := rfl
  rw [e, h2, nI_toInt (by omega)]
  omega
set_option maxHeartbeats 2000000 in
theorem lw_c0 {L i : Int} {M : ma_M} {Q : Option ma_V → ma_S → ma_M → Prop} (hL : M (-2) (-1) = L) (hL2 : L ≤ 2048) (h0 : 0 ≤ i) (hi : i + 4 ≤ L) (hr : ∀ j : Int, 0 ≤ j → j < L → mr_r (M (-2) j)) (hI : mr_INV M) (hp : mr_p0 41 78) (ih : ∀ M2 : ma_M, mr_INV M2 → (∀ j, M2 (-2) j = M (-2) j) → ma_wp 113 18 [(2, -2), (2, 0), (2, 80), (0, i + 4)] [] mr_SH M2 Q) : ma_wp 113 128 [(2, -2), (2, 0), (2, 80), (0, i)] [] mr_SH M Q := by
  obtain ⟨r, hx⟩ := hp M  hI 
  simp only [x113_128, x113_129]
  refine ⟨by decide, ⟨by decide +kernel, ?_⟩⟩
  refine mr_do_mono hx ?_
  rintro r1 sh1 M1 ⟨rfl, rfl, hs1, hm⟩
  simp only [Option.toList_some, List.cons_append, List.nil_append]
  simp only [x113_132, x113_133]
  refine ⟨by decide, ⟨by decide +kernel, ?_⟩⟩
  refine mr_do_mono hm ?_
  rintro r2 sh2 M2 ⟨rfl, rfl, hs2, hI2⟩
  simp only [Option.toList_some, List.cons_append, List.nil_append]
  simp only [x113_136, x113_668, x113_671]
  refine ⟨fun _ => ?_, fun z => absurd trivial z⟩
  rw [ma_32i (by omega) (by omega)]
  exact ih M2 hI2 hs2
set_option maxHeartbeats 2000000 in
theorem lw_c1 {L i : Int} {M : ma_M} {Q : Option ma_V → ma_S → ma_M → Prop} (hL : M (-2) (-1) = L) (hL2 : L ≤ 2048) (h0 : 0 ≤ i) (hi : i + 4 ≤ L) (hr : ∀ j : Int, 0 ≤ j → j < L → mr_r (M (-2) j)) (hI : mr_INV M) (hp : mr_p1 42 79) (ih : ∀ M2 : ma_M, mr_INV M2 → (∀ j, M2 (-2) j = M (-2) j) → ma_wp 113 18 [(2, -2), (2, 0), (2, 80), (0, i + 4)] [] mr_SH M2 Q) : ma_wp 113 141 [(2, -2), (2, 0), (2, 80), (0, i)] [] mr_SH M Q := by
  obtain ⟨r, hx⟩ := hp M (M (-2) (i + 1)) hI (hr (i + 1) (by omega) (by omega))
  have w1 : ma_32 (i + 1) = i + 1 := ma_32i (by omega) (by omega)
  simp only [x113_141, x113_142, x113_143, x113_144, x113_145, x113_146, x113_147, w1]
  refine ⟨by decide, ⟨by decide, ⟨by rw [hL]; omega, ⟨by decide +kernel, ?_⟩⟩⟩⟩
  refine mr_do_mono hx ?_
  rintro r1 sh1 M1 ⟨rfl, rfl, hs1, hm⟩
  simp only [Option.toList_some, List.cons_append, List.nil_append]
  simp only [x113_150, x113_151, x113_152, x113_153, x113_154, x113_155, x113_156, w1]
  refine ⟨by decide, ⟨by decide, ⟨by rw [hs1, hL]; omega, ⟨by decide +kernel, ?_⟩⟩⟩⟩
  simp only [hs1]
  refine mr_do_mono hm ?_
  rintro r2 sh2 M2 ⟨rfl, rfl, hs2, hI2⟩
  simp only [Option.toList_some, List.cons_append, List.nil_append]
  simp only [x113_159, x113_668, x113_671]
  refine ⟨fun _ => ?_, fun z => absurd trivial z⟩
  rw [ma_32i (by omega) (by omega)]
  exact ih M2 hI2 hs2
set_option maxHeartbeats 2000000 in
theorem lw_c2 {L i : Int} {M : ma_M} {Q : Option ma_V → ma_S → ma_M → Prop} (hL : M (-2) (-1) = L) (hL2 : L ≤ 2048) (h0 : 0 ≤ i) (hi : i + 4 ≤ L) (hr : ∀ j : Int, 0 ≤ j → j < L → mr_r (M (-2) j)) (hI : mr_INV M) (hp : mr_p3 43 80) (ih : ∀ M2 : ma_M, mr_INV M2 → (∀ j, M2 (-2) j = M (-2) j) → ma_wp 113 18 [(2, -2), (2, 0), (2, 80), (0, i + 4)] [] mr_SH M2 Q) : ma_wp 113 164 [(2, -2), (2, 0), (2, 80), (0, i)] [] mr_SH M Q := by
  obtain ⟨r, hx⟩ := hp M (M (-2) (i + 1)) (M (-2) (i + 2)) (M (-2) (i + 3)) hI (hr (i + 1) (by omega) (by omega)) (hr (i + 2) (by omega) (by omega)) (hr (i + 3) (by omega) (by omega))
  have w1 : ma_32 (i + 1) = i + 1 := ma_32i (by omega) (by omega)
  have w2 : ma_32 (i + 2) = i + 2 := ma_32i (by omega) (by omega)
  have w3 : ma_32 (i + 3) = i + 3 := ma_32i (by omega) (by omega)
  simp only [x113_164, x113_165, x113_166, x113_167, x113_168, x113_169, x113_170, x113_171, x113_172, x113_173, x113_174, x113_175, x113_176, x113_177, x113_178, x113_179, x113_180, w1, w2, w3]
  refine ⟨by decide, ⟨by decide, ⟨by rw [hL]; omega, ⟨by decide, ⟨by rw [hL]; omega, ⟨by decide, ⟨by rw [hL]; omega, ⟨by decide +kernel, ?_⟩⟩⟩⟩⟩⟩⟩⟩
  refine mr_do_mono hx ?_
  rintro r1 sh1 M1 ⟨rfl, rfl, hs1, hm⟩
  simp only [Option.toList_some, List.cons_append, List.nil_append]
  simp only [x113_183, x113_184, x113_185, x113_186, x113_187, x113_188, x113_189, x113_190, x113_191, x113_192, x113_193, x113_194, x113_195, x113_196, x113_197, x113_198, x113_199, w1, w2, w3]
  refine ⟨by decide, ⟨by decide, ⟨by rw [hs1, hL]; omega, ⟨by decide, ⟨by rw [hs1, hL]; omega, ⟨by decide, ⟨by rw [hs1, hL]; omega, ⟨by decide +kernel, ?_⟩⟩⟩⟩⟩⟩⟩⟩
  simp only [hs1]
  refine mr_do_mono hm ?_
  rintro r2 sh2 M2 ⟨rfl, rfl, hs2, hI2⟩
  simp only [Option.toList_some, List.cons_append, List.nil_append]
  simp only [x113_202, x113_668, x113_671]
  refine ⟨fun _ => ?_, fun z => absurd trivial z⟩
  rw [ma_32i (by omega) (by omega)]
  exact ih M2 hI2 hs2
set_option maxHeartbeats 2000000 in
theorem lw_c3 {L i : Int} {M : ma_M} {Q : Option ma_V → ma_S → ma_M → Prop} (hL : M (-2) (-1) = L) (hL2 : L ≤ 2048) (h0 : 0 ≤ i) (hi : i + 4 ≤ L) (hr : ∀ j : Int, 0 ≤ j → j < L → mr_r (M (-2) j)) (hI : mr_INV M) (hp : mr_p1 44 81) (ih : ∀ M2 : ma_M, mr_INV M2 → (∀ j, M2 (-2) j = M (-2) j) → ma_wp 113 18 [(2, -2), (2, 0), (2, 80), (0, i + 4)] [] mr_SH M2 Q) : ma_wp 113 207 [(2, -2), (2, 0), (2, 80), (0, i)] [] mr_SH M Q := by
  obtain ⟨r, hx⟩ := hp M (M (-2) (i + 1)) hI (hr (i + 1) (by omega) (by omega))
  have w1 : ma_32 (i + 1) = i + 1 := ma_32i (by omega) (by omega)
  simp only [x113_207, x113_208, x113_209, x113_210, x113_211, x113_212, x113_213, w1]
  refine ⟨by decide, ⟨by decide, ⟨by rw [hL]; omega, ⟨by decide +kernel, ?_⟩⟩⟩⟩
  refine mr_do_mono hx ?_
  rintro r1 sh1 M1 ⟨rfl, rfl, hs1, hm⟩
  simp only [Option.toList_some, List.cons_append, List.nil_append]
  simp only [x113_216, x113_217, x113_218, x113_219, x113_220, x113_221, x113_222, w1]
  refine ⟨by decide, ⟨by decide, ⟨by rw [hs1, hL]; omega, ⟨by decide +kernel, ?_⟩⟩⟩⟩
  simp only [hs1]
  refine mr_do_mono hm ?_
  rintro r2 sh2 M2 ⟨rfl, rfl, hs2, hI2⟩
  simp only [Option.toList_some, List.cons_append, List.nil_append]
  simp only [x113_225, x113_668, x113_671]
  refine ⟨fun _ => ?_, fun z => absurd trivial z⟩
  rw [ma_32i (by omega) (by omega)]
  exact ih M2 hI2 hs2
set_option maxHeartbeats 2000000 in
theorem lw_c4 {L i : Int} {M : ma_M} {Q : Option ma_V → ma_S → ma_M → Prop} (hL : M (-2) (-1) = L) (hL2 : L ≤ 2048) (h0 : 0 ≤ i) (hi : i + 4 ≤ L) (hr : ∀ j : Int, 0 ≤ j → j < L → mr_r (M (-2) j)) (hI : mr_INV M) (hp : mr_p2 45 82) (ih : ∀ M2 : ma_M, mr_INV M2 → (∀ j, M2 (-2) j = M (-2) j) → ma_wp 113 18 [(2, -2), (2, 0), (2, 80), (0, i + 4)] [] mr_SH M2 Q) : ma_wp 113 230 [(2, -2), (2, 0), (2, 80), (0, i)] [] mr_SH M Q := by
  obtain ⟨r, hx⟩ := hp M (M (-2) (i + 1)) (M (-2) (i + 2)) hI (hr (i + 1) (by omega) (by omega)) (hr (i + 2) (by omega) (by omega))
  have w1 : ma_32 (i + 1) = i + 1 := ma_32i (by omega) (by omega)
  have w2 : ma_32 (i + 2) = i + 2 := ma_32i (by omega) (by omega)
  simp only [x113_230, x113_231, x113_232, x113_233, x113_234, x113_235, x113_236, x113_237, x113_238, x113_239, x113_240, x113_241, w1, w2]
  refine ⟨by decide, ⟨by decide, ⟨by rw [hL]; omega, ⟨by decide, ⟨by rw [hL]; omega, ⟨by decide +kernel, ?_⟩⟩⟩⟩⟩⟩
  refine mr_do_mono hx ?_
  rintro r1 sh1 M1 ⟨rfl, rfl, hs1, hm⟩
  simp only [Option.toList_some, List.cons_append, List.nil_append]
  simp only [x113_244, x113_245, x113_246, x113_247, x113_248, x113_249, x113_250, x113_251, x113_252, x113_253, x113_254, x113_255, w1, w2]
  refine ⟨by decide, ⟨by decide, ⟨by rw [hs1, hL]; omega, ⟨by decide, ⟨by rw [hs1, hL]; omega, ⟨by decide +kernel, ?_⟩⟩⟩⟩⟩⟩
  simp only [hs1]
  refine mr_do_mono hm ?_
  rintro r2 sh2 M2 ⟨rfl, rfl, hs2, hI2⟩
  simp only [Option.toList_some, List.cons_append, List.nil_append]
  simp only [x113_258, x113_668, x113_671]
  refine ⟨fun _ => ?_, fun z => absurd trivial z⟩
  rw [ma_32i (by omega) (by omega)]
  exact ih M2 hI2 hs2
set_option maxHeartbeats 2000000 in
theorem lw_c5 {L i : Int} {M : ma_M} {Q : Option ma_V → ma_S → ma_M → Prop} (hL : M (-2) (-1) = L) (hL2 : L ≤ 2048) (h0 : 0 ≤ i) (hi : i + 4 ≤ L) (hr : ∀ j : Int, 0 ≤ j → j < L → mr_r (M (-2) j)) (hI : mr_INV M) (hp : mr_p2 46 83) (ih : ∀ M2 : ma_M, mr_INV M2 → (∀ j, M2 (-2) j = M (-2) j) → ma_wp 113 18 [(2, -2), (2, 0), (2, 80), (0, i + 4)] [] mr_SH M2 Q) : ma_wp 113 263 [(2, -2), (2, 0), (2, 80), (0, i)] [] mr_SH M Q := by
  obtain ⟨r, hx⟩ := hp M (M (-2) (i + 1)) (M (-2) (i + 2)) hI (hr (i + 1) (by omega) (by omega)) (hr (i + 2) (by omega) (by omega))
  have w1 : ma_32 (i + 1) = i + 1 := ma_32i (by omega) (by omega)
  have w2 : ma_32 (i + 2) = i + 2 := ma_32i (by omega) (by omega)
  simp only [x113_263, x113_264, x113_265, x113_266, x113_267, x113_268, x113_269, x113_270, x113_271, x113_272, x113_273, x113_274, w1, w2]
  refine ⟨by decide, ⟨by decide, ⟨by rw [hL]; omega, ⟨by decide, ⟨by rw [hL]; omega, ⟨by decide +kernel, ?_⟩⟩⟩⟩⟩⟩
  refine mr_do_mono hx ?_
  rintro r1 sh1 M1 ⟨rfl, rfl, hs1, hm⟩
  simp only [Option.toList_some, List.cons_append, List.nil_append]
  simp only [x113_277, x113_278, x113_279, x113_280, x113_281, x113_282, x113_283, x113_284, x113_285, x113_286, x113_287, x113_288, w1, w2]
  refine ⟨by decide, ⟨by decide, ⟨by rw [hs1, hL]; omega, ⟨by decide, ⟨by rw [hs1, hL]; omega, ⟨by decide +kernel, ?_⟩⟩⟩⟩⟩⟩
  simp only [hs1]
  refine mr_do_mono hm ?_
  rintro r2 sh2 M2 ⟨rfl, rfl, hs2, hI2⟩
  simp only [Option.toList_some, List.cons_append, List.nil_append]
  simp only [x113_291, x113_668, x113_671]
  refine ⟨fun _ => ?_, fun z => absurd trivial z⟩
  rw [ma_32i (by omega) (by omega)]
  exact ih M2 hI2 hs2
set_option maxHeartbeats 2000000 in
theorem lw_c6 {L i : Int} {M : ma_M} {Q : Option ma_V → ma_S → ma_M → Prop} (hL : M (-2) (-1) = L) (hL2 : L ≤ 2048) (h0 : 0 ≤ i) (hi : i + 4 ≤ L) (hr : ∀ j : Int, 0 ≤ j → j < L → mr_r (M (-2) j)) (hI : mr_INV M) (hp : mr_p2 47 84) (ih : ∀ M2 : ma_M, mr_INV M2 → (∀ j, M2 (-2) j = M (-2) j) → ma_wp 113 18 [(2, -2), (2, 0), (2, 80), (0, i + 4)] [] mr_SH M2 Q) : ma_wp 113 296 [(2, -2), (2, 0), (2, 80), (0, i)] [] mr_SH M Q := by
  obtain ⟨r, hx⟩ := hp M (M (-2) (i + 1)) (M (-2) (i + 2)) hI (hr (i + 1) (by omega) (by omega)) (hr (i + 2) (by omega) (by omega))
  have w1 : ma_32 (i + 1) = i + 1 := ma_32i (by omega) (by omega)
  have w2 : ma_32 (i + 2) = i + 2 := ma_32i (by omega) (by omega)
  simp only [x113_296, x113_297, x113_298, x113_299, x113_300, x113_301, x113_302, x113_303, x113_304, x113_305, x113_306, x113_307, w1, w2]
  refine ⟨by decide, ⟨by decide, ⟨by rw [hL]; omega, ⟨by decide, ⟨by rw [hL]; omega, ⟨by decide +kernel, ?_⟩⟩⟩⟩⟩⟩
  refine mr_do_mono hx ?_
  rintro r1 sh1 M1 ⟨rfl, rfl, hs1, hm⟩
  simp only [Option.toList_some, List.cons_append, List.nil_append]
  simp only [x113_310, x113_311, x113_312, x113_313, x113_314, x113_315, x113_316, x113_317, x113_318, x113_319, x113_320, x113_321, w1, w2]
  refine ⟨by decide, ⟨by decide, ⟨by rw [hs1, hL]; omega, ⟨by decide, ⟨by rw [hs1, hL]; omega, ⟨by decide +kernel, ?_⟩⟩⟩⟩⟩⟩
  simp only [hs1]
  refine mr_do_mono hm ?_
  rintro r2 sh2 M2 ⟨rfl, rfl, hs2, hI2⟩
  simp only [Option.toList_some, List.cons_append, List.nil_append]
  simp only [x113_324, x113_668, x113_671]
  refine ⟨fun _ => ?_, fun z => absurd trivial z⟩
  rw [ma_32i (by omega) (by omega)]
  exact ih M2 hI2 hs2
set_option maxHeartbeats 2000000 in
theorem lw_c7 {L i : Int} {M : ma_M} {Q : Option ma_V → ma_S → ma_M → Prop} (hL : M (-2) (-1) = L) (hL2 : L ≤ 2048) (h0 : 0 ≤ i) (hi : i + 4 ≤ L) (hr : ∀ j : Int, 0 ≤ j → j < L → mr_r (M (-2) j)) (hI : mr_INV M) (hp : mr_p1 48 94) (ih : ∀ M2 : ma_M, mr_INV M2 → (∀ j, M2 (-2) j = M (-2) j) → ma_wp 113 18 [(2, -2), (2, 0), (2, 80), (0, i + 4)] [] mr_SH M2 Q) : ma_wp 113 329 [(2, -2), (2, 0), (2, 80), (0, i)] [] mr_SH M Q := by
  obtain ⟨r, hx⟩ := hp M (M (-2) (i + 1)) hI (hr (i + 1) (by omega) (by omega))
  have w1 : ma_32 (i + 1) = i + 1 := ma_32i (by omega) (by omega)
  simp only [x113_329, x113_330, x113_331, x113_332, x113_333, x113_334, x113_335, w1]
  refine ⟨by decide, ⟨by decide, ⟨by rw [hL]; omega, ⟨by decide +kernel, ?_⟩⟩⟩⟩
  refine mr_do_mono hx ?_
  rintro r1 sh1 M1 ⟨rfl, rfl, hs1, hm⟩
  simp only [Option.toList_some, List.cons_append, List.nil_append]
  simp only [x113_338, x113_339, x113_340, x113_341, x113_342, x113_343, x113_344, w1]
  refine ⟨by decide, ⟨by decide, ⟨by rw [hs1, hL]; omega, ⟨by decide +kernel, ?_⟩⟩⟩⟩
  simp only [hs1]
  refine mr_do_mono hm ?_
  rintro r2 sh2 M2 ⟨rfl, rfl, hs2, hI2⟩
  simp only [Option.toList_some, List.cons_append, List.nil_append]
  simp only [x113_347, x113_668, x113_671]
  refine ⟨fun _ => ?_, fun z => absurd trivial z⟩
  rw [ma_32i (by omega) (by omega)]
  exact ih M2 hI2 hs2
set_option maxHeartbeats 2000000 in
theorem lw_c8 {L i : Int} {M : ma_M} {Q : Option ma_V → ma_S → ma_M → Prop} (hL : M (-2) (-1) = L) (hL2 : L ≤ 2048) (h0 : 0 ≤ i) (hi : i + 4 ≤ L) (hr : ∀ j : Int, 0 ≤ j → j < L → mr_r (M (-2) j)) (hI : mr_INV M) (hp : mr_p1 49 95) (ih : ∀ M2 : ma_M, mr_INV M2 → (∀ j, M2 (-2) j = M (-2) j) → ma_wp 113 18 [(2, -2), (2, 0), (2, 80), (0, i + 4)] [] mr_SH M2 Q) : ma_wp 113 352 [(2, -2), (2, 0), (2, 80), (0, i)] [] mr_SH M Q := by
  obtain ⟨r, hx⟩ := hp M (M (-2) (i + 1)) hI (hr (i + 1) (by omega) (by omega))
  have w1 : ma_32 (i + 1) = i + 1 := ma_32i (by omega) (by omega)
  simp only [x113_352, x113_353, x113_354, x113_355, x113_356, x113_357, x113_358, w1]
  refine ⟨by decide, ⟨by decide, ⟨by rw [hL]; omega, ⟨by decide +kernel, ?_⟩⟩⟩⟩
  refine mr_do_mono hx ?_
  rintro r1 sh1 M1 ⟨rfl, rfl, hs1, hm⟩
  simp only [Option.toList_some, List.cons_append, List.nil_append]
  simp only [x113_361, x113_362, x113_363, x113_364, x113_365, x113_366, x113_367, w1]
  refine ⟨by decide, ⟨by decide, ⟨by rw [hs1, hL]; omega, ⟨by decide +kernel, ?_⟩⟩⟩⟩
  simp only [hs1]
  refine mr_do_mono hm ?_
  rintro r2 sh2 M2 ⟨rfl, rfl, hs2, hI2⟩
  simp only [Option.toList_some, List.cons_append, List.nil_append]
  simp only [x113_370, x113_668, x113_671]
  refine ⟨fun _ => ?_, fun z => absurd trivial z⟩
  rw [ma_32i (by omega) (by omega)]
  exact ih M2 hI2 hs2
set_option maxHeartbeats 2000000 in
theorem lw_c9 {L i : Int} {M : ma_M} {Q : Option ma_V → ma_S → ma_M → Prop} (hL : M (-2) (-1) = L) (hL2 : L ≤ 2048) (h0 : 0 ≤ i) (hi : i + 4 ≤ L) (hr : ∀ j : Int, 0 ≤ j → j < L → mr_r (M (-2) j)) (hI : mr_INV M) (hp : mr_p1 50 98) (ih : ∀ M2 : ma_M, mr_INV M2 → (∀ j, M2 (-2) j = M (-2) j) → ma_wp 113 18 [(2, -2), (2, 0), (2, 80), (0, i + 4)] [] mr_SH M2 Q) : ma_wp 113 375 [(2, -2), (2, 0), (2, 80), (0, i)] [] mr_SH M Q := by
  obtain ⟨r, hx⟩ := hp M (M (-2) (i + 1)) hI (hr (i + 1) (by omega) (by omega))
  have w1 : ma_32 (i + 1) = i + 1 := ma_32i (by omega) (by omega)
  simp only [x113_375, x113_376, x113_377, x113_378, x113_379, x113_380, x113_381, w1]
  refine ⟨by decide, ⟨by decide, ⟨by rw [hL]; omega, ⟨by decide +kernel, ?_⟩⟩⟩⟩
  refine mr_do_mono hx ?_
  rintro r1 sh1 M1 ⟨rfl, rfl, hs1, hm⟩
  simp only [Option.toList_some, List.cons_append, List.nil_append]
  simp only [x113_384, x113_385, x113_386, x113_387, x113_388, x113_389, x113_390, w1]
  refine ⟨by decide, ⟨by decide, ⟨by rw [hs1, hL]; omega, ⟨by decide +kernel, ?_⟩⟩⟩⟩
  simp only [hs1]
  refine mr_do_mono hm ?_
  rintro r2 sh2 M2 ⟨rfl, rfl, hs2, hI2⟩
  simp only [Option.toList_some, List.cons_append, List.nil_append]
  simp only [x113_393, x113_668, x113_671]
  refine ⟨fun _ => ?_, fun z => absurd trivial z⟩
  rw [ma_32i (by omega) (by omega)]
  exact ih M2 hI2 hs2
set_option maxHeartbeats 2000000 in
theorem lw_c10 {L i : Int} {M : ma_M} {Q : Option ma_V → ma_S → ma_M → Prop} (hL : M (-2) (-1) = L) (hL2 : L ≤ 2048) (h0 : 0 ≤ i) (hi : i + 4 ≤ L) (hr : ∀ j : Int, 0 ≤ j → j < L → mr_r (M (-2) j)) (hI : mr_INV M) (hp : mr_p2 51 96) (ih : ∀ M2 : ma_M, mr_INV M2 → (∀ j, M2 (-2) j = M (-2) j) → ma_wp 113 18 [(2, -2), (2, 0), (2, 80), (0, i + 4)] [] mr_SH M2 Q) : ma_wp 113 398 [(2, -2), (2, 0), (2, 80), (0, i)] [] mr_SH M Q := by
  obtain ⟨r, hx⟩ := hp M (M (-2) (i + 1)) (M (-2) (i + 2)) hI (hr (i + 1) (by omega) (by omega)) (hr (i + 2) (by omega) (by omega))
  have w1 : ma_32 (i + 1) = i + 1 := ma_32i (by omega) (by omega)
  have w2 : ma_32 (i + 2) = i + 2 := ma_32i (by omega) (by omega)
  simp only [x113_398, x113_399, x113_400, x113_401, x113_402, x113_403, x113_404, x113_405, x113_406, x113_407, x113_408, x113_409, w1, w2]
  refine ⟨by decide, ⟨by decide, ⟨by rw [hL]; omega, ⟨by decide, ⟨by rw [hL]; omega, ⟨by decide +kernel, ?_⟩⟩⟩⟩⟩⟩
  refine mr_do_mono hx ?_
  rintro r1 sh1 M1 ⟨rfl, rfl, hs1, hm⟩
  simp only [Option.toList_some, List.cons_append, List.nil_append]
  simp only [x113_412, x113_413, x113_414, x113_415, x113_416, x113_417, x113_418, x113_419, x113_420, x113_421, x113_422, x113_423, w1, w2]
  refine ⟨by decide, ⟨by decide, ⟨by rw [hs1, hL]; omega, ⟨by decide, ⟨by rw [hs1, hL]; omega, ⟨by decide +kernel, ?_⟩⟩⟩⟩⟩⟩
  simp only [hs1]
  refine mr_do_mono hm ?_
  rintro r2 sh2 M2 ⟨rfl, rfl, hs2, hI2⟩
  simp only [Option.toList_some, List.cons_append, List.nil_append]
  simp only [x113_426, x113_668, x113_671]
  refine ⟨fun _ => ?_, fun z => absurd trivial z⟩
  rw [ma_32i (by omega) (by omega)]
  exact ih M2 hI2 hs2
set_option maxHeartbeats 2000000 in
theorem lw_c11 {L i : Int} {M : ma_M} {Q : Option ma_V → ma_S → ma_M → Prop} (hL : M (-2) (-1) = L) (hL2 : L ≤ 2048) (h0 : 0 ≤ i) (hi : i + 4 ≤ L) (hr : ∀ j : Int, 0 ≤ j → j < L → mr_r (M (-2) j)) (hI : mr_INV M) (hp : mr_p3 52 99) (ih : ∀ M2 : ma_M, mr_INV M2 → (∀ j, M2 (-2) j = M (-2) j) → ma_wp 113 18 [(2, -2), (2, 0), (2, 80), (0, i + 4)] [] mr_SH M2 Q) : ma_wp 113 431 [(2, -2), (2, 0), (2, 80), (0, i)] [] mr_SH M Q := by
  obtain ⟨r, hx⟩ := hp M (M (-2) (i + 1)) (M (-2) (i + 2)) (M (-2) (i + 3)) hI (hr (i + 1) (by omega) (by omega)) (hr (i + 2) (by omega) (by omega)) (hr (i + 3) (by omega) (by omega))
  have w1 : ma_32 (i + 1) = i + 1 := ma_32i (by omega) (by omega)
  have w2 : ma_32 (i + 2) = i + 2 := ma_32i (by omega) (by omega)
  have w3 : ma_32 (i + 3) = i + 3 := ma_32i (by omega) (by omega)
  simp only [x113_431, x113_432, x113_433, x113_434, x113_435, x113_436, x113_437, x113_438, x113_439, x113_440, x113_441, x113_442, x113_443, x113_444, x113_445, x113_446, x113_447, w1, w2, w3]
  refine ⟨by decide, ⟨by decide, ⟨by rw [hL]; omega, ⟨by decide, ⟨by rw [hL]; omega, ⟨by decide, ⟨by rw [hL]; omega, ⟨by decide +kernel, ?_⟩⟩⟩⟩⟩⟩⟩⟩
  refine mr_do_mono hx ?_
  rintro r1 sh1 M1 ⟨rfl, rfl, hs1, hm⟩
  simp only [Option.toList_some, List.cons_append, List.nil_append]
  simp only [x113_450, x113_451, x113_452, x113_453, x113_454, x113_455, x113_456, x113_457, x113_458, x113_459, x113_460, x113_461, x113_462, x113_463, x113_464, x113_465, x113_466, w1, w2, w3]
  refine ⟨by decide, ⟨by decide, ⟨by rw [hs1, hL]; omega, ⟨by decide, ⟨by rw [hs1, hL]; omega, ⟨by decide, ⟨by rw [hs1, hL]; omega, ⟨by decide +kernel, ?_⟩⟩⟩⟩⟩⟩⟩⟩
  simp only [hs1]
  refine mr_do_mono hm ?_
  rintro r2 sh2 M2 ⟨rfl, rfl, hs2, hI2⟩
  simp only [Option.toList_some, List.cons_append, List.nil_append]
  simp only [x113_469, x113_668, x113_671]
  refine ⟨fun _ => ?_, fun z => absurd trivial z⟩
  rw [ma_32i (by omega) (by omega)]
  exact ih M2 hI2 hs2
set_option maxHeartbeats 2000000 in
theorem lw_c12 {L i : Int} {M : ma_M} {Q : Option ma_V → ma_S → ma_M → Prop} (hL : M (-2) (-1) = L) (hL2 : L ≤ 2048) (h0 : 0 ≤ i) (hi : i + 4 ≤ L) (hr : ∀ j : Int, 0 ≤ j → j < L → mr_r (M (-2) j)) (hI : mr_INV M) (hp : mr_p2 53 100) (ih : ∀ M2 : ma_M, mr_INV M2 → (∀ j, M2 (-2) j = M (-2) j) → ma_wp 113 18 [(2, -2), (2, 0), (2, 80), (0, i + 4)] [] mr_SH M2 Q) : ma_wp 113 474 [(2, -2), (2, 0), (2, 80), (0, i)] [] mr_SH M Q := by
  obtain ⟨r, hx⟩ := hp M (M (-2) (i + 1)) (M (-2) (i + 2)) hI (hr (i + 1) (by omega) (by omega)) (hr (i + 2) (by omega) (by omega))
  have w1 : ma_32 (i + 1) = i + 1 := ma_32i (by omega) (by omega)
  have w2 : ma_32 (i + 2) = i + 2 := ma_32i (by omega) (by omega)
  simp only [x113_474, x113_475, x113_476, x113_477, x113_478, x113_479, x113_480, x113_481, x113_482, x113_483, x113_484, x113_485, w1, w2]
  refine ⟨by decide, ⟨by decide, ⟨by rw [hL]; omega, ⟨by decide, ⟨by rw [hL]; omega, ⟨by decide +kernel, ?_⟩⟩⟩⟩⟩⟩
  refine mr_do_mono hx ?_
  rintro r1 sh1 M1 ⟨rfl, rfl, hs1, hm⟩
  simp only [Option.toList_some, List.cons_append, List.nil_append]
  simp only [x113_488, x113_489, x113_490, x113_491, x113_492, x113_493, x113_494, x113_495, x113_496, x113_497, x113_498, x113_499, w1, w2]
  refine ⟨by decide, ⟨by decide, ⟨by rw [hs1, hL]; omega, ⟨by decide, ⟨by rw [hs1, hL]; omega, ⟨by decide +kernel, ?_⟩⟩⟩⟩⟩⟩
  simp only [hs1]
  refine mr_do_mono hm ?_
  rintro r2 sh2 M2 ⟨rfl, rfl, hs2, hI2⟩
  simp only [Option.toList_some, List.cons_append, List.nil_append]
  simp only [x113_502, x113_668, x113_671]
  refine ⟨fun _ => ?_, fun z => absurd trivial z⟩
  rw [ma_32i (by omega) (by omega)]
  exact ih M2 hI2 hs2
set_option maxHeartbeats 2000000 in
theorem lw_c13 {L i : Int} {M : ma_M} {Q : Option ma_V → ma_S → ma_M → Prop} (hL : M (-2) (-1) = L) (hL2 : L ≤ 2048) (h0 : 0 ≤ i) (hi : i + 4 ≤ L) (hr : ∀ j : Int, 0 ≤ j → j < L → mr_r (M (-2) j)) (hI : mr_INV M) (hp : mr_p1 54 103) (ih : ∀ M2 : ma_M, mr_INV M2 → (∀ j, M2 (-2) j = M (-2) j) → ma_wp 113 18 [(2, -2), (2, 0), (2, 80), (0, i + 4)] [] mr_SH M2 Q) : ma_wp 113 507 [(2, -2), (2, 0), (2, 80), (0, i)] [] mr_SH M Q := by
  obtain ⟨r, hx⟩ := hp M (M (-2) (i + 1)) hI (hr (i + 1) (by omega) (by omega))
  have w1 : ma_32 (i + 1) = i + 1 := ma_32i (by omega) (by omega)
  simp only [x113_507, x113_508, x113_509, x113_510, x113_511, x113_512, x113_513, w1]
  refine ⟨by decide, ⟨by decide, ⟨by rw [hL]; omega, ⟨by decide +kernel, ?_⟩⟩⟩⟩
  refine mr_do_mono hx ?_
  rintro r1 sh1 M1 ⟨rfl, rfl, hs1, hm⟩
  simp only [Option.toList_some, List.cons_append, List.nil_append]
  simp only [x113_516, x113_517, x113_518, x113_519, x113_520, x113_521, x113_522, w1]
  refine ⟨by decide, ⟨by decide, ⟨by rw [hs1, hL]; omega, ⟨by decide +kernel, ?_⟩⟩⟩⟩
  simp only [hs1]
  refine mr_do_mono hm ?_
  rintro r2 sh2 M2 ⟨rfl, rfl, hs2, hI2⟩
  simp only [Option.toList_some, List.cons_append, List.nil_append]
  simp only [x113_525, x113_668, x113_671]
  refine ⟨fun _ => ?_, fun z => absurd trivial z⟩
  rw [ma_32i (by omega) (by omega)]
  exact ih M2 hI2 hs2
set_option maxHeartbeats 2000000 in
theorem lw_c14 {L i : Int} {M : ma_M} {Q : Option ma_V → ma_S → ma_M → Prop} (hL : M (-2) (-1) = L) (hL2 : L ≤ 2048) (h0 : 0 ≤ i) (hi : i + 4 ≤ L) (hr : ∀ j : Int, 0 ≤ j → j < L → mr_r (M (-2) j)) (hI : mr_INV M) (hp : mr_p0 55 104) (ih : ∀ M2 : ma_M, mr_INV M2 → (∀ j, M2 (-2) j = M (-2) j) → ma_wp 113 18 [(2, -2), (2, 0), (2, 80), (0, i + 4)] [] mr_SH M2 Q) : ma_wp 113 530 [(2, -2), (2, 0), (2, 80), (0, i)] [] mr_SH M Q := by
  obtain ⟨r, hx⟩ := hp M  hI 
  simp only [x113_530, x113_531]
  refine ⟨by decide, ⟨by decide +kernel, ?_⟩⟩
  refine mr_do_mono hx ?_
  rintro r1 sh1 M1 ⟨rfl, rfl, hs1, hm⟩
  simp only [Option.toList_some, List.cons_append, List.nil_append]
  simp only [x113_534, x113_535]
  refine ⟨by decide, ⟨by decide +kernel, ?_⟩⟩
  refine mr_do_mono hm ?_
  rintro r2 sh2 M2 ⟨rfl, rfl, hs2, hI2⟩
  simp only [Option.toList_some, List.cons_append, List.nil_append]
  simp only [x113_538, x113_668, x113_671]
  refine ⟨fun _ => ?_, fun z => absurd trivial z⟩
  rw [ma_32i (by omega) (by omega)]
  exact ih M2 hI2 hs2
set_option maxHeartbeats 2000000 in
theorem lw_c15 {L i : Int} {M : ma_M} {Q : Option ma_V → ma_S → ma_M → Prop} (hL : M (-2) (-1) = L) (hL2 : L ≤ 2048) (h0 : 0 ≤ i) (hi : i + 4 ≤ L) (hr : ∀ j : Int, 0 ≤ j → j < L → mr_r (M (-2) j)) (hI : mr_INV M) (hp : mr_p2 56 97) (ih : ∀ M2 : ma_M, mr_INV M2 → (∀ j, M2 (-2) j = M (-2) j) → ma_wp 113 18 [(2, -2), (2, 0), (2, 80), (0, i + 4)] [] mr_SH M2 Q) : ma_wp 113 543 [(2, -2), (2, 0), (2, 80), (0, i)] [] mr_SH M Q := by
  obtain ⟨r, hx⟩ := hp M (M (-2) (i + 1)) (M (-2) (i + 2)) hI (hr (i + 1) (by omega) (by omega)) (hr (i + 2) (by omega) (by omega))
  have w1 : ma_32 (i + 1) = i + 1 := ma_32i (by omega) (by omega)
  have w2 : ma_32 (i + 2) = i + 2 := ma_32i (by omega) (by omega)
  simp only [x113_543, x113_544, x113_545, x113_546, x113_547, x113_548, x113_549, x113_550, x113_551, x113_552, x113_553, x113_554, w1, w2]
  refine ⟨by decide, ⟨by decide, ⟨by rw [hL]; omega, ⟨by decide, ⟨by rw [hL]; omega, ⟨by decide +kernel, ?_⟩⟩⟩⟩⟩⟩
  refine mr_do_mono hx ?_
  rintro r1 sh1 M1 ⟨rfl, rfl, hs1, hm⟩
  simp only [Option.toList_some, List.cons_append, List.nil_append]
  simp only [x113_557, x113_558, x113_559, x113_560, x113_561, x113_562, x113_563, x113_564, x113_565, x113_566, x113_567, x113_568, w1, w2]
  refine ⟨by decide, ⟨by decide, ⟨by rw [hs1, hL]; omega, ⟨by decide, ⟨by rw [hs1, hL]; omega, ⟨by decide +kernel, ?_⟩⟩⟩⟩⟩⟩
  simp only [hs1]
  refine mr_do_mono hm ?_
  rintro r2 sh2 M2 ⟨rfl, rfl, hs2, hI2⟩
  simp only [Option.toList_some, List.cons_append, List.nil_append]
  simp only [x113_571, x113_668, x113_671]
  refine ⟨fun _ => ?_, fun z => absurd trivial z⟩
  rw [ma_32i (by omega) (by omega)]
  exact ih M2 hI2 hs2
set_option maxHeartbeats 2000000 in
theorem lw_c16 {L i : Int} {M : ma_M} {Q : Option ma_V → ma_S → ma_M → Prop} (hL : M (-2) (-1) = L) (hL2 : L ≤ 2048) (h0 : 0 ≤ i) (hi : i + 4 ≤ L) (hr : ∀ j : Int, 0 ≤ j → j < L → mr_r (M (-2) j)) (hI : mr_INV M) (hp : mr_p0 57 107) (ih : ∀ M2 : ma_M, mr_INV M2 → (∀ j, M2 (-2) j = M (-2) j) → ma_wp 113 18 [(2, -2), (2, 0), (2, 80), (0, i + 4)] [] mr_SH M2 Q) : ma_wp 113 576 [(2, -2), (2, 0), (2, 80), (0, i)] [] mr_SH M Q := by
  obtain ⟨r, hx⟩ := hp M  hI 
  simp only [x113_576, x113_577]
  refine ⟨by decide, ⟨by decide +kernel, ?_⟩⟩
  refine mr_do_mono hx ?_
  rintro r1 sh1 M1 ⟨rfl, rfl, hs1, hm⟩
  simp only [Option.toList_some, List.cons_append, List.nil_append]
  simp only [x113_580, x113_581]
  refine ⟨by decide, ⟨by decide +kernel, ?_⟩⟩
  refine mr_do_mono hm ?_
  rintro r2 sh2 M2 ⟨rfl, rfl, hs2, hI2⟩
  simp only [Option.toList_some, List.cons_append, List.nil_append]
  simp only [x113_584, x113_668, x113_671]
  refine ⟨fun _ => ?_, fun z => absurd trivial z⟩
  rw [ma_32i (by omega) (by omega)]
  exact ih M2 hI2 hs2
set_option maxHeartbeats 2000000 in
theorem lw_c17 {L i : Int} {M : ma_M} {Q : Option ma_V → ma_S → ma_M → Prop} (hL : M (-2) (-1) = L) (hL2 : L ≤ 2048) (h0 : 0 ≤ i) (hi : i + 4 ≤ L) (hr : ∀ j : Int, 0 ≤ j → j < L → mr_r (M (-2) j)) (hI : mr_INV M) (hp : mr_p2 58 110) (ih : ∀ M2 : ma_M, mr_INV M2 → (∀ j, M2 (-2) j = M (-2) j) → ma_wp 113 18 [(2, -2), (2, 0), (2, 80), (0, i + 4)] [] mr_SH M2 Q) : ma_wp 113 589 [(2, -2), (2, 0), (2, 80), (0, i)] [] mr_SH M Q := by
  obtain ⟨r, hx⟩ := hp M (M (-2) (i + 1)) (M (-2) (i + 2)) hI (hr (i + 1) (by omega) (by omega)) (hr (i + 2) (by omega) (by omega))
  have w1 : ma_32 (i + 1) = i + 1 := ma_32i (by omega) (by omega)
  have w2 : ma_32 (i + 2) = i + 2 := ma_32i (by omega) (by omega)
  simp only [x113_589, x113_590, x113_591, x113_592, x113_593, x113_594, x113_595, x113_596, x113_597, x113_598, x113_599, x113_600, w1, w2]
  refine ⟨by decide, ⟨by decide, ⟨by rw [hL]; omega, ⟨by decide, ⟨by rw [hL]; omega, ⟨by decide +kernel, ?_⟩⟩⟩⟩⟩⟩
  refine mr_do_mono hx ?_
  rintro r1 sh1 M1 ⟨rfl, rfl, hs1, hm⟩
  simp only [Option.toList_some, List.cons_append, List.nil_append]
  simp only [x113_603, x113_604, x113_605, x113_606, x113_607, x113_608, x113_609, x113_610, x113_611, x113_612, x113_613, x113_614, w1, w2]
  refine ⟨by decide, ⟨by decide, ⟨by rw [hs1, hL]; omega, ⟨by decide, ⟨by rw [hs1, hL]; omega, ⟨by decide +kernel, ?_⟩⟩⟩⟩⟩⟩
  simp only [hs1]
  refine mr_do_mono hm ?_
  rintro r2 sh2 M2 ⟨rfl, rfl, hs2, hI2⟩
  simp only [Option.toList_some, List.cons_append, List.nil_append]
  simp only [x113_617, x113_668, x113_671]
  refine ⟨fun _ => ?_, fun z => absurd trivial z⟩
  rw [ma_32i (by omega) (by omega)]
  exact ih M2 hI2 hs2
set_option maxHeartbeats 2000000 in
theorem lw_c18 {L i : Int} {M : ma_M} {Q : Option ma_V → ma_S → ma_M → Prop} (hL : M (-2) (-1) = L) (hL2 : L ≤ 2048) (h0 : 0 ≤ i) (hi : i + 4 ≤ L) (hr : ∀ j : Int, 0 ≤ j → j < L → mr_r (M (-2) j)) (hI : mr_INV M) (hp : mr_p1 59 111) (ih : ∀ M2 : ma_M, mr_INV M2 → (∀ j, M2 (-2) j = M (-2) j) → ma_wp 113 18 [(2, -2), (2, 0), (2, 80), (0, i + 4)] [] mr_SH M2 Q) : ma_wp 113 622 [(2, -2), (2, 0), (2, 80), (0, i)] [] mr_SH M Q := by
  obtain ⟨r, hx⟩ := hp M (M (-2) (i + 1)) hI (hr (i + 1) (by omega) (by omega))
  have w1 : ma_32 (i + 1) = i + 1 := ma_32i (by omega) (by omega)
  simp only [x113_622, x113_623, x113_624, x113_625, x113_626, x113_627, x113_628, w1]
  refine ⟨by decide, ⟨by decide, ⟨by rw [hL]; omega, ⟨by decide +kernel, ?_⟩⟩⟩⟩
  refine mr_do_mono hx ?_
  rintro r1 sh1 M1 ⟨rfl, rfl, hs1, hm⟩
  simp only [Option.toList_some, List.cons_append, List.nil_append]
  simp only [x113_631, x113_632, x113_633, x113_634, x113_635, x113_636, x113_637, w1]
  refine ⟨by decide, ⟨by decide, ⟨by rw [hs1, hL]; omega, ⟨by decide +kernel, ?_⟩⟩⟩⟩
  simp only [hs1]
  refine mr_do_mono hm ?_
  rintro r2 sh2 M2 ⟨rfl, rfl, hs2, hI2⟩
  simp only [Option.toList_some, List.cons_append, List.nil_append]
  simp only [x113_640, x113_668, x113_671]
  refine ⟨fun _ => ?_, fun z => absurd trivial z⟩
  rw [ma_32i (by omega) (by omega)]
  exact ih M2 hI2 hs2
set_option maxHeartbeats 2000000 in
theorem lw_c19 {L i : Int} {M : ma_M} {Q : Option ma_V → ma_S → ma_M → Prop} (hL : M (-2) (-1) = L) (hL2 : L ≤ 2048) (h0 : 0 ≤ i) (hi : i + 4 ≤ L) (hr : ∀ j : Int, 0 ≤ j → j < L → mr_r (M (-2) j)) (hI : mr_INV M) (hp : mr_p1 60 112) (ih : ∀ M2 : ma_M, mr_INV M2 → (∀ j, M2 (-2) j = M (-2) j) → ma_wp 113 18 [(2, -2), (2, 0), (2, 80), (0, i + 4)] [] mr_SH M2 Q) : ma_wp 113 645 [(2, -2), (2, 0), (2, 80), (0, i)] [] mr_SH M Q := by
  obtain ⟨r, hx⟩ := hp M (M (-2) (i + 1)) hI (hr (i + 1) (by omega) (by omega))
  have w1 : ma_32 (i + 1) = i + 1 := ma_32i (by omega) (by omega)
  simp only [x113_645, x113_646, x113_647, x113_648, x113_649, x113_650, x113_651, w1]
  refine ⟨by decide, ⟨by decide, ⟨by rw [hL]; omega, ⟨by decide +kernel, ?_⟩⟩⟩⟩
  refine mr_do_mono hx ?_
  rintro r1 sh1 M1 ⟨rfl, rfl, hs1, hm⟩
  simp only [Option.toList_some, List.cons_append, List.nil_append]
  simp only [x113_654, x113_655, x113_656, x113_657, x113_658, x113_659, x113_660, w1]
  refine ⟨by decide, ⟨by decide, ⟨by rw [hs1, hL]; omega, ⟨by decide +kernel, ?_⟩⟩⟩⟩
  simp only [hs1]
  refine mr_do_mono hm ?_
  rintro r2 sh2 M2 ⟨rfl, rfl, hs2, hI2⟩
  simp only [Option.toList_some, List.cons_append, List.nil_append]
  simp only [x113_663, x113_668, x113_671]
  refine ⟨fun _ => ?_, fun z => absurd trivial z⟩
  rw [ma_32i (by omega) (by omega)]
  exact ih M2 hI2 hs2
set_option maxHeartbeats 2000000 in
theorem lw_loop (hA : mr_ALL) : ∀ (n : Nat) (L i : Int) (M : ma_M), (L - i).toNat < n → M (-2) (-1) = L → 0 ≤ L → L ≤ 2048 → 0 ≤ i → i ≤ L → (∀ j : Int, 0 ≤ j → j < L → mr_r (M (-2) j)) → mr_INV M → ma_wp 113 18 [(2, -2), (2, 0), (2, 80), (0, i)] [] mr_SH M (fun r sh _ => r = some (0, 1) ∧ sh = mr_SH) := by
  intro n
  induction n with
  | zero => intro L i M h; omega
  | succ n IH =>
    intro L i M hn hL hl0 hl1 h0 hi hr hI
    obtain ⟨p0, p1, p2, p3, p4, p5, p6, p7, p8, p9, p10, p11, p12, p13, p14, p15, p16, p17, p18, p19⟩ := hA
    have w1 : ma_32 (L - 4) = L - 4 := ma_32i (by omega) (by omega)
    simp only [x113_18, x113_19, x113_20, x113_21, x113_22, x113_23, hL, w1]
    refine ⟨by decide, fun hgt => ?_, fun hle => ?_⟩
    · rw [x113_674, x113_675]
      exact ⟨Or.inr rfl, rfl, rfl⟩
    · simp only [x113_26, x113_27, x113_28, x113_29, x113_31, hL]
      refine ⟨by decide, by omega, ?_⟩
      have hb := ma_and31 (M (-2) i)
      generalize ma_and (M (-2) i) 31 = v at hb ⊢
      have ih : ∀ M2 : ma_M, mr_INV M2 → (∀ j, M2 (-2) j = M (-2) j) → ma_wp 113 18 [(2, -2), (2, 0), (2, 80), (0, i + 4)] [] mr_SH M2 (fun r sh _ => r = some (0, 1) ∧ sh = mr_SH) := fun M2 hI2 hs => IH L (i + 4) M2 (by omega) (by rw [hs]; exact hL) hl0 hl1 (by omega) (by omega) (fun j h1 h2 => by rw [hs]; exact hr j h1 h2) hI2
      have hv : v = 0 ∨ v = 1 ∨ v = 2 ∨ v = 3 ∨ v = 4 ∨ v = 5 ∨ v = 6 ∨ v = 7 ∨ v = 8 ∨ v = 9 ∨ v = 10 ∨ v = 11 ∨ v = 12 ∨ v = 13 ∨ v = 14 ∨ v = 15 ∨ v = 16 ∨ v = 17 ∨ v = 18 ∨ v = 19 ∨ 19 < v := by omega
      rcases hv with rfl | rfl | rfl | rfl | rfl | rfl | rfl | rfl | rfl | rfl | rfl | rfl | rfl | rfl | rfl | rfl | rfl | rfl | rfl | rfl | hv
      · rw [x113_32_0]; exact lw_c0 hL hl1 h0 (by omega) hr hI p0 ih
      · rw [x113_32_1]; exact lw_c1 hL hl1 h0 (by omega) hr hI p1 ih
      · rw [x113_32_2]; exact lw_c2 hL hl1 h0 (by omega) hr hI p2 ih
      · rw [x113_32_3]; exact lw_c3 hL hl1 h0 (by omega) hr hI p3 ih
      · rw [x113_32_4]; exact lw_c4 hL hl1 h0 (by omega) hr hI p4 ih
      · rw [x113_32_5]; exact lw_c5 hL hl1 h0 (by omega) hr hI p5 ih
      · rw [x113_32_6]; exact lw_c6 hL hl1 h0 (by omega) hr hI p6 ih
      · rw [x113_32_7]; exact lw_c7 hL hl1 h0 (by omega) hr hI p7 ih
      · rw [x113_32_8]; exact lw_c8 hL hl1 h0 (by omega) hr hI p8 ih
      · rw [x113_32_9]; exact lw_c9 hL hl1 h0 (by omega) hr hI p9 ih
      · rw [x113_32_10]; exact lw_c10 hL hl1 h0 (by omega) hr hI p10 ih
      · rw [x113_32_11]; exact lw_c11 hL hl1 h0 (by omega) hr hI p11 ih
      · rw [x113_32_12]; exact lw_c12 hL hl1 h0 (by omega) hr hI p12 ih
      · rw [x113_32_13]; exact lw_c13 hL hl1 h0 (by omega) hr hI p13 ih
      · rw [x113_32_14]; exact lw_c14 hL hl1 h0 (by omega) hr hI p14 ih
      · rw [x113_32_15]; exact lw_c15 hL hl1 h0 (by omega) hr hI p15 ih
      · rw [x113_32_16]; exact lw_c16 hL hl1 h0 (by omega) hr hI p16 ih
      · rw [x113_32_17]; exact lw_c17 hL hl1 h0 (by omega) hr hI p17 ih
      · rw [x113_32_18]; exact lw_c18 hL hl1 h0 (by omega) hr hI p18 ih
      · rw [x113_32_19]; exact lw_c19 hL hl1 h0 (by omega) hr hI p19 ih
      · rw [x113_32 _ _ _ _ _ _ _ _ (Or.inr hv)]
        simp only [x113_668, x113_671]
        rw [ma_32i (by omega) (by omega)]
        exact ih M hI (fun _ => rfl)
theorem lw_pure (hA : mr_ALL) : ma_PURE := by
  intro M L hL hs hr
  have h : ma_wp 113 0 [(2, -2), (3, 0), (3, 0), (3, 0)] [] [] M (fun r sh _ => r = some (0, 1) ∧ sh = mr_SH) := by
    rw [lw_init]
    exact lw_loop hA ((L : Int).toNat + 1) L 0 (mr_M0 M) (by omega) (by rw [mr_M0_scr]; exact hs) (by omega) (by omega) (by omega) (by omega) (fun j h1 h2 => by
      rw [mr_M0_scr]
      have := hr j.toNat (by omega)
      rw [Int.toNat_of_nonneg h1] at this
      exact this) (mr_M0_INV M)
  obtain ⟨n, r, sh', M', h1, rfl, rfl⟩ := h
  exact ⟨n, mr_SH, M', h1, by decide, by decide⟩
