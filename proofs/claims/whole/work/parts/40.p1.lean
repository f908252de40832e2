set_option maxHeartbeats 4000000 in
theorem mp_arrived : mr_p1 59 111 := by
  intro M a hI ha
  obtain ⟨hF, hcnt, hnd, hfr, hin, hnum, hout, ⟨⟨m1, m2, m3⟩, m4⟩, hsn⟩ := id hI
  unfold mr_pair
  by_cases h1 : a < 0
  · exact ⟨-3, by simp (disch := (first | assumption | omega | ((repeat (refine mr_FIX_up ?_ (by unfold mr_nst; omega))); assumption))) [x59, x59_0, x59_1, x59_4, s59_5, s59_6, x59_9, x59_12, x59_14, s59_17, s59_18, x59_21, s59_22, x59_23, x111, x111_0, x111_1, x111_4, s111_5, s111_6, x111_9, x111_12, x111_14, s111_17, s111_18, x111_21, s111_22, x111_23, x111_24, m3, h1, hI]⟩
  · by_cases h2 : a < M 0 15
    · obtain ⟨⟨q1, q2, q3⟩, -⟩ := m4 a (by omega) h2
      have q4 : ma_32 (M 78 a) = M 78 a := ma_32i (by omega) (by omega)
      exact ⟨M 78 a, by simp (disch := (first | assumption | omega | ((repeat (refine mr_FIX_up ?_ (by unfold mr_nst; omega))); assumption))) [x59, x59_0, x59_1, x59_4, s59_5, s59_6, x59_9, x59_12, x59_14, s59_17, s59_18, x59_21, s59_22, x59_23, x111, x111_0, x111_1, x111_4, s111_5, s111_6, x111_9, x111_12, x111_14, s111_17, s111_18, x111_21, s111_22, x111_23, x111_24, m3, h1, h2, q1, q4, hI]; omega⟩
    · exact ⟨-3, by simp (disch := (first | assumption | omega | ((repeat (refine mr_FIX_up ?_ (by unfold mr_nst; omega))); assumption))) [x59, x59_0, x59_1, x59_4, s59_5, s59_6, x59_9, x59_12, x59_14, s59_17, s59_18, x59_21, s59_22, x59_23, x111, x111_0, x111_1, x111_4, s111_5, s111_6, x111_9, x111_12, x111_14, s111_17, s111_18, x111_21, s111_22, x111_23, x111_24, m3, h1, h2, hI]⟩
set_option maxHeartbeats 4000000 in
theorem mp_adjoint : mr_p1 60 112 := by
  intro M a hI ha
  obtain ⟨hF, hcnt, hnd, hfr, hin, hnum, hout, ⟨⟨m1, m2, m3⟩, m4⟩, hsn⟩ := id hI
  unfold mr_pair
  by_cases h1 : a < 0
  · exact ⟨-3, by simp (disch := (first | assumption | omega | ((repeat (refine mr_FIX_up ?_ (by unfold mr_nst; omega))); assumption))) [x60, x60_0, x60_1, x60_4, s60_5, s60_6, x60_9, x60_12, x60_14, s60_17, s60_18, x60_21, s60_22, x60_23, x112, x112_0, x112_1, x112_4, s112_5, s112_6, x112_9, x112_12, x112_14, s112_17, s112_18, x112_21, s112_22, x112_23, x112_24, m3, h1, hI]⟩
  · by_cases h2 : a < M 0 15
    · obtain ⟨-, ⟨q1, q2, q3⟩⟩ := m4 a (by omega) h2
      have q4 : ma_32 (M 79 a) = M 79 a := ma_32i (by omega) (by omega)
      exact ⟨M 79 a, by simp (disch := (first | assumption | omega | ((repeat (refine mr_FIX_up ?_ (by unfold mr_nst; omega))); assumption))) [x60, x60_0, x60_1, x60_4, s60_5, s60_6, x60_9, x60_12, x60_14, s60_17, s60_18, x60_21, s60_22, x60_23, x112, x112_0, x112_1, x112_4, s112_5, s112_6, x112_9, x112_12, x112_14, s112_17, s112_18, x112_21, s112_22, x112_23, x112_24, m3, h1, h2, q1, q4, hI]; omega⟩
    · exact ⟨-3, by simp (disch := (first | assumption | omega | ((repeat (refine mr_FIX_up ?_ (by unfold mr_nst; omega))); assumption))) [x60, x60_0, x60_1, x60_4, s60_5, s60_6, x60_9, x60_12, x60_14, s60_17, s60_18, x60_21, s60_22, x60_23, x112, x112_0, x112_1, x112_4, s112_5, s112_6, x112_9, x112_12, x112_14, s112_17, s112_18, x112_21, s112_22, x112_23, x112_24, m3, h1, h2, hI]⟩
