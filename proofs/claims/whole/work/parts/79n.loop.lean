/-! the law's loop: every call answers as the model's does -/
theorem OK_oc {C : Nat × (Nat → Int32)} {μ : mM} (h : OKc C μ) : m_oc μ 0 = some 8 ∧ m_oc μ 19 = some 9 ∧ μ.2.1 = C := by
  obtain ⟨np, nr, nl, ns, PA, QA, LA, sh, I⟩ := h
  exact ⟨CV_oc (I_C I), oM_oc (I_M I), I.2.2.2.2.2.2.2.2.2.2.2⟩
theorem gs_ok {LL : Nat} {xs : Nat → Int32} {μ : mM} (h : μ.2.1 = (LL, xs)) (hL : LL ≤ 3584) {j : Nat} (hj : j < LL) : m_gs μ (nI j) = some (xs j) := by
  unfold m_gs
  have h1 : (nI j).toNatClampNeg = j := nI_clamp (by omega)
  have h2 : m_ix (nI j) LL = true := by
    unfold m_ix
    rw [h1, Bool.and_eq_true, decide_eq_true_eq, decide_eq_true_eq]
    exact ⟨nI_pos' (by omega), hj⟩
  rw [h]
  dsimp only
  rw [if_pos h2, h1]
theorem lg_self (x : Int64) : lg_cmp x x = 0 := by
  unfold lg_cmp
  simp
section loop
variable {LL : Nat} {xs : Nat → Int32} {μ : mM} {i : Nat}
theorem pl1 (i : Nat) : nI i + 1 = nI (i + 1) := nI_add1 i
theorem pl2 (i : Nat) : nI i + 2 = nI (i + 2) := by rw [n2, nI_plus]
theorem pl3 (i : Nat) : nI i + 3 = nI (i + 3) := by rw [n3, nI_plus]
theorem pl4 (i : Nat) : nI i + 4 = nI (i + 4) := by rw [show (4 : Int32) = nI 4 from rfl, nI_plus]
theorem pl5 (i : Nat) : nI i + 5 = nI (i + 5) := by rw [show (5 : Int32) = nI 5 from rfl, nI_plus]
theorem pl6 (i : Nat) : nI i + 6 = nI (i + 6) := by rw [show (6 : Int32) = nI 6 from rfl, nI_plus]
theorem pl7 (i : Nat) : nI i + 7 = nI (i + 7) := by rw [n7, nI_plus]
set_option maxHeartbeats 2000000 in
theorem op_0 (hi : i + 7 ≤ LL) (hL : LL ≤ 3584) (ok : OKc (LL, xs) μ) (w : m_wf μ) : ∃ ν, m_G 174 152 [.retAddr 0, .ref 0, .ref 19, .int (nI i)] [] μ = m_G 174 1069 [.retAddr 0, .ref 0, .ref 19, .int (nI i)] [] ν ∧ OKc (LL, xs) ν ∧ m_wf ν := by
  obtain ⟨v, μ1, μ2, e1, e2, ok2⟩ := call_letters (C := (LL, xs)) (((xs (i + 1)).toInt64 <<< ((32 : Int32).toInt64 &&& 63)) ||| ((xs (i + 2)).toInt64 &&& 4294967295)) μ ok
  obtain ⟨oc, om, oC⟩ := OK_oc ok
  obtain ⟨w1, c1, q1⟩ := m_D_oq e1 (by decide) w
  obtain ⟨w2, c2, q2⟩ := m_D_oq e2 (by decide) w1
  have o1 := q1 19 9 om
  have g : ∀ k, k < 7 → m_gs μ (nI (i + k)) = some (xs (i + k)) := fun k hk => gs_ok oC hL (by omega)
  have g1 : ∀ k, k < 7 → m_gs μ1 (nI (i + k)) = some (xs (i + k)) := fun k hk => gs_ok (c1.trans oC) hL (by omega)
  refine ⟨μ2, ?_, ok2, w2⟩
  simp (disch := first | omega | decide | with_reducible assumption) only [i174_152, i174_153, i174_154, i174_155, i174_156, i174_157, i174_158, i174_159, i174_161, i174_162, i174_163, i174_164, i174_165, i174_166, i174_167, i174_168, i174_171, i174_172, i174_173, i174_176, i174_177, i174_178, i174_179, i174_180, i174_181, i174_182, i174_183, i174_185, i174_186, i174_187, i174_188, i174_189, i174_190, i174_191, i174_192, i174_195, i174_196, i174_197, i174_200, i174_203, i174_204, pl1, pl2, g 1 (by omega), g 2 (by omega), g1 1 (by omega), g1 2 (by omega), e1, e2, b_v_s, b_i_s, b_n_s, b_r_s, b_r_n, b_m_s, b_c_s, b_c_v, if_true]
set_option maxHeartbeats 2000000 in
theorem op_1 (hi : i + 7 ≤ LL) (hL : LL ≤ 3584) (ok : OKc (LL, xs) μ) (w : m_wf μ) : ∃ ν, m_G 174 205 [.retAddr 0, .ref 0, .ref 19, .int (nI i)] [] μ = m_G 174 1069 [.retAddr 0, .ref 0, .ref 19, .int (nI i)] [] ν ∧ OKc (LL, xs) ν ∧ m_wf ν := by
  obtain ⟨v, μ1, μ2, e1, e2, ok2⟩ := call_blank (C := (LL, xs))  μ ok
  obtain ⟨oc, om, oC⟩ := OK_oc ok
  obtain ⟨w1, c1, q1⟩ := m_D_oq e1 (by decide) w
  obtain ⟨w2, c2, q2⟩ := m_D_oq e2 (by decide) w1
  have o1 := q1 19 9 om
  have g : ∀ k, k < 7 → m_gs μ (nI (i + k)) = some (xs (i + k)) := fun k hk => gs_ok oC hL (by omega)
  have g1 : ∀ k, k < 7 → m_gs μ1 (nI (i + k)) = some (xs (i + k)) := fun k hk => gs_ok (c1.trans oC) hL (by omega)
  refine ⟨μ2, ?_, ok2, w2⟩
  simp (disch := first | omega | decide | with_reducible assumption) only [i174_205, i174_206, i174_209, i174_210, i174_213, i174_216, i174_217, e1, e2, b_v_s, b_i_s, b_n_s, b_r_s, b_r_n, b_m_s, b_c_s, b_c_v, if_true]
set_option maxHeartbeats 2000000 in
theorem op_2 (hi : i + 7 ≤ LL) (hL : LL ≤ 3584) (ok : OKc (LL, xs) μ) (w : m_wf μ) : ∃ ν, m_G 174 218 [.retAddr 0, .ref 0, .ref 19, .int (nI i)] [] μ = m_G 174 1069 [.retAddr 0, .ref 0, .ref 19, .int (nI i)] [] ν ∧ OKc (LL, xs) ν ∧ m_wf ν := by
  obtain ⟨v, μ1, μ2, e1, e2, ok2⟩ := call_fault (C := (LL, xs)) (xs (i + 1)) μ ok
  obtain ⟨oc, om, oC⟩ := OK_oc ok
  obtain ⟨w1, c1, q1⟩ := m_D_oq e1 (by decide) w
  obtain ⟨w2, c2, q2⟩ := m_D_oq e2 (by decide) w1
  have o1 := q1 19 9 om
  have g : ∀ k, k < 7 → m_gs μ (nI (i + k)) = some (xs (i + k)) := fun k hk => gs_ok oC hL (by omega)
  have g1 : ∀ k, k < 7 → m_gs μ1 (nI (i + k)) = some (xs (i + k)) := fun k hk => gs_ok (c1.trans oC) hL (by omega)
  refine ⟨μ2, ?_, ok2, w2⟩
  simp (disch := first | omega | decide | with_reducible assumption) only [i174_218, i174_219, i174_220, i174_221, i174_222, i174_223, i174_224, i174_227, i174_228, i174_229, i174_230, i174_231, i174_232, i174_233, i174_236, i174_239, i174_240, pl1, g 1 (by omega), g1 1 (by omega), e1, e2, b_v_s, b_i_s, b_n_s, b_r_s, b_r_n, b_m_s, b_c_s, b_c_v, if_true]
set_option maxHeartbeats 2000000 in
theorem op_3 (hcall : CallOK (LL, xs) 64 115 []) (hi : i + 7 ≤ LL) (hL : LL ≤ 3584) (ok : OKc (LL, xs) μ) (w : m_wf μ) : ∃ ν, m_G 174 241 [.retAddr 0, .ref 0, .ref 19, .int (nI i)] [] μ = m_G 174 1069 [.retAddr 0, .ref 0, .ref 19, .int (nI i)] [] ν ∧ OKc (LL, xs) ν ∧ m_wf ν := by
  obtain ⟨v, μ1, μ2, e1, e2, ok2⟩ := hcall μ ok
  obtain ⟨oc, om, oC⟩ := OK_oc ok
  obtain ⟨w1, c1, q1⟩ := m_D_oq e1 (by decide) w
  obtain ⟨w2, c2, q2⟩ := m_D_oq e2 (by decide) w1
  have o1 := q1 19 9 om
  have g : ∀ k, k < 7 → m_gs μ (nI (i + k)) = some (xs (i + k)) := fun k hk => gs_ok oC hL (by omega)
  have g1 : ∀ k, k < 7 → m_gs μ1 (nI (i + k)) = some (xs (i + k)) := fun k hk => gs_ok (c1.trans oC) hL (by omega)
  refine ⟨μ2, ?_, ok2, w2⟩
  simp (disch := first | omega | decide | with_reducible assumption) only [i174_241, i174_242, i174_245, i174_246, i174_249, i174_252, i174_253, e1, e2, b_v_s, b_i_s, b_n_s, b_r_s, b_r_n, b_m_s, b_c_s, b_c_v, if_true]
set_option maxHeartbeats 2000000 in
theorem op_4 (hi : i + 7 ≤ LL) (hL : LL ≤ 3584) (ok : OKc (LL, xs) μ) (w : m_wf μ) : ∃ ν, m_G 174 254 [.retAddr 0, .ref 0, .ref 19, .int (nI i)] [] μ = m_G 174 1069 [.retAddr 0, .ref 0, .ref 19, .int (nI i)] [] ν ∧ OKc (LL, xs) ν ∧ m_wf ν := by
  obtain ⟨v, μ1, μ2, e1, e2, ok2⟩ := call_rule (C := (LL, xs)) (xs (i + 1)) μ ok
  obtain ⟨oc, om, oC⟩ := OK_oc ok
  obtain ⟨w1, c1, q1⟩ := m_D_oq e1 (by decide) w
  obtain ⟨w2, c2, q2⟩ := m_D_oq e2 (by decide) w1
  have o1 := q1 19 9 om
  have g : ∀ k, k < 7 → m_gs μ (nI (i + k)) = some (xs (i + k)) := fun k hk => gs_ok oC hL (by omega)
  have g1 : ∀ k, k < 7 → m_gs μ1 (nI (i + k)) = some (xs (i + k)) := fun k hk => gs_ok (c1.trans oC) hL (by omega)
  refine ⟨μ2, ?_, ok2, w2⟩
  simp (disch := first | omega | decide | with_reducible assumption) only [i174_254, i174_255, i174_256, i174_257, i174_258, i174_259, i174_260, i174_263, i174_264, i174_265, i174_266, i174_267, i174_268, i174_269, i174_272, i174_275, i174_276, pl1, g 1 (by omega), g1 1 (by omega), e1, e2, b_v_s, b_i_s, b_n_s, b_r_s, b_r_n, b_m_s, b_c_s, b_c_v, if_true]
set_option maxHeartbeats 2000000 in
theorem op_5 (hi : i + 7 ≤ LL) (hL : LL ≤ 3584) (ok : OKc (LL, xs) μ) (w : m_wf μ) : ∃ ν, m_G 174 277 [.retAddr 0, .ref 0, .ref 19, .int (nI i)] [] μ = m_G 174 1069 [.retAddr 0, .ref 0, .ref 19, .int (nI i)] [] ν ∧ OKc (LL, xs) ν ∧ m_wf ν := by
  obtain ⟨v, μ1, μ2, e1, e2, ok2⟩ := call_as (C := (LL, xs)) (xs (i + 1)) (xs (i + 2)) μ ok
  obtain ⟨oc, om, oC⟩ := OK_oc ok
  obtain ⟨w1, c1, q1⟩ := m_D_oq e1 (by decide) w
  obtain ⟨w2, c2, q2⟩ := m_D_oq e2 (by decide) w1
  have o1 := q1 19 9 om
  have g : ∀ k, k < 7 → m_gs μ (nI (i + k)) = some (xs (i + k)) := fun k hk => gs_ok oC hL (by omega)
  have g1 : ∀ k, k < 7 → m_gs μ1 (nI (i + k)) = some (xs (i + k)) := fun k hk => gs_ok (c1.trans oC) hL (by omega)
  refine ⟨μ2, ?_, ok2, w2⟩
  simp (disch := first | omega | decide | with_reducible assumption) only [i174_277, i174_278, i174_279, i174_280, i174_281, i174_282, i174_283, i174_284, i174_285, i174_286, i174_287, i174_288, i174_291, i174_292, i174_293, i174_294, i174_295, i174_296, i174_297, i174_298, i174_299, i174_300, i174_301, i174_302, i174_305, i174_308, i174_309, pl1, pl2, g 1 (by omega), g 2 (by omega), g1 1 (by omega), g1 2 (by omega), e1, e2, b_v_s, b_i_s, b_n_s, b_r_s, b_r_n, b_m_s, b_c_s, b_c_v, if_true]
set_option maxHeartbeats 2000000 in
theorem op_6 (hi : i + 7 ≤ LL) (hL : LL ≤ 3584) (ok : OKc (LL, xs) μ) (w : m_wf μ) : ∃ ν, m_G 174 310 [.retAddr 0, .ref 0, .ref 19, .int (nI i)] [] μ = m_G 174 1069 [.retAddr 0, .ref 0, .ref 19, .int (nI i)] [] ν ∧ OKc (LL, xs) ν ∧ m_wf ν := by
  obtain ⟨v, μ1, μ2, e1, e2, ok2⟩ := call_box (C := (LL, xs)) (xs (i + 1)) (xs (i + 2)) (xs (i + 3)) μ ok
  obtain ⟨oc, om, oC⟩ := OK_oc ok
  obtain ⟨w1, c1, q1⟩ := m_D_oq e1 (by decide) w
  obtain ⟨w2, c2, q2⟩ := m_D_oq e2 (by decide) w1
  have o1 := q1 19 9 om
  have g : ∀ k, k < 7 → m_gs μ (nI (i + k)) = some (xs (i + k)) := fun k hk => gs_ok oC hL (by omega)
  have g1 : ∀ k, k < 7 → m_gs μ1 (nI (i + k)) = some (xs (i + k)) := fun k hk => gs_ok (c1.trans oC) hL (by omega)
  refine ⟨μ2, ?_, ok2, w2⟩
  simp (disch := first | omega | decide | with_reducible assumption) only [i174_310, i174_311, i174_312, i174_313, i174_314, i174_315, i174_316, i174_317, i174_318, i174_319, i174_320, i174_321, i174_322, i174_323, i174_324, i174_325, i174_326, i174_329, i174_330, i174_331, i174_332, i174_333, i174_334, i174_335, i174_336, i174_337, i174_338, i174_339, i174_340, i174_341, i174_342, i174_343, i174_344, i174_345, i174_348, i174_351, i174_352, pl1, pl2, pl3, g 1 (by omega), g 2 (by omega), g 3 (by omega), g1 1 (by omega), g1 2 (by omega), g1 3 (by omega), e1, e2, b_v_s, b_i_s, b_n_s, b_r_s, b_r_n, b_m_s, b_c_s, b_c_v, if_true]
set_option maxHeartbeats 2000000 in
theorem op_7 (hi : i + 7 ≤ LL) (hL : LL ≤ 3584) (ok : OKc (LL, xs) μ) (w : m_wf μ) : ∃ ν, m_G 174 353 [.retAddr 0, .ref 0, .ref 19, .int (nI i)] [] μ = m_G 174 1069 [.retAddr 0, .ref 0, .ref 19, .int (nI i)] [] ν ∧ OKc (LL, xs) ν ∧ m_wf ν := by
  obtain ⟨v, μ1, μ2, e1, e2, ok2⟩ := call_gives (C := (LL, xs)) (xs (i + 1)) (xs (i + 2)) μ ok
  obtain ⟨oc, om, oC⟩ := OK_oc ok
  obtain ⟨w1, c1, q1⟩ := m_D_oq e1 (by decide) w
  obtain ⟨w2, c2, q2⟩ := m_D_oq e2 (by decide) w1
  have o1 := q1 19 9 om
  have g : ∀ k, k < 7 → m_gs μ (nI (i + k)) = some (xs (i + k)) := fun k hk => gs_ok oC hL (by omega)
  have g1 : ∀ k, k < 7 → m_gs μ1 (nI (i + k)) = some (xs (i + k)) := fun k hk => gs_ok (c1.trans oC) hL (by omega)
  refine ⟨μ2, ?_, ok2, w2⟩
  simp (disch := first | omega | decide | with_reducible assumption) only [i174_353, i174_354, i174_355, i174_356, i174_357, i174_358, i174_359, i174_360, i174_361, i174_362, i174_363, i174_364, i174_367, i174_368, i174_369, i174_370, i174_371, i174_372, i174_373, i174_374, i174_375, i174_376, i174_377, i174_378, i174_381, i174_384, i174_385, pl1, pl2, g 1 (by omega), g 2 (by omega), g1 1 (by omega), g1 2 (by omega), e1, e2, b_v_s, b_i_s, b_n_s, b_r_s, b_r_n, b_m_s, b_c_s, b_c_v, if_true]
set_option maxHeartbeats 2000000 in
theorem op_8 (hi : i + 7 ≤ LL) (hL : LL ≤ 3584) (ok : OKc (LL, xs) μ) (w : m_wf μ) : ∃ ν, m_G 174 386 [.retAddr 0, .ref 0, .ref 19, .int (nI i)] [] μ = m_G 174 1069 [.retAddr 0, .ref 0, .ref 19, .int (nI i)] [] ν ∧ OKc (LL, xs) ν ∧ m_wf ν := by
  obtain ⟨v, μ1, μ2, e1, e2, ok2⟩ := call_word (C := (LL, xs)) (xs (i + 1)) (xs (i + 2)) (xs (i + 3)) μ ok
  obtain ⟨oc, om, oC⟩ := OK_oc ok
  obtain ⟨w1, c1, q1⟩ := m_D_oq e1 (by decide) w
  obtain ⟨w2, c2, q2⟩ := m_D_oq e2 (by decide) w1
  have o1 := q1 19 9 om
  have g : ∀ k, k < 7 → m_gs μ (nI (i + k)) = some (xs (i + k)) := fun k hk => gs_ok oC hL (by omega)
  have g1 : ∀ k, k < 7 → m_gs μ1 (nI (i + k)) = some (xs (i + k)) := fun k hk => gs_ok (c1.trans oC) hL (by omega)
  refine ⟨μ2, ?_, ok2, w2⟩
  simp (disch := first | omega | decide | with_reducible assumption) only [i174_386, i174_387, i174_388, i174_389, i174_390, i174_391, i174_392, i174_393, i174_394, i174_395, i174_396, i174_397, i174_398, i174_399, i174_400, i174_401, i174_402, i174_405, i174_406, i174_407, i174_408, i174_409, i174_410, i174_411, i174_412, i174_413, i174_414, i174_415, i174_416, i174_417, i174_418, i174_419, i174_420, i174_421, i174_424, i174_427, i174_428, pl1, pl2, pl3, g 1 (by omega), g 2 (by omega), g 3 (by omega), g1 1 (by omega), g1 2 (by omega), g1 3 (by omega), e1, e2, b_v_s, b_i_s, b_n_s, b_r_s, b_r_n, b_m_s, b_c_s, b_c_v, if_true]
set_option maxHeartbeats 2000000 in
theorem op_9 (hi : i + 7 ≤ LL) (hL : LL ≤ 3584) (ok : OKc (LL, xs) μ) (w : m_wf μ) : ∃ ν, m_G 174 429 [.retAddr 0, .ref 0, .ref 19, .int (nI i)] [] μ = m_G 174 1069 [.retAddr 0, .ref 0, .ref 19, .int (nI i)] [] ν ∧ OKc (LL, xs) ν ∧ m_wf ν := by
  obtain ⟨v, μ1, μ2, e1, e2, ok2⟩ := call_within (C := (LL, xs)) (xs (i + 1)) (xs (i + 2)) (xs (i + 3)) μ ok
  obtain ⟨oc, om, oC⟩ := OK_oc ok
  obtain ⟨w1, c1, q1⟩ := m_D_oq e1 (by decide) w
  obtain ⟨w2, c2, q2⟩ := m_D_oq e2 (by decide) w1
  have o1 := q1 19 9 om
  have g : ∀ k, k < 7 → m_gs μ (nI (i + k)) = some (xs (i + k)) := fun k hk => gs_ok oC hL (by omega)
  have g1 : ∀ k, k < 7 → m_gs μ1 (nI (i + k)) = some (xs (i + k)) := fun k hk => gs_ok (c1.trans oC) hL (by omega)
  refine ⟨μ2, ?_, ok2, w2⟩
  simp (disch := first | omega | decide | with_reducible assumption) only [i174_429, i174_430, i174_431, i174_432, i174_433, i174_434, i174_435, i174_436, i174_437, i174_438, i174_439, i174_440, i174_441, i174_442, i174_443, i174_444, i174_445, i174_448, i174_449, i174_450, i174_451, i174_452, i174_453, i174_454, i174_455, i174_456, i174_457, i174_458, i174_459, i174_460, i174_461, i174_462, i174_463, i174_464, i174_467, i174_470, i174_471, pl1, pl2, pl3, g 1 (by omega), g 2 (by omega), g 3 (by omega), g1 1 (by omega), g1 2 (by omega), g1 3 (by omega), e1, e2, b_v_s, b_i_s, b_n_s, b_r_s, b_r_n, b_m_s, b_c_s, b_c_v, if_true]
set_option maxHeartbeats 2000000 in
theorem op_10 (hi : i + 7 ≤ LL) (hL : LL ≤ 3584) (ok : OKc (LL, xs) μ) (w : m_wf μ) : ∃ ν, m_G 174 472 [.retAddr 0, .ref 0, .ref 19, .int (nI i)] [] μ = m_G 174 1069 [.retAddr 0, .ref 0, .ref 19, .int (nI i)] [] ν ∧ OKc (LL, xs) ν ∧ m_wf ν := by
  obtain ⟨v, μ1, μ2, e1, e2, ok2⟩ := call_mark (C := (LL, xs)) (xs (i + 1)) (xs (i + 2)) (xs (i + 3)) μ ok
  obtain ⟨oc, om, oC⟩ := OK_oc ok
  obtain ⟨w1, c1, q1⟩ := m_D_oq e1 (by decide) w
  obtain ⟨w2, c2, q2⟩ := m_D_oq e2 (by decide) w1
  have o1 := q1 19 9 om
  have g : ∀ k, k < 7 → m_gs μ (nI (i + k)) = some (xs (i + k)) := fun k hk => gs_ok oC hL (by omega)
  have g1 : ∀ k, k < 7 → m_gs μ1 (nI (i + k)) = some (xs (i + k)) := fun k hk => gs_ok (c1.trans oC) hL (by omega)
  refine ⟨μ2, ?_, ok2, w2⟩
  simp (disch := first | omega | decide | with_reducible assumption) only [i174_472, i174_473, i174_474, i174_475, i174_476, i174_477, i174_478, i174_479, i174_480, i174_481, i174_482, i174_483, i174_484, i174_485, i174_486, i174_487, i174_488, i174_491, i174_492, i174_493, i174_494, i174_495, i174_496, i174_497, i174_498, i174_499, i174_500, i174_501, i174_502, i174_503, i174_504, i174_505, i174_506, i174_507, i174_510, i174_513, i174_514, pl1, pl2, pl3, g 1 (by omega), g 2 (by omega), g 3 (by omega), g1 1 (by omega), g1 2 (by omega), g1 3 (by omega), e1, e2, b_v_s, b_i_s, b_n_s, b_r_s, b_r_n, b_m_s, b_c_s, b_c_v, if_true]
set_option maxHeartbeats 2000000 in
theorem op_11 (hi : i + 7 ≤ LL) (hL : LL ≤ 3584) (ok : OKc (LL, xs) μ) (w : m_wf μ) : ∃ ν, m_G 174 515 [.retAddr 0, .ref 0, .ref 19, .int (nI i)] [] μ = m_G 174 1069 [.retAddr 0, .ref 0, .ref 19, .int (nI i)] [] ν ∧ OKc (LL, xs) ν ∧ m_wf ν := by
  obtain ⟨v, μ1, μ2, e1, e2, ok2⟩ := call_whole (C := (LL, xs)) (xs (i + 1)) (decide (¬ xs (i + 2) = 0)) μ ok
  obtain ⟨oc, om, oC⟩ := OK_oc ok
  obtain ⟨w1, c1, q1⟩ := m_D_oq e1 (by decide) w
  obtain ⟨w2, c2, q2⟩ := m_D_oq e2 (by decide) w1
  have o1 := q1 19 9 om
  have g : ∀ k, k < 7 → m_gs μ (nI (i + k)) = some (xs (i + k)) := fun k hk => gs_ok oC hL (by omega)
  have g1 : ∀ k, k < 7 → m_gs μ1 (nI (i + k)) = some (xs (i + k)) := fun k hk => gs_ok (c1.trans oC) hL (by omega)
  refine ⟨μ2, ?_, ok2, w2⟩
  by_cases z : xs (i + 2) = 0
  · rw [show decide (¬ xs (i + 2) = 0) = false from decide_eq_false (fun q => q z), bI_f] at e1 e2
    simp (disch := first | omega | decide | with_reducible assumption) only [i174_515, i174_516, i174_517, i174_518, i174_519, i174_520, i174_521, i174_522, i174_523, i174_524, i174_525, i174_526, i174_529, i174_530, i174_533, i174_534, i174_537, i174_538, i174_539, i174_540, i174_541, i174_542, i174_543, i174_544, i174_545, i174_546, i174_547, i174_548, i174_551, i174_552, i174_555, i174_556, i174_559, i174_562, i174_563, pl1, pl2, g 1 (by omega), g 2 (by omega), g1 1 (by omega), g1 2 (by omega), z, e1, e2, b_v_s, b_i_s, b_n_s, b_r_s, b_r_n, b_m_s, b_c_s, b_c_v, if_true]
  · rw [show decide (¬ xs (i + 2) = 0) = true from decide_eq_true z, bI_t] at e1 e2
    simp (disch := first | omega | decide | with_reducible assumption) only [i174_515, i174_516, i174_517, i174_518, i174_519, i174_520, i174_521, i174_522, i174_523, i174_524, i174_525, i174_526, i174_529, i174_530, i174_533, i174_534, i174_537, i174_538, i174_539, i174_540, i174_541, i174_542, i174_543, i174_544, i174_545, i174_546, i174_547, i174_548, i174_551, i174_552, i174_555, i174_556, i174_559, i174_562, i174_563, pl1, pl2, g 1 (by omega), g 2 (by omega), g1 1 (by omega), g1 2 (by omega), z, e1, e2, b_v_s, b_i_s, b_n_s, b_r_s, b_r_n, b_m_s, b_c_s, b_c_v, if_true, if_false]
set_option maxHeartbeats 2000000 in
theorem op_12 (hi : i + 7 ≤ LL) (hL : LL ≤ 3584) (ok : OKc (LL, xs) μ) (w : m_wf μ) : ∃ ν, m_G 174 564 [.retAddr 0, .ref 0, .ref 19, .int (nI i)] [] μ = m_G 174 1069 [.retAddr 0, .ref 0, .ref 19, .int (nI i)] [] ν ∧ OKc (LL, xs) ν ∧ m_wf ν := by
  obtain ⟨v, μ1, μ2, e1, e2, ok2⟩ := call_fits (C := (LL, xs)) (xs (i + 1)) μ ok
  obtain ⟨oc, om, oC⟩ := OK_oc ok
  obtain ⟨w1, c1, q1⟩ := m_D_oq e1 (by decide) w
  obtain ⟨w2, c2, q2⟩ := m_D_oq e2 (by decide) w1
  have o1 := q1 19 9 om
  have g : ∀ k, k < 7 → m_gs μ (nI (i + k)) = some (xs (i + k)) := fun k hk => gs_ok oC hL (by omega)
  have g1 : ∀ k, k < 7 → m_gs μ1 (nI (i + k)) = some (xs (i + k)) := fun k hk => gs_ok (c1.trans oC) hL (by omega)
  refine ⟨μ2, ?_, ok2, w2⟩
  simp (disch := first | omega | decide | with_reducible assumption) only [i174_564, i174_565, i174_566, i174_567, i174_568, i174_569, i174_570, i174_573, i174_574, i174_575, i174_576, i174_577, i174_578, i174_579, i174_582, i174_585, i174_586, pl1, g 1 (by omega), g1 1 (by omega), e1, e2, b_v_s, b_i_s, b_n_s, b_r_s, b_r_n, b_m_s, b_c_s, b_c_v, if_true]
set_option maxHeartbeats 2000000 in
theorem op_13 (hi : i + 7 ≤ LL) (hL : LL ≤ 3584) (ok : OKc (LL, xs) μ) (w : m_wf μ) : ∃ ν, m_G 174 587 [.retAddr 0, .ref 0, .ref 19, .int (nI i)] [] μ = m_G 174 1069 [.retAddr 0, .ref 0, .ref 19, .int (nI i)] [] ν ∧ OKc (LL, xs) ν ∧ m_wf ν := by
  obtain ⟨v, μ1, μ2, e1, e2, ok2⟩ := call_step (C := (LL, xs)) (xs (i + 1)) (xs (i + 2)) μ ok
  obtain ⟨oc, om, oC⟩ := OK_oc ok
  obtain ⟨w1, c1, q1⟩ := m_D_oq e1 (by decide) w
  obtain ⟨w2, c2, q2⟩ := m_D_oq e2 (by decide) w1
  have o1 := q1 19 9 om
  have g : ∀ k, k < 7 → m_gs μ (nI (i + k)) = some (xs (i + k)) := fun k hk => gs_ok oC hL (by omega)
  have g1 : ∀ k, k < 7 → m_gs μ1 (nI (i + k)) = some (xs (i + k)) := fun k hk => gs_ok (c1.trans oC) hL (by omega)
  refine ⟨μ2, ?_, ok2, w2⟩
  simp (disch := first | omega | decide | with_reducible assumption) only [i174_587, i174_588, i174_589, i174_590, i174_591, i174_592, i174_593, i174_594, i174_595, i174_596, i174_597, i174_598, i174_601, i174_602, i174_603, i174_604, i174_605, i174_606, i174_607, i174_608, i174_609, i174_610, i174_611, i174_612, i174_615, i174_618, i174_619, pl1, pl2, g 1 (by omega), g 2 (by omega), g1 1 (by omega), g1 2 (by omega), e1, e2, b_v_s, b_i_s, b_n_s, b_r_s, b_r_n, b_m_s, b_c_s, b_c_v, if_true]
set_option maxHeartbeats 2000000 in
theorem op_14 (hi : i + 7 ≤ LL) (hL : LL ≤ 3584) (ok : OKc (LL, xs) μ) (w : m_wf μ) : ∃ ν, m_G 174 620 [.retAddr 0, .ref 0, .ref 19, .int (nI i)] [] μ = m_G 174 1069 [.retAddr 0, .ref 0, .ref 19, .int (nI i)] [] ν ∧ OKc (LL, xs) ν ∧ m_wf ν := by
  obtain ⟨v, μ1, μ2, e1, e2, ok2⟩ := call_leads (C := (LL, xs)) (xs (i + 1)) (xs (i + 2)) μ ok
  obtain ⟨oc, om, oC⟩ := OK_oc ok
  obtain ⟨w1, c1, q1⟩ := m_D_oq e1 (by decide) w
  obtain ⟨w2, c2, q2⟩ := m_D_oq e2 (by decide) w1
  have o1 := q1 19 9 om
  have g : ∀ k, k < 7 → m_gs μ (nI (i + k)) = some (xs (i + k)) := fun k hk => gs_ok oC hL (by omega)
  have g1 : ∀ k, k < 7 → m_gs μ1 (nI (i + k)) = some (xs (i + k)) := fun k hk => gs_ok (c1.trans oC) hL (by omega)
  refine ⟨μ2, ?_, ok2, w2⟩
  simp (disch := first | omega | decide | with_reducible assumption) only [i174_620, i174_621, i174_622, i174_623, i174_624, i174_625, i174_626, i174_627, i174_628, i174_629, i174_630, i174_631, i174_634, i174_635, i174_636, i174_637, i174_638, i174_639, i174_640, i174_641, i174_642, i174_643, i174_644, i174_645, i174_648, i174_651, i174_652, pl1, pl2, g 1 (by omega), g 2 (by omega), g1 1 (by omega), g1 2 (by omega), e1, e2, b_v_s, b_i_s, b_n_s, b_r_s, b_r_n, b_m_s, b_c_s, b_c_v, if_true]
set_option maxHeartbeats 2000000 in
theorem op_15 (hi : i + 7 ≤ LL) (hL : LL ≤ 3584) (ok : OKc (LL, xs) μ) (w : m_wf μ) : ∃ ν, m_G 174 653 [.retAddr 0, .ref 0, .ref 19, .int (nI i)] [] μ = m_G 174 1069 [.retAddr 0, .ref 0, .ref 19, .int (nI i)] [] ν ∧ OKc (LL, xs) ν ∧ m_wf ν := by
  obtain ⟨v, μ1, μ2, e1, e2, ok2⟩ := call_ask (C := (LL, xs)) (xs (i + 1)) μ ok
  obtain ⟨oc, om, oC⟩ := OK_oc ok
  obtain ⟨w1, c1, q1⟩ := m_D_oq e1 (by decide) w
  obtain ⟨w2, c2, q2⟩ := m_D_oq e2 (by decide) w1
  have o1 := q1 19 9 om
  have g : ∀ k, k < 7 → m_gs μ (nI (i + k)) = some (xs (i + k)) := fun k hk => gs_ok oC hL (by omega)
  have g1 : ∀ k, k < 7 → m_gs μ1 (nI (i + k)) = some (xs (i + k)) := fun k hk => gs_ok (c1.trans oC) hL (by omega)
  refine ⟨μ2, ?_, ok2, w2⟩
  simp (disch := first | omega | decide | with_reducible assumption) only [i174_653, i174_654, i174_655, i174_656, i174_657, i174_658, i174_659, i174_662, i174_663, i174_664, i174_665, i174_666, i174_667, i174_668, i174_671, i174_674, i174_675, pl1, g 1 (by omega), g1 1 (by omega), e1, e2, b_v_s, b_i_s, b_n_s, b_r_s, b_r_n, b_m_s, b_c_s, b_c_v, if_true]
set_option maxHeartbeats 2000000 in
theorem op_16 (hi : i + 7 ≤ LL) (hL : LL ≤ 3584) (ok : OKc (LL, xs) μ) (w : m_wf μ) : ∃ ν, m_G 174 676 [.retAddr 0, .ref 0, .ref 19, .int (nI i)] [] μ = m_G 174 1069 [.retAddr 0, .ref 0, .ref 19, .int (nI i)] [] ν ∧ OKc (LL, xs) ν ∧ m_wf ν := by
  obtain ⟨v, μ1, μ2, e1, e2, ok2⟩ := call_law (C := (LL, xs)) (xs (i + 1)) (xs (i + 2)) (xs (i + 3)) μ ok
  obtain ⟨oc, om, oC⟩ := OK_oc ok
  obtain ⟨w1, c1, q1⟩ := m_D_oq e1 (by decide) w
  obtain ⟨w2, c2, q2⟩ := m_D_oq e2 (by decide) w1
  have o1 := q1 19 9 om
  have g : ∀ k, k < 7 → m_gs μ (nI (i + k)) = some (xs (i + k)) := fun k hk => gs_ok oC hL (by omega)
  have g1 : ∀ k, k < 7 → m_gs μ1 (nI (i + k)) = some (xs (i + k)) := fun k hk => gs_ok (c1.trans oC) hL (by omega)
  refine ⟨μ2, ?_, ok2, w2⟩
  simp (disch := first | omega | decide | with_reducible assumption) only [i174_676, i174_677, i174_678, i174_679, i174_680, i174_681, i174_682, i174_683, i174_684, i174_685, i174_686, i174_687, i174_688, i174_689, i174_690, i174_691, i174_692, i174_695, i174_696, i174_697, i174_698, i174_699, i174_700, i174_701, i174_702, i174_703, i174_704, i174_705, i174_706, i174_707, i174_708, i174_709, i174_710, i174_711, i174_714, i174_717, i174_718, pl1, pl2, pl3, g 1 (by omega), g 2 (by omega), g 3 (by omega), g1 1 (by omega), g1 2 (by omega), g1 3 (by omega), e1, e2, b_v_s, b_i_s, b_n_s, b_r_s, b_r_n, b_m_s, b_c_s, b_c_v, if_true]
set_option maxHeartbeats 2000000 in
theorem op_17 (hi : i + 7 ≤ LL) (hL : LL ≤ 3584) (ok : OKc (LL, xs) μ) (w : m_wf μ) : ∃ ν, m_G 174 719 [.retAddr 0, .ref 0, .ref 19, .int (nI i)] [] μ = m_G 174 1069 [.retAddr 0, .ref 0, .ref 19, .int (nI i)] [] ν ∧ OKc (LL, xs) ν ∧ m_wf ν := by
  obtain ⟨v, μ1, μ2, e1, e2, ok2⟩ := call_holds (C := (LL, xs)) (xs (i + 1)) (xs (i + 2)) (xs (i + 3)) μ ok
  obtain ⟨oc, om, oC⟩ := OK_oc ok
  obtain ⟨w1, c1, q1⟩ := m_D_oq e1 (by decide) w
  obtain ⟨w2, c2, q2⟩ := m_D_oq e2 (by decide) w1
  have o1 := q1 19 9 om
  have g : ∀ k, k < 7 → m_gs μ (nI (i + k)) = some (xs (i + k)) := fun k hk => gs_ok oC hL (by omega)
  have g1 : ∀ k, k < 7 → m_gs μ1 (nI (i + k)) = some (xs (i + k)) := fun k hk => gs_ok (c1.trans oC) hL (by omega)
  refine ⟨μ2, ?_, ok2, w2⟩
  simp (disch := first | omega | decide | with_reducible assumption) only [i174_719, i174_720, i174_721, i174_722, i174_723, i174_724, i174_725, i174_726, i174_727, i174_728, i174_729, i174_730, i174_731, i174_732, i174_733, i174_734, i174_735, i174_738, i174_739, i174_740, i174_741, i174_742, i174_743, i174_744, i174_745, i174_746, i174_747, i174_748, i174_749, i174_750, i174_751, i174_752, i174_753, i174_754, i174_757, i174_760, i174_761, pl1, pl2, pl3, g 1 (by omega), g 2 (by omega), g 3 (by omega), g1 1 (by omega), g1 2 (by omega), g1 3 (by omega), e1, e2, b_v_s, b_i_s, b_n_s, b_r_s, b_r_n, b_m_s, b_c_s, b_c_v, if_true]
set_option maxHeartbeats 2000000 in
theorem op_18 (hi : i + 7 ≤ LL) (hL : LL ≤ 3584) (ok : OKc (LL, xs) μ) (w : m_wf μ) : ∃ ν, m_G 174 762 [.retAddr 0, .ref 0, .ref 19, .int (nI i)] [] μ = m_G 174 1069 [.retAddr 0, .ref 0, .ref 19, .int (nI i)] [] ν ∧ OKc (LL, xs) ν ∧ m_wf ν := by
  obtain ⟨v, μ1, μ2, e1, e2, ok2⟩ := call_broken (C := (LL, xs)) (xs (i + 1)) (xs (i + 2)) μ ok
  obtain ⟨oc, om, oC⟩ := OK_oc ok
  obtain ⟨w1, c1, q1⟩ := m_D_oq e1 (by decide) w
  obtain ⟨w2, c2, q2⟩ := m_D_oq e2 (by decide) w1
  have o1 := q1 19 9 om
  have g : ∀ k, k < 7 → m_gs μ (nI (i + k)) = some (xs (i + k)) := fun k hk => gs_ok oC hL (by omega)
  have g1 : ∀ k, k < 7 → m_gs μ1 (nI (i + k)) = some (xs (i + k)) := fun k hk => gs_ok (c1.trans oC) hL (by omega)
  refine ⟨μ2, ?_, ok2, w2⟩
  simp (disch := first | omega | decide | with_reducible assumption) only [i174_762, i174_763, i174_764, i174_765, i174_766, i174_767, i174_768, i174_769, i174_770, i174_771, i174_772, i174_773, i174_776, i174_777, i174_778, i174_779, i174_780, i174_781, i174_782, i174_783, i174_784, i174_785, i174_786, i174_787, i174_790, i174_793, i174_794, pl1, pl2, g 1 (by omega), g 2 (by omega), g1 1 (by omega), g1 2 (by omega), e1, e2, b_v_s, b_i_s, b_n_s, b_r_s, b_r_n, b_m_s, b_c_s, b_c_v, if_true]
set_option maxHeartbeats 2000000 in
theorem op_19 (hi : i + 7 ≤ LL) (hL : LL ≤ 3584) (ok : OKc (LL, xs) μ) (w : m_wf μ) : ∃ ν, m_G 174 795 [.retAddr 0, .ref 0, .ref 19, .int (nI i)] [] μ = m_G 174 1069 [.retAddr 0, .ref 0, .ref 19, .int (nI i)] [] ν ∧ OKc (LL, xs) ν ∧ m_wf ν := by
  obtain ⟨v, μ1, μ2, e1, e2, ok2⟩ := call_mend (C := (LL, xs)) (xs (i + 1)) (xs (i + 2)) (xs (i + 3)) (xs (i + 4)) μ ok
  obtain ⟨oc, om, oC⟩ := OK_oc ok
  obtain ⟨w1, c1, q1⟩ := m_D_oq e1 (by decide) w
  obtain ⟨w2, c2, q2⟩ := m_D_oq e2 (by decide) w1
  have o1 := q1 19 9 om
  have g : ∀ k, k < 7 → m_gs μ (nI (i + k)) = some (xs (i + k)) := fun k hk => gs_ok oC hL (by omega)
  have g1 : ∀ k, k < 7 → m_gs μ1 (nI (i + k)) = some (xs (i + k)) := fun k hk => gs_ok (c1.trans oC) hL (by omega)
  refine ⟨μ2, ?_, ok2, w2⟩
  simp (disch := first | omega | decide | with_reducible assumption) only [i174_795, i174_796, i174_797, i174_798, i174_799, i174_800, i174_801, i174_802, i174_803, i174_804, i174_805, i174_806, i174_807, i174_808, i174_809, i174_810, i174_811, i174_812, i174_813, i174_814, i174_815, i174_816, i174_819, i174_820, i174_821, i174_822, i174_823, i174_824, i174_825, i174_826, i174_827, i174_828, i174_829, i174_830, i174_831, i174_832, i174_833, i174_834, i174_835, i174_836, i174_837, i174_838, i174_839, i174_840, i174_843, i174_846, i174_847, pl1, pl2, pl3, pl4, g 1 (by omega), g 2 (by omega), g 3 (by omega), g 4 (by omega), g1 1 (by omega), g1 2 (by omega), g1 3 (by omega), g1 4 (by omega), e1, e2, b_v_s, b_i_s, b_n_s, b_r_s, b_r_n, b_m_s, b_c_s, b_c_v, if_true]
set_option maxHeartbeats 2000000 in
theorem op_20 (hi : i + 7 ≤ LL) (hL : LL ≤ 3584) (ok : OKc (LL, xs) μ) (w : m_wf μ) : ∃ ν, m_G 174 848 [.retAddr 0, .ref 0, .ref 19, .int (nI i)] [] μ = m_G 174 1069 [.retAddr 0, .ref 0, .ref 19, .int (nI i)] [] ν ∧ OKc (LL, xs) ν ∧ m_wf ν := by
  obtain ⟨v, μ1, μ2, e1, e2, ok2⟩ := call_like (C := (LL, xs)) (xs (i + 1)) (xs (i + 2)) μ ok
  obtain ⟨oc, om, oC⟩ := OK_oc ok
  obtain ⟨w1, c1, q1⟩ := m_D_oq e1 (by decide) w
  obtain ⟨w2, c2, q2⟩ := m_D_oq e2 (by decide) w1
  have o1 := q1 19 9 om
  have g : ∀ k, k < 7 → m_gs μ (nI (i + k)) = some (xs (i + k)) := fun k hk => gs_ok oC hL (by omega)
  have g1 : ∀ k, k < 7 → m_gs μ1 (nI (i + k)) = some (xs (i + k)) := fun k hk => gs_ok (c1.trans oC) hL (by omega)
  refine ⟨μ2, ?_, ok2, w2⟩
  simp (disch := first | omega | decide | with_reducible assumption) only [i174_848, i174_849, i174_850, i174_851, i174_852, i174_853, i174_854, i174_855, i174_856, i174_857, i174_858, i174_859, i174_862, i174_863, i174_864, i174_865, i174_866, i174_867, i174_868, i174_869, i174_870, i174_871, i174_872, i174_873, i174_876, i174_879, i174_880, pl1, pl2, g 1 (by omega), g 2 (by omega), g1 1 (by omega), g1 2 (by omega), e1, e2, b_v_s, b_i_s, b_n_s, b_r_s, b_r_n, b_m_s, b_c_s, b_c_v, if_true]
set_option maxHeartbeats 2000000 in
theorem op_21 (hi : i + 7 ≤ LL) (hL : LL ≤ 3584) (ok : OKc (LL, xs) μ) (w : m_wf μ) : ∃ ν, m_G 174 881 [.retAddr 0, .ref 0, .ref 19, .int (nI i)] [] μ = m_G 174 1069 [.retAddr 0, .ref 0, .ref 19, .int (nI i)] [] ν ∧ OKc (LL, xs) ν ∧ m_wf ν := by
  obtain ⟨v, μ1, μ2, e1, e2, ok2⟩ := call_nearest (C := (LL, xs)) (xs (i + 1)) μ ok
  obtain ⟨oc, om, oC⟩ := OK_oc ok
  obtain ⟨w1, c1, q1⟩ := m_D_oq e1 (by decide) w
  obtain ⟨w2, c2, q2⟩ := m_D_oq e2 (by decide) w1
  have o1 := q1 19 9 om
  have g : ∀ k, k < 7 → m_gs μ (nI (i + k)) = some (xs (i + k)) := fun k hk => gs_ok oC hL (by omega)
  have g1 : ∀ k, k < 7 → m_gs μ1 (nI (i + k)) = some (xs (i + k)) := fun k hk => gs_ok (c1.trans oC) hL (by omega)
  refine ⟨μ2, ?_, ok2, w2⟩
  simp (disch := first | omega | decide | with_reducible assumption) only [i174_881, i174_882, i174_883, i174_884, i174_885, i174_886, i174_887, i174_890, i174_891, i174_892, i174_893, i174_894, i174_895, i174_896, i174_899, i174_902, i174_903, pl1, g 1 (by omega), g1 1 (by omega), e1, e2, b_v_s, b_i_s, b_n_s, b_r_s, b_r_n, b_m_s, b_c_s, b_c_v, if_true]
set_option maxHeartbeats 2000000 in
theorem op_22 (hi : i + 7 ≤ LL) (hL : LL ≤ 3584) (ok : OKc (LL, xs) μ) (w : m_wf μ) : ∃ ν, m_G 174 904 [.retAddr 0, .ref 0, .ref 19, .int (nI i)] [] μ = m_G 174 1069 [.retAddr 0, .ref 0, .ref 19, .int (nI i)] [] ν ∧ OKc (LL, xs) ν ∧ m_wf ν := by
  obtain ⟨v, μ1, μ2, e1, e2, ok2⟩ := call_joined (C := (LL, xs)) (xs (i + 1)) (xs (i + 2)) (xs (i + 3)) (xs (i + 4)) (xs (i + 5)) (xs (i + 6)) μ ok
  obtain ⟨oc, om, oC⟩ := OK_oc ok
  obtain ⟨w1, c1, q1⟩ := m_D_oq e1 (by decide) w
  obtain ⟨w2, c2, q2⟩ := m_D_oq e2 (by decide) w1
  have o1 := q1 19 9 om
  have g : ∀ k, k < 7 → m_gs μ (nI (i + k)) = some (xs (i + k)) := fun k hk => gs_ok oC hL (by omega)
  have g1 : ∀ k, k < 7 → m_gs μ1 (nI (i + k)) = some (xs (i + k)) := fun k hk => gs_ok (c1.trans oC) hL (by omega)
  refine ⟨μ2, ?_, ok2, w2⟩
  simp (disch := first | omega | decide | with_reducible assumption) only [i174_904, i174_905, i174_906, i174_907, i174_908, i174_909, i174_910, i174_911, i174_912, i174_913, i174_914, i174_915, i174_916, i174_917, i174_918, i174_919, i174_920, i174_921, i174_922, i174_923, i174_924, i174_925, i174_926, i174_927, i174_928, i174_929, i174_930, i174_931, i174_932, i174_934, i174_935, i174_936, i174_939, i174_940, i174_941, i174_942, i174_943, i174_944, i174_945, i174_946, i174_947, i174_948, i174_949, i174_950, i174_951, i174_952, i174_953, i174_954, i174_955, i174_956, i174_957, i174_958, i174_959, i174_960, i174_961, i174_962, i174_963, i174_964, i174_965, i174_966, i174_967, i174_969, i174_970, i174_971, i174_974, i174_977, i174_978, pl1, pl2, pl3, pl4, pl5, pl6, g 1 (by omega), g 2 (by omega), g 3 (by omega), g 4 (by omega), g 5 (by omega), g 6 (by omega), g1 1 (by omega), g1 2 (by omega), g1 3 (by omega), g1 4 (by omega), g1 5 (by omega), g1 6 (by omega), e1, e2, b_v_s, b_i_s, b_n_s, b_r_s, b_r_n, b_m_s, b_c_s, b_c_v, if_true]
set_option maxHeartbeats 2000000 in
theorem op_23 (hi : i + 7 ≤ LL) (hL : LL ≤ 3584) (ok : OKc (LL, xs) μ) (w : m_wf μ) : ∃ ν, m_G 174 979 [.retAddr 0, .ref 0, .ref 19, .int (nI i)] [] μ = m_G 174 1069 [.retAddr 0, .ref 0, .ref 19, .int (nI i)] [] ν ∧ OKc (LL, xs) ν ∧ m_wf ν := by
  obtain ⟨v, μ1, μ2, e1, e2, ok2⟩ := call_key (C := (LL, xs)) (xs (i + 1)) (xs (i + 2)) (xs (i + 3)) (xs (i + 4)) μ ok
  obtain ⟨oc, om, oC⟩ := OK_oc ok
  obtain ⟨w1, c1, q1⟩ := m_D_oq e1 (by decide) w
  obtain ⟨w2, c2, q2⟩ := m_D_oq e2 (by decide) w1
  have o1 := q1 19 9 om
  have g : ∀ k, k < 7 → m_gs μ (nI (i + k)) = some (xs (i + k)) := fun k hk => gs_ok oC hL (by omega)
  have g1 : ∀ k, k < 7 → m_gs μ1 (nI (i + k)) = some (xs (i + k)) := fun k hk => gs_ok (c1.trans oC) hL (by omega)
  refine ⟨μ2, ?_, ok2, w2⟩
  simp (disch := first | omega | decide | with_reducible assumption) only [i174_979, i174_980, i174_981, i174_982, i174_983, i174_984, i174_985, i174_986, i174_987, i174_988, i174_989, i174_990, i174_991, i174_992, i174_993, i174_994, i174_995, i174_996, i174_997, i174_998, i174_999, i174_1000, i174_1003, i174_1004, i174_1005, i174_1006, i174_1007, i174_1008, i174_1009, i174_1010, i174_1011, i174_1012, i174_1013, i174_1014, i174_1015, i174_1016, i174_1017, i174_1018, i174_1019, i174_1020, i174_1021, i174_1022, i174_1023, i174_1024, i174_1027, i174_1030, i174_1031, pl1, pl2, pl3, pl4, g 1 (by omega), g 2 (by omega), g 3 (by omega), g 4 (by omega), g1 1 (by omega), g1 2 (by omega), g1 3 (by omega), g1 4 (by omega), e1, e2, b_v_s, b_i_s, b_n_s, b_r_s, b_r_n, b_m_s, b_c_s, b_c_v, if_true]
set_option maxHeartbeats 2000000 in
theorem op_24 (hi : i + 7 ≤ LL) (hL : LL ≤ 3584) (ok : OKc (LL, xs) μ) (w : m_wf μ) : ∃ ν, m_G 174 1032 [.retAddr 0, .ref 0, .ref 19, .int (nI i)] [] μ = m_G 174 1069 [.retAddr 0, .ref 0, .ref 19, .int (nI i)] [] ν ∧ OKc (LL, xs) ν ∧ m_wf ν := by
  obtain ⟨v, μ1, μ2, e1, e2, ok2⟩ := call_count (C := (LL, xs)) (xs (i + 1)) μ ok
  obtain ⟨oc, om, oC⟩ := OK_oc ok
  obtain ⟨w1, c1, q1⟩ := m_D_oq e1 (by decide) w
  obtain ⟨w2, c2, q2⟩ := m_D_oq e2 (by decide) w1
  have o1 := q1 19 9 om
  have g : ∀ k, k < 7 → m_gs μ (nI (i + k)) = some (xs (i + k)) := fun k hk => gs_ok oC hL (by omega)
  have g1 : ∀ k, k < 7 → m_gs μ1 (nI (i + k)) = some (xs (i + k)) := fun k hk => gs_ok (c1.trans oC) hL (by omega)
  refine ⟨μ2, ?_, ok2, w2⟩
  simp (disch := first | omega | decide | with_reducible assumption) only [i174_1032, i174_1033, i174_1034, i174_1035, i174_1036, i174_1037, i174_1038, i174_1041, i174_1042, i174_1043, i174_1044, i174_1045, i174_1046, i174_1047, i174_1050, i174_1053, i174_1054, pl1, g 1 (by omega), g1 1 (by omega), e1, e2, b_v_s, b_i_s, b_n_s, b_r_s, b_r_n, b_m_s, b_c_s, b_c_v, if_true]
set_option maxHeartbeats 2000000 in
theorem op_25 (hi : i + 7 ≤ LL) (hL : LL ≤ 3584) (ok : OKc (LL, xs) μ) (w : m_wf μ) : ∃ ν, m_G 174 1055 [.retAddr 0, .ref 0, .ref 19, .int (nI i)] [] μ = m_G 174 1069 [.retAddr 0, .ref 0, .ref 19, .int (nI i)] [] ν ∧ OKc (LL, xs) ν ∧ m_wf ν := by
  obtain ⟨v, μ1, μ2, e1, e2, ok2⟩ := call_digest (C := (LL, xs))  μ ok
  obtain ⟨oc, om, oC⟩ := OK_oc ok
  obtain ⟨w1, c1, q1⟩ := m_D_oq e1 (by decide) w
  obtain ⟨w2, c2, q2⟩ := m_D_oq e2 (by decide) w1
  have o1 := q1 19 9 om
  have g : ∀ k, k < 7 → m_gs μ (nI (i + k)) = some (xs (i + k)) := fun k hk => gs_ok oC hL (by omega)
  have g1 : ∀ k, k < 7 → m_gs μ1 (nI (i + k)) = some (xs (i + k)) := fun k hk => gs_ok (c1.trans oC) hL (by omega)
  refine ⟨μ2, ?_, ok2, w2⟩
  simp (disch := first | omega | decide | with_reducible assumption) only [i174_1055, i174_1056, i174_1059, i174_1060, i174_1063, i174_1064, i174_1067, i174_1068, lg_self, e1, e2, b_v_s, b_i_s, b_n_s, b_r_s, b_r_n, b_m_s, b_c_s, b_c_v, if_true]
theorem hd_lt (hi : i ≤ LL) (hL : LL ≤ 3584) : (nI LL - 7 < nI i) = (LL < i + 7) := by
  by_cases h : 7 ≤ LL
  · rw [n7, nI_minus h, nI_ltE (by omega) (by omega)]
    exact propext ⟨fun _ => by omega, fun _ => by omega⟩
  · have key : ∀ a, a < 7 → ∀ b, b < 7 → nI a - 7 < nI b := by decide +kernel
    exact propext ⟨fun _ => by omega, fun _ => key LL (by omega) i (by omega)⟩
theorem law_loop (hpage : CallOK (LL, xs) 64 115 []) (hL : LL ≤ 3584) : ∀ r i (μ : mM), LL - i ≤ r → i ≤ LL → OKc (LL, xs) μ → m_wf μ → ∃ ν, m_G 174 18 [.retAddr 0, .ref 0, .ref 19, .int (nI i)] [] μ = some (some (.int 1), ν) ∧ OKc (LL, xs) ν := by
  intro r
  induction r with
  | zero =>
    intro i μ h1 h2 ok w
    obtain ⟨oc, om, oC⟩ := OK_oc ok
    have e0 : Int32.ofNat μ.2.1.1 = nI LL := by rw [oC]; rfl
    have hh := hd_lt h2 hL
    rw [eq_true (show LL < i + 7 by omega)] at hh
    refine ⟨μ, ?_, ok⟩
    simp (disch := first | omega | decide | with_reducible assumption) only [i174_18, i174_19, i174_20, i174_21, i174_23, i174_24, i174_27, i174_28, i174_29, i174_30, i174_32, i174_1075, i174_1076, e0, hh, if_true]
  | succ r ih =>
    intro i μ h1 h2 ok w
    obtain ⟨oc, om, oC⟩ := OK_oc ok
    have e0 : Int32.ofNat μ.2.1.1 = nI LL := by rw [oC]; rfl
    have hh := hd_lt h2 hL
    by_cases c : LL < i + 7
    · rw [eq_true c] at hh
      refine ⟨μ, ?_, ok⟩
      simp (disch := first | omega | decide | with_reducible assumption) only [i174_18, i174_19, i174_20, i174_21, i174_23, i174_24, i174_27, i174_28, i174_29, i174_30, i174_32, i174_1075, i174_1076, e0, hh, if_true]
    · rw [eq_false c] at hh
      have hi : i + 7 ≤ LL := by omega
      have g0 : m_gs μ (nI i) = some (xs i) := gs_ok oC hL (by omega)
      have go : m_G 174 18 [.retAddr 0, .ref 0, .ref 19, .int (nI i)] [] μ = m_G 174 33 [.retAddr 0, .ref 0, .ref 19, .int (nI i)] [.int (xs i &&& 31)] μ := by
        simp (disch := first | omega | decide | with_reducible assumption) only [i174_18, i174_19, i174_20, i174_21, i174_23, i174_24, i174_27, i174_28, i174_29, i174_30, i174_32, e0, hh, g0, b_v_s, b_i_s, b_n_s, b_r_s, b_r_n, b_m_s, b_c_s, b_c_v, if_false]
      have fin : ∀ ν, m_G 174 33 [.retAddr 0, .ref 0, .ref 19, .int (nI i)] [.int (xs i &&& 31)] μ = m_G 174 1069 [.retAddr 0, .ref 0, .ref 19, .int (nI i)] [] ν → OKc (LL, xs) ν → m_wf ν → ∃ ξ, m_G 174 18 [.retAddr 0, .ref 0, .ref 19, .int (nI i)] [] μ = some (some (.int 1), ξ) ∧ OKc (LL, xs) ξ := fun ν e okν wν => by
        obtain ⟨ξ, e2, ok2⟩ := ih (i + 7) ν (by omega) hi okν wν
        refine ⟨ξ, ?_, ok2⟩
        rw [go, e, i174_1069, i174_1072, pl7]
        exact e2
      cases hx : inR (xs i &&& 31) 26 with
      | false =>
        refine fin μ (i174_33_d ?_) ok w
        unfold inR at hx
        have := of_decide_eq_false hx
        omega
      | true =>
        obtain ⟨k, hk, e⟩ := inR_nI hx
        rw [e] at fin
        rcases (show k = 0 ∨ k = 1 ∨ k = 2 ∨ k = 3 ∨ k = 4 ∨ k = 5 ∨ k = 6 ∨ k = 7 ∨ k = 8 ∨ k = 9 ∨ k = 10 ∨ k = 11 ∨ k = 12 ∨ k = 13 ∨ k = 14 ∨ k = 15 ∨ k = 16 ∨ k = 17 ∨ k = 18 ∨ k = 19 ∨ k = 20 ∨ k = 21 ∨ k = 22 ∨ k = 23 ∨ k = 24 ∨ k = 25 by omega) with rfl | rfl | rfl | rfl | rfl | rfl | rfl | rfl | rfl | rfl | rfl | rfl | rfl | rfl | rfl | rfl | rfl | rfl | rfl | rfl | rfl | rfl | rfl | rfl | rfl | rfl
        · obtain ⟨ν, e3, ok3, w3⟩ := op_0 hi hL ok w
          exact fin ν ((i174_33_0).trans e3) ok3 w3
        · obtain ⟨ν, e3, ok3, w3⟩ := op_1 hi hL ok w
          exact fin ν ((i174_33_1).trans e3) ok3 w3
        · obtain ⟨ν, e3, ok3, w3⟩ := op_2 hi hL ok w
          exact fin ν ((i174_33_2).trans e3) ok3 w3
        · obtain ⟨ν, e3, ok3, w3⟩ := op_3 hpage hi hL ok w
          exact fin ν ((i174_33_3).trans e3) ok3 w3
        · obtain ⟨ν, e3, ok3, w3⟩ := op_4 hi hL ok w
          exact fin ν ((i174_33_4).trans e3) ok3 w3
        · obtain ⟨ν, e3, ok3, w3⟩ := op_5 hi hL ok w
          exact fin ν ((i174_33_5).trans e3) ok3 w3
        · obtain ⟨ν, e3, ok3, w3⟩ := op_6 hi hL ok w
          exact fin ν ((i174_33_6).trans e3) ok3 w3
        · obtain ⟨ν, e3, ok3, w3⟩ := op_7 hi hL ok w
          exact fin ν ((i174_33_7).trans e3) ok3 w3
        · obtain ⟨ν, e3, ok3, w3⟩ := op_8 hi hL ok w
          exact fin ν ((i174_33_8).trans e3) ok3 w3
        · obtain ⟨ν, e3, ok3, w3⟩ := op_9 hi hL ok w
          exact fin ν ((i174_33_9).trans e3) ok3 w3
        · obtain ⟨ν, e3, ok3, w3⟩ := op_10 hi hL ok w
          exact fin ν ((i174_33_10).trans e3) ok3 w3
        · obtain ⟨ν, e3, ok3, w3⟩ := op_11 hi hL ok w
          exact fin ν ((i174_33_11).trans e3) ok3 w3
        · obtain ⟨ν, e3, ok3, w3⟩ := op_12 hi hL ok w
          exact fin ν ((i174_33_12).trans e3) ok3 w3
        · obtain ⟨ν, e3, ok3, w3⟩ := op_13 hi hL ok w
          exact fin ν ((i174_33_13).trans e3) ok3 w3
        · obtain ⟨ν, e3, ok3, w3⟩ := op_14 hi hL ok w
          exact fin ν ((i174_33_14).trans e3) ok3 w3
        · obtain ⟨ν, e3, ok3, w3⟩ := op_15 hi hL ok w
          exact fin ν ((i174_33_15).trans e3) ok3 w3
        · obtain ⟨ν, e3, ok3, w3⟩ := op_16 hi hL ok w
          exact fin ν ((i174_33_16).trans e3) ok3 w3
        · obtain ⟨ν, e3, ok3, w3⟩ := op_17 hi hL ok w
          exact fin ν ((i174_33_17).trans e3) ok3 w3
        · obtain ⟨ν, e3, ok3, w3⟩ := op_18 hi hL ok w
          exact fin ν ((i174_33_18).trans e3) ok3 w3
        · obtain ⟨ν, e3, ok3, w3⟩ := op_19 hi hL ok w
          exact fin ν ((i174_33_19).trans e3) ok3 w3
        · obtain ⟨ν, e3, ok3, w3⟩ := op_20 hi hL ok w
          exact fin ν ((i174_33_20).trans e3) ok3 w3
        · obtain ⟨ν, e3, ok3, w3⟩ := op_21 hi hL ok w
          exact fin ν ((i174_33_21).trans e3) ok3 w3
        · obtain ⟨ν, e3, ok3, w3⟩ := op_22 hi hL ok w
          exact fin ν ((i174_33_22).trans e3) ok3 w3
        · obtain ⟨ν, e3, ok3, w3⟩ := op_23 hi hL ok w
          exact fin ν ((i174_33_23).trans e3) ok3 w3
        · obtain ⟨ν, e3, ok3, w3⟩ := op_24 hi hL ok w
          exact fin ν ((i174_33_24).trans e3) ok3 w3
        · obtain ⟨ν, e3, ok3, w3⟩ := op_25 hi hL ok w
          exact fin ν ((i174_33_25).trans e3) ok3 w3
end loop
