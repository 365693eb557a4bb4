theorem n7 : (7 : Int32) = nI 7 := rfl
section digM
variable {C : Nat × (Nat → Int32)} {μ : mM} {np nr nl ns : Nat} {PA QA LA sh : Nat → Nat}
abbrev KD_ (μ ν : mM) : Prop := K [42, 43, 44, 45, 46, 47] [(19, 37)] μ ν
theorem E_tell {ν : mM} (h : MS ν) (x : Int64) : ∃ ξ, m_D 167 [.ref 19, .long x] ν = some (none, ξ) ∧ KD_ ν ξ ∧ FL ξ 19 37 = 31 * FL ν 19 37 + x := by
  have hO := MS_O h
  have p := pL (k := 37) hO rfl (31 * FL ν 19 37 + x)
  refine ⟨wO ν 19 37 (.long (31 * FL ν 19 37 + x)), ?_, K_wL (k := 37) hO rfl _ (by simp), ?_⟩
  · simp (disch := first | omega | decide | with_reducible assumption) only [D167, i167_0, i167_1, i167_4, i167_5, i167_8, i167_9, i167_10, i167_11, i167_14, gM37 h, p, b_v_s, b_i_s, b_n_s, b_r_s, b_r_n, b_m_s, b_c_s, b_c_v]
  · rw [FL_wL hO (by rw [tm_len]; decide), if_pos ⟨rfl, rfl⟩]
theorem E_tl {ν : mM} {h : Int64} (hM : MS ν) (hh : FL ν 19 37 = h) (x : Int32) : ∃ ξ, m_D 167 [.ref 19, .long x.toInt64] ν = some (none, ξ) ∧ KD_ ν ξ ∧ FL ξ 19 37 = tl h x ∧ MS ξ ∧ m_oc ξ 19 = some 9 := by
  obtain ⟨ξ, e, k, f⟩ := E_tell hM x.toInt64
  exact ⟨ξ, e, k, by rw [f, hh, tl_def], MS_K hM k, oM_oc (MS_K hM k)⟩
theorem KD_I {ν : mM} (I : INV C μ np nr nl ns PA QA LA sh) (k : KD_ μ ν) : INV C ν np nr nl ns PA QA LA sh := INV_K I k (by decide) (by decide)
theorem KD_q {ν : mM} (k : KD_ μ ν) : Rq μ ν := K_Rq k (by decide)
set_option maxHeartbeats 4000000 in
theorem E_dgBoxes {p : Nat} {h : Int64} {ν : mM} (I : INV C μ np nr nl ns PA QA LA sh) (k0 : KD_ μ ν) (hp : p < np) (hh : FL ν 19 37 = h) : ∃ ξ, m_G 168 19 [.ref 19, .int (nI p), .int (nI 0)] [] ν = m_G 168 99 [.ref 19, .int (nI p), .int (nI (bnn (A μ 20) p))] [] ξ ∧ KD_ μ ξ ∧ FL ξ 19 37 = dgB μ p h (bnn (A μ 20) p) := by
  obtain ⟨h8, hb, h1, h24, hw, hww, hv, hPA⟩ := I_pg I hp
  obtain ⟨ξ, w, e, s, f⟩ := loop_inv (fun b ν (_ : Unit) => m_G 168 19 [.ref 19, .int (nI p), .int (nI b)] [] ν) (fun b ν => KD_ μ ν ∧ FL ν 19 37 = dgB μ p h b) (bnn (A μ 20) p) (fun b ν _ hbn P => by
    obtain ⟨s, f⟩ := P
    have hM := MS_K (I_M I) s
    have ho := oM_oc hM
    obtain ⟨n1, e1, k1, f1, hM1, ho1⟩ := E_tl hM f (A μ 21 (24 * p + b))
    obtain ⟨n2, e2, k2, f2, hM2, ho2⟩ := E_tl hM1 f1 (A μ 22 (24 * p + b))
    obtain ⟨n3, e3, k3, f3, hM3, ho3⟩ := E_tl hM2 f2 (A μ 23 (24 * p + b))
    obtain ⟨n4, e4, k4, f4, hM4, ho4⟩ := E_tl hM3 f3 (A μ 24 (24 * p + b))
    have s1 := s.tr k1
    have s2 := s1.tr k2
    have s3 := s2.tr k3
    have a20 : A ν 20 p = nI (bnn (A μ 20) p) := by rw [(KD_q s).1.1]; exact hb
    refine ⟨n4, (), ?_, s3.tr k4, f4⟩
    try dsimp only
    rw [i168_19]
    simp (disch := first | omega | decide | with_reducible assumption) only [i168_20, i168_21, i168_24, i168_25, i168_26, i168_29, i168_30, i168_31, i168_34, i168_36, i168_37, i168_38, i168_39, i168_40, i168_41, i168_42, i168_45, i168_46, i168_47, i168_50, i168_52, i168_53, i168_54, i168_55, i168_56, i168_57, i168_58, i168_61, i168_62, i168_63, i168_66, i168_68, i168_69, i168_70, i168_71, i168_72, i168_73, i168_74, i168_77, i168_78, i168_79, i168_82, i168_84, i168_85, i168_86, i168_87, i168_88, i168_89, i168_90, i168_93, i168_96, gM1 hM, ga_A (aM20 hM), gM2 hM, ga_A (aM21 hM), gM3 hM1, ga_A (aM22 hM1), gM4 hM2, ga_A (aM23 hM2), gM5 hM3, ga_A (aM24 hM3), a20, lt_t, k24, (KD_q s).1.2.1, (KD_q s1).1.2.2.1, (KD_q s2).1.2.2.2.1, (KD_q s3).1.2.2.2.2.1, e1, e2, e3, e4, b_v_s, b_i_s, b_n_s, b_r_s, b_r_n, b_m_s, b_c_s, b_c_v, if_true, nI_add1]) ν () ⟨k0, hh⟩
  refine ⟨ξ, ?_, s, f⟩
  refine (show _ = _ from e).trans ?_
  have hM := MS_K (I_M I) s
  have a20 : A ξ 20 p = nI (bnn (A μ 20) p) := by rw [(KD_q s).1.1]; exact hb
  try dsimp only
  rw [i168_19]
  simp (disch := first | omega | decide | with_reducible assumption) only [i168_20, i168_21, i168_24, i168_25, i168_26, gM1 hM, ga_A (aM20 hM), a20, lt_f, b_v_s, b_i_s, b_n_s, b_r_s, b_r_n, b_m_s, b_c_s, b_c_v, if_false]
set_option maxHeartbeats 4000000 in
theorem E_digest (I : INV C μ np nr nl ns PA QA LA sh) : ∃ ν, m_D 168 [.ref 19] μ = some (some (.long (dgAll μ np nr nl ns sh)), ν) ∧ INV C ν np nr nl ns PA QA LA sh := by
  have hM0 := I_M I
  have hnp := I_np I
  have hnr := I_nr I
  have hnl := I_nl I
  have ct : ∀ ν, KD_ μ ν → FI ν 19 0 = nI np ∧ FI ν 19 17 = nI nr ∧ FI ν 19 27 = nI nl := fun ν k => by
    have := (KD_I I k).2.2.1
    exact ⟨this.1, this.2.1, this.2.2.1⟩
  have hO := MS_O hM0
  have p0 := pL (k := 37) hO rfl 331
  have s0 : KD_ μ (wO μ 19 37 (.long 331)) := K_wL (k := 37) hO rfl _ (by simp)
  have f0 : FL (wO μ 19 37 (.long 331)) 19 37 = 331 := by rw [FL_wL hO (by rw [tm_len]; decide), if_pos ⟨rfl, rfl⟩]
  generalize wO μ 19 37 (.long 331) = ν0 at *
  obtain ⟨ν, w, e, s, f⟩ := loop_inv (fun p ν (v : Value) => m_G 168 9 [.ref 19, .int (nI p), v] [] ν) (fun p ν => KD_ μ ν ∧ FL ν 19 37 = dgPs μ p) np (fun p ν v hp P => by
    obtain ⟨s, f⟩ := P
    have hM := MS_K hM0 s
    have ho := oM_oc hM
    obtain ⟨h8, hb, h1, h24, hw, hww, hv, hPA⟩ := I_pg I hp
    obtain ⟨ξ, e1, s1, f1⟩ := E_dgBoxes I s hp f
    have hM1 := MS_K hM0 s1
    have ho1 := oM_oc hM1
    have pm := ((I_V I).2.2 p hp).2.2.1.2.2.2.1
    obtain ⟨n1, e2, k2, f2, hM2, ho2⟩ := E_tl hM1 f1 (A μ 25 p)
    have s2 := s1.tr k2
    obtain ⟨n2, e3, k3, _⟩ := E_lk (KD_I I s2) hp (show 0 < np by omega)
    have k3' := SC_K hM2 k3 (by decide)
    rw [Rq_lk (KD_q s2)] at e3
    have s3 : KD_ μ n2 := s2.tr (k3'.mono (by decide) (by decide))
    have hM3 := MS_K hM0 s3
    have ho3 := oM_oc hM3
    have f3 : FL n2 19 37 = tl (dgB μ p (dgPs μ p) (bnn (A μ 20) p)) (A μ 25 p) := by rw [← f2]; exact (k3'.2.2.2.1 19 37 (by decide)).2
    obtain ⟨n3, e4, k4, f4, hM4, ho4⟩ := E_tl hM3 f3 (lkP μ p 0)
    rw [show nI 0 = (0 : Int32) from rfl] at e3
    refine ⟨n3, .int (nI (bnn (A μ 20) p)), ?_, s3.tr k4, f4⟩
    try dsimp only
    rw [i168_9]
    simp (disch := first | omega | decide | with_reducible assumption) only [i168_10, i168_11, i168_14, i168_17, i168_18, gM0 hM, (ct ν s).1, lt_t, b_v_s, b_i_s, b_n_s, b_r_s, b_r_n, b_m_s, b_c_s, b_c_v, if_true]
    refine (show _ = _ from e1).trans ?_
    rcases pm with w0 | w1
    · rw [w0, show (0 : Int32).toInt64 = 0 by decide] at e2
      simp (disch := first | omega | decide | with_reducible assumption) only [i168_99, i168_100, i168_101, i168_104, i168_105, i168_106, i168_109, i168_110, i168_113, i168_114, i168_117, i168_118, i168_119, i168_120, i168_121, i168_124, i168_125, i168_128, i168_131, gM6 hM1, gb_A (aM25 hM1) (Or.inl rfl), (KD_q s1).1.2.2.2.2.2, w0, e2, e3, e4, b_v_s, b_i_s, b_n_s, b_r_s, b_r_n, b_m_s, b_c_s, b_c_v, if_true, nI_add1]
    · rw [w1, show (1 : Int32).toInt64 = 1 by decide] at e2
      simp (disch := first | omega | decide | with_reducible assumption) only [i168_99, i168_100, i168_101, i168_104, i168_105, i168_106, i168_109, i168_110, i168_113, i168_114, i168_117, i168_118, i168_119, i168_120, i168_121, i168_124, i168_125, i168_128, i168_131, gM6 hM1, gb_A (aM25 hM1) (Or.inl rfl), (KD_q s1).1.2.2.2.2.2, w1, ne10, e2, e3, e4, b_v_s, b_i_s, b_n_s, b_r_s, b_r_n, b_m_s, b_c_s, b_c_v, if_false, nI_add1]) ν0 m_d ⟨s0, f0⟩
  have hMa := MS_K hM0 s
  obtain ⟨ν2, w2, e2, s2, f2⟩ := loop_inv (fun r ξ (v : Value) => m_G 168 136 [.ref 19, .int (nI r), v] [] ξ) (fun r ξ => KD_ μ ξ ∧ FL ξ 19 37 = dgRs μ np nl (dgPs μ np) r) nr (fun r ξ v hr P => by
    obtain ⟨s, f⟩ := P
    have hM := MS_K hM0 s
    have ho := oM_oc hM
    obtain ⟨n1, e1, k1, f1, hM1, ho1⟩ := E_tl hM f (A μ 31 r)
    obtain ⟨ζ, w3, e3, s3, f3⟩ := loop_inv (fun p ζ (_ : Unit) => m_G 168 157 [.ref 19, .int (nI r), .int (nI p)] [] ζ) (fun p ζ => KD_ μ ζ ∧ FL ζ 19 37 = dgRp μ r nl (tl (dgRs μ np nl (dgPs μ np) r) (A μ 31 r)) p) np (fun p ζ _ hp P => by
      obtain ⟨s, f⟩ := P
      have hM := MS_K hM0 s
      have ho := oM_oc hM
      have ge := E_gn (KD_I I s) hr hp
      rw [Rq_giv (KD_q s), (KD_q s).1.1] at ge
      obtain ⟨n1, e1, k1, f1, hM1, ho1⟩ := E_tl hM f (giv μ r p (bnn (A μ 20) p) 1)
      have s1 := s.tr k1
      obtain ⟨n2, e2, k2⟩ := E_br (KD_I I s1) hr hp
      rw [Rq_br (KD_q s1)] at e2
      have k2' := SC_K hM1 k2 (by decide)
      have s2 : KD_ μ n2 := s1.tr (k2'.mono (by decide) (by decide))
      have hM2 := MS_K hM0 s2
      have ho2 := oM_oc hM2
      have f2 : FL n2 19 37 = tl (dgRp μ r nl (tl (dgRs μ np nl (dgPs μ np) r) (A μ 31 r)) p) (giv μ r p (bnn (A μ 20) p) 1) := by rw [← f1]; exact (k2'.2.2.2.1 19 37 (by decide)).2
      obtain ⟨n3, e3, k3, f3, hM3, ho3⟩ := E_tl hM2 f2 (brI μ r p nl)
      refine ⟨n3, (), ?_, s2.tr k3, f3⟩
      try dsimp only
      rw [i168_157]
      simp (disch := first | omega | decide | with_reducible assumption) only [i168_158, i168_159, i168_162, i168_165, i168_166, i168_167, i168_168, i168_169, i168_172, i168_173, i168_176, i168_177, i168_178, i168_179, i168_180, i168_183, i168_184, i168_187, i168_190, gM0 hM, (ct ζ s).1, lt_t, ge, e1, e2, e3, b_v_s, b_i_s, b_n_s, b_r_s, b_r_n, b_m_s, b_c_s, b_c_v, if_true, nI_add1]) n1 () ⟨s.tr k1, f1⟩
    refine ⟨ζ, .int (nI np), ?_, s3, f3⟩
    have hM3 := MS_K hM0 s3
    try dsimp only
    rw [i168_136]
    simp (disch := first | omega | decide | with_reducible assumption) only [i168_137, i168_138, i168_141, i168_144, i168_145, i168_146, i168_149, i168_150, i168_151, i168_152, i168_155, i168_156, gM17 hM, (ct ξ s).2.1, lt_t, gM18 hM, ga_A (aM31 hM), (KD_q s).2.1.1, e1, b_v_s, b_i_s, b_n_s, b_r_s, b_r_n, b_m_s, b_c_s, b_c_v, if_true]
    refine (show _ = _ from e3).trans ?_
    try dsimp only
    rw [i168_157]
    simp (disch := first | omega | decide | with_reducible assumption) only [i168_158, i168_159, i168_162, i168_193, i168_196, gM0 hM3, (ct ζ s3).1, lt_f, b_v_s, b_i_s, b_n_s, b_r_s, b_r_n, b_m_s, b_c_s, b_c_v, if_false, nI_add1]) ν w ⟨s, f⟩
  have hMb := MS_K hM0 s2
  obtain ⟨ν3, w3, e3, s3, f3⟩ := loop_inv (fun l ξ (_ : Unit) => m_G 168 201 [.ref 19, .int (nI l), w2] [] ξ) (fun l ξ => KD_ μ ξ ∧ FL ξ 19 37 = dgLs μ (dgRs μ np nl (dgPs μ np) nr) l) nl (fun l ξ _ hl P => by
    obtain ⟨s, f⟩ := P
    have hM := MS_K hM0 s
    have ho := oM_oc hM
    obtain ⟨n1, e1, k1, f1, hM1, ho1⟩ := E_tl hM f (A μ 39 l)
    obtain ⟨n2, e2, k2, f2, hM2, ho2⟩ := E_tl hM1 f1 (A μ 40 l)
    obtain ⟨n3, e3, k3, f3, hM3, ho3⟩ := E_tl hM2 f2 (A μ 41 l)
    have s1 := s.tr k1
    have s2 := s1.tr k2
    refine ⟨n3, (), ?_, s2.tr k3, f3⟩
    try dsimp only
    rw [i168_201]
    simp (disch := first | omega | decide | with_reducible assumption) only [i168_202, i168_203, i168_206, i168_209, i168_210, i168_211, i168_214, i168_215, i168_216, i168_217, i168_220, i168_221, i168_222, i168_225, i168_226, i168_227, i168_228, i168_231, i168_232, i168_233, i168_236, i168_237, i168_238, i168_239, i168_242, i168_245, gM27 hM, (ct ξ s).2.2, lt_t, gM28 hM, ga_A (aM39 hM), gM29 hM1, ga_A (aM40 hM1), gM30 hM2, ga_A (aM41 hM2), (KD_q s).2.2.1, (KD_q s1).2.2.2.1, (KD_q s2).2.2.2.2, e1, e2, e3, b_v_s, b_i_s, b_n_s, b_r_s, b_r_n, b_m_s, b_c_s, b_c_v, if_true, nI_add1]) ν2 () ⟨s2, f2⟩
  have hMc := MS_K hM0 s3
  have h90 := I.2.2.2.1.2.1
  have sm : ∀ ν, KD_ μ ν → FI ν 19 8 = nI ns ∧ ∀ i, i < ns → A ν 26 i = nI (sh i) := fun ν k => by
    have := (KD_I I k).2.2.2.1.2
    exact ⟨this.2.1, this.2.2.1⟩
  obtain ⟨ν4, w4, e4, s4, f4⟩ := loop_inv (fun i ξ (_ : Unit) => m_G 168 250 [.ref 19, .int (nI i), w2] [] ξ) (fun i ξ => KD_ μ ξ ∧ FL ξ 19 37 = dgSh sh (dgLs μ (dgRs μ np nl (dgPs μ np) nr) nl) i) ns (fun i ξ _ hi P => by
    obtain ⟨s, f⟩ := P
    have hM := MS_K hM0 s
    have ho := oM_oc hM
    obtain ⟨n1, e1, k1, f1, hM1, ho1⟩ := E_tl hM f (nI (sh i))
    refine ⟨n1, (), ?_, s.tr k1, f1⟩
    try dsimp only
    rw [i168_250]
    simp (disch := first | omega | decide | with_reducible assumption) only [i168_251, i168_252, i168_255, i168_258, i168_259, i168_260, i168_263, i168_264, i168_265, i168_266, i168_269, i168_272, gM8 hM, (sm ξ s).1, lt_t, gM7 hM, ga_A (aM26 hM), (sm ξ s).2 i hi, e1, b_v_s, b_i_s, b_n_s, b_r_s, b_r_n, b_m_s, b_c_s, b_c_v, if_true, nI_add1]) ν3 () ⟨s3, f3⟩
  have hMd := MS_K hM0 s4
  obtain ⟨ν5, w5, e5, s5, f5⟩ := loop_inv (fun i ξ (_ : Unit) => m_G 168 277 [.ref 19, .int (nI i), w2] [] ξ) (fun i ξ => KD_ μ ξ ∧ FL ξ 19 37 = dgCt μ np nr nl ns (dgSh sh (dgLs μ (dgRs μ np nl (dgPs μ np) nr) nl) ns) i) 7 (fun i ξ _ hi P => by
    obtain ⟨s, f⟩ := P
    have hM := MS_K hM0 s
    have ho := oM_oc hM
    have ce := E_countOf (KD_I I s) (nI i)
    rw [Rq_cnt (KD_q s)] at ce
    obtain ⟨n1, e1, k1, f1, hM1, ho1⟩ := E_tl hM f (cntV μ np nr nl ns (nI i))
    refine ⟨n1, (), ?_, s.tr k1, f1⟩
    try dsimp only
    rw [i168_277]
    simp (disch := first | omega | decide | with_reducible assumption) only [i168_278, i168_280, i168_283, i168_284, i168_285, i168_286, i168_289, i168_290, i168_293, i168_296, n7, lt_t, ce, e1, b_v_s, b_i_s, b_n_s, b_r_s, b_r_n, b_m_s, b_c_s, b_c_v, if_true, nI_add1]) ν4 () ⟨s4, f4⟩
  have hMe := MS_K hM0 s5
  refine ⟨ν5, ?_, KD_I I s5⟩
  simp (disch := first | omega | decide | with_reducible assumption) only [D168, i168_0, i168_1, i168_4, i168_7, i168_8, p0, b_v_s, b_i_s, b_n_s, b_r_s, b_r_n, b_m_s, b_c_s, b_c_v]
  refine (show _ = _ from e).trans ?_
  try dsimp only
  rw [i168_9]
  simp (disch := first | omega | decide | with_reducible assumption) only [i168_10, i168_11, i168_14, i168_134, i168_135, gM0 hMa, (ct ν s).1, lt_f, b_v_s, b_i_s, b_n_s, b_r_s, b_r_n, b_m_s, b_c_s, b_c_v, if_false]
  refine (show _ = _ from e2).trans ?_
  try dsimp only
  rw [i168_136]
  simp (disch := first | omega | decide | with_reducible assumption) only [i168_137, i168_138, i168_141, i168_199, i168_200, gM17 hMb, (ct ν2 s2).2.1, lt_f, b_v_s, b_i_s, b_n_s, b_r_s, b_r_n, b_m_s, b_c_s, b_c_v, if_false]
  refine (show _ = _ from e3).trans ?_
  try dsimp only
  rw [i168_201]
  simp (disch := first | omega | decide | with_reducible assumption) only [i168_202, i168_203, i168_206, i168_248, i168_249, gM27 hMc, (ct ν3 s3).2.2, lt_f, b_v_s, b_i_s, b_n_s, b_r_s, b_r_n, b_m_s, b_c_s, b_c_v, if_false]
  refine (show _ = _ from e4).trans ?_
  try dsimp only
  rw [i168_250]
  simp (disch := first | omega | decide | with_reducible assumption) only [i168_251, i168_252, i168_255, i168_275, i168_276, gM8 hMd, (sm ν4 s4).1, lt_f, b_v_s, b_i_s, b_n_s, b_r_s, b_r_n, b_m_s, b_c_s, b_c_v, if_false]
  refine (show _ = _ from e5).trans ?_
  try dsimp only
  rw [i168_277]
  have f6 : FL ν5 19 37 = dgAll μ np nr nl ns sh := f5
  simp (disch := first | omega | decide | with_reducible assumption) only [i168_278, i168_280, i168_299, i168_300, i168_303, n7, lt_f, gM37 hMe, f6, b_v_s, b_i_s, b_n_s, b_r_s, b_r_n, b_m_s, b_c_s, b_c_v, if_false]
theorem call_digest : ∀ μ, OKc C μ → ∃ v μ1 μ2, m_D 94 [.ref 0] μ = some (some (.long v), μ1) ∧ m_D 168 [.ref 19] μ1 = some (some (.long v), μ2) ∧ OKc C μ2 := by
  rintro μ ⟨np, nr, nl, ns, PA, QA, LA, sh, I⟩
  obtain ⟨ν, e, k, J⟩ := C_digest I
  obtain ⟨ξ, e2, J2⟩ := E_digest J
  rw [Rq_all (K_Rq k (by decide))] at e2
  exact ⟨_, ν, ξ, e, e2, I_ok J2⟩
end digM
