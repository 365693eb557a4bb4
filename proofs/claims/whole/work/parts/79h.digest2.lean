section digC2
variable {C : Nat × (Nat → Int32)} {μ : mM} {np nr nl ns : Nat} {PA QA LA sh : Nat → Nat}
set_option maxHeartbeats 4000000 in
theorem C_digest (I : INV C μ np nr nl ns PA QA LA sh) : ∃ ν, m_D 94 [.ref 0] μ = some (some (.long (dgAll μ np nr nl ns sh)), ν) ∧ K [16, 17] [] μ ν ∧ INV C ν np nr nl ns PA QA LA sh := by
  have hC := I_C I
  have hoC := CV_oc hC
  have hnp := I_np I
  have hnr := I_nr I
  have hnl := I_nl I
  obtain ⟨c3, c5, c7⟩ := I.2.2.1.2.2.2
  obtain ⟨ν, w, e, s, J⟩ := loop_inv (fun p ν (v : Value) => m_G 94 6 [.ref 0, .long (dgPs μ p), m_d, .int (nI p), v] [] ν) (fun p ν => K [16, 17] [] μ ν ∧ INV C ν np nr nl ns PA QA LA sh) np (fun p ν v hp P => by
    obtain ⟨s, J⟩ := P
    obtain ⟨ξ, e, s', J'⟩ := C_digestPage (h := dgPs μ p) J hp
    rw [Rq_dgP (K_Rq s (by decide))] at e
    refine ⟨ξ, v, ?_, s.tr s', J'⟩
    have hCn := I_C J
    have hoCn := CV_oc hCn
    have c3n : FI ν 0 3 = nI np := J.2.2.1.2.2.2.1
    have Vn := I_V J
    have gr : m_gr ν 2 (nI p) = some (some (PA p)) := by rw [gR Vn.2.1 (by omega) (by decide), (Vn.2.2 p hp).1]
    try dsimp only
    rw [i94_6]
    simp (disch := first | omega | decide | with_reducible assumption) only [i94_7, i94_8, i94_11, i94_14, i94_15, i94_16, i94_17, i94_20, i94_21, i94_22, i94_25, i94_26, i94_29, gC3 hCn, gC2 hCn, gr, c3n, lt_t, e, b_v_s, b_i_s, b_n_s, b_r_s, b_r_n, b_m_s, b_c_s, b_c_v, if_true, nI_add1, dgPs]) μ m_d ⟨K.rf μ, I⟩
  have hCn := I_C J
  have hoCn := CV_oc hCn
  obtain ⟨c3n, c5n, c7n⟩ := J.2.2.1.2.2.2
  have rq := K_Rq s (by decide)
  have hR3 := J.2.2.2.2.2.2.1
  have hL4 := J.2.2.2.2.2.2.2.1
  obtain ⟨ν2, w2, e2, s2⟩ := loop_inv (fun r ξ (v : Value) => m_G 94 34 [.ref 0, .long (dgRs μ np nl (dgPs μ np) r), m_d, .int (nI r), v] [] ξ) (fun r ξ => ξ = ν) nr (fun r ξ v hr P => by
    subst P
    obtain ⟨g1, kk, q, g2, g3, g4⟩ := hR3.2.2 r hr
    have gr : m_gr ξ 3 (nI r) = some (some (QA r)) := by rw [gR hR3.2.1 (by omega) (by decide), g1]
    have f0 : m_gf ξ (QA r) 6 0 = some (.int (A μ 31 r)) := by rw [gO (e := none) g4.1 rfl, tmv, g4.2.2.1, ← rq.2.1.1, g3]
    obtain ⟨ζ, w3, e3, s3⟩ := loop_inv (fun p ζ (_ : Unit) => m_G 94 62 [.ref 0, .long (dgRp μ r nl (tl (dgRs μ np nl (dgPs μ np) r) (A μ 31 r)) p), m_d, .int (nI r), .int (nI p)] [] ζ) (fun p ζ => ζ = ξ) np (fun p ζ _ hp P => by
      subst P
      refine ⟨_, (), ?_, rfl⟩
      have ge := C_givesR J hr hp
      have be := C_broken J hr hp
      rw [Rq_giv rq, rq.1.1] at ge
      rw [Rq_br rq] at be
      try dsimp only
      rw [i94_62]
      simp (disch := first | omega | decide | with_reducible assumption) only [i94_64, i94_65, i94_68, i94_71, i94_74, i94_75, i94_76, i94_77, i94_78, i94_80, i94_83, i94_84, i94_85, i94_86, i94_89, i94_90, i94_91, i94_92, i94_93, i94_95, i94_98, i94_99, i94_100, i94_101, i94_104, gC3 hCn, c3n, lt_t, ge, be, tl_def, b_v_s, b_i_s, b_n_s, b_r_s, b_r_n, b_m_s, b_c_s, b_c_v, if_true, nI_add1, dgRp_st]) ξ () rfl
    subst s3
    refine ⟨_, .int (nI np), ?_, rfl⟩
    try dsimp only
    rw [i94_34]
    simp (disch := first | omega | decide | with_reducible assumption) only [i94_35, i94_36, i94_39, i94_42, i94_45, i94_46, i94_47, i94_48, i94_51, i94_52, i94_53, i94_56, i94_57, i94_58, i94_59, i94_60, gC5 hCn, c5n, lt_t, gC4 hCn, gr, f0, tl_def, b_v_s, b_i_s, b_n_s, b_r_s, b_r_n, b_m_s, b_c_s, b_c_v, if_true]
    refine (show _ = _ from e3).trans ?_
    try dsimp only
    rw [i94_62]
    simp (disch := first | omega | decide | with_reducible assumption) only [i94_64, i94_65, i94_68, i94_107, i94_110, gC3 hCn, c3n, lt_f, b_v_s, b_i_s, b_n_s, b_r_s, b_r_n, b_m_s, b_c_s, b_c_v, if_false, nI_add1, dgRs_st]) ν w rfl
  subst s2
  obtain ⟨ν3, w3, e3, s3⟩ := loop_inv (fun l ξ (_ : Unit) => m_G 94 115 [.ref 0, .long (dgLs μ (dgRs μ np nl (dgPs μ np) nr) l), m_d, .int (nI l), w2] [] ξ) (fun l ξ => ξ = ν2) nl (fun l ξ _ hl P => by
    subst P
    obtain ⟨g1, g2, g3⟩ := hL4.2.2 l hl
    have gr : m_gr ξ 4 (nI l) = some (some (LA l)) := by rw [gR hL4.2.1 (by omega) (by decide), g1]
    have f0 : m_gf ξ (LA l) 1 0 = some (.int (A μ 39 l)) := by rw [gO (e := none) g2.1 rfl, tmv, g2.2.1, ← rq.2.2.1, g3]
    have f1 : m_gf ξ (LA l) 1 1 = some (.int (A μ 40 l)) := by rw [gO (e := none) g2.1 rfl, tmv, g2.2.2.1, ← rq.2.2.2.1]
    have f2 : m_gf ξ (LA l) 1 2 = some (.int (A μ 41 l)) := by rw [gO (e := none) g2.1 rfl, tmv, g2.2.2.2.1, ← rq.2.2.2.2]
    refine ⟨_, (), ?_, rfl⟩
    try dsimp only
    rw [i94_115]
    simp (disch := first | omega | decide | with_reducible assumption) only [i94_116, i94_117, i94_120, i94_123, i94_126, i94_127, i94_128, i94_129, i94_132, i94_133, i94_134, i94_137, i94_138, i94_139, i94_140, i94_143, i94_144, i94_145, i94_146, i94_149, i94_150, i94_151, i94_154, i94_155, i94_156, i94_157, i94_160, i94_161, i94_162, i94_163, i94_166, i94_167, i94_168, i94_171, i94_172, i94_173, i94_174, i94_177, gC7 hCn, c7n, lt_t, gC6 hCn, gr, f0, f1, f2, tl_def, b_v_s, b_i_s, b_n_s, b_r_s, b_r_n, b_m_s, b_c_s, b_c_v, if_true, nI_add1, dgLs_st]) ν2 () rfl
  subst s3
  obtain ⟨o1, o2, o3, o4⟩ := J.2.2.2.1.1
  have h1a : isA ν3 1 2 90 := hCn.2
  obtain ⟨ν4, w4, e4, s4⟩ := loop_inv (fun i ξ (_ : Unit) => m_G 94 182 [.ref 0, .long (dgSh sh (dgLs μ (dgRs μ np nl (dgPs μ np) nr) nl) i), m_d, .int (nI i), w2] [] ξ) (fun i ξ => ξ = ν3) ns (fun i ξ _ hi P => by
    subst P
    have g1 : m_gb ξ 1 (nI i) = some (nI (sh i)) := by rw [gb_A h1a (Or.inr rfl) (by omega) (by decide), o3 i hi]
    refine ⟨_, (), ?_, rfl⟩
    try dsimp only
    rw [i94_182]
    simp (disch := first | omega | decide | with_reducible assumption) only [i94_183, i94_184, i94_187, i94_190, i94_193, i94_194, i94_195, i94_196, i94_199, i94_200, i94_201, i94_202, i94_203, i94_204, i94_207, gC1 hCn, o2, lt_t, gC0 hCn, g1, tl_def, b_v_s, b_i_s, b_n_s, b_r_s, b_r_n, b_m_s, b_c_s, b_c_v, if_true, nI_add1, dgSh_st]) ν3 () rfl
  subst s4
  obtain ⟨ν5, w5, e5, s5⟩ := loop_inv (fun i ξ (_ : Unit) => m_G 94 212 [.ref 0, .long (dgCt μ np nr nl ns (dgSh sh (dgLs μ (dgRs μ np nl (dgPs μ np) nr) nl) ns) i), m_d, .int (nI i), w2] [] ξ) (fun i ξ => ξ = ν4) 7 (fun i ξ _ hi P => by
    subst P
    have ce := C_count J (nI i)
    rw [Rq_cnt rq] at ce
    refine ⟨_, (), ?_, rfl⟩
    try dsimp only
    rw [i94_212]
    simp (disch := first | omega | decide | with_reducible assumption) only [i94_213, i94_215, i94_218, i94_221, i94_222, i94_223, i94_224, i94_225, i94_228, i94_229, i94_230, i94_231, i94_234, n6, lt_f, ce, tl_def, b_v_s, b_i_s, b_n_s, b_r_s, b_r_n, b_m_s, b_c_s, b_c_v, if_false, nI_add1, dgCt_st]) ν4 () rfl
  subst s5
  refine ⟨ν5, ?_, s, J⟩
  simp (disch := first | omega | decide | with_reducible assumption) only [D94, i94_0, i94_3, i94_4, i94_5]
  refine (show _ = _ from e).trans ?_
  try dsimp only
  rw [i94_6]
  simp (disch := first | omega | decide | with_reducible assumption) only [i94_7, i94_8, i94_11, i94_32, i94_33, gC3 hCn, c3n, lt_f, b_v_s, b_i_s, b_n_s, b_r_s, b_r_n, b_m_s, b_c_s, b_c_v, if_false]
  refine (show _ = _ from e2).trans ?_
  try dsimp only
  rw [i94_34]
  simp (disch := first | omega | decide | with_reducible assumption) only [i94_35, i94_36, i94_39, i94_113, i94_114, gC5 hCn, c5n, lt_f, b_v_s, b_i_s, b_n_s, b_r_s, b_r_n, b_m_s, b_c_s, b_c_v, if_false]
  refine (show _ = _ from e3).trans ?_
  try dsimp only
  rw [i94_115]
  simp (disch := first | omega | decide | with_reducible assumption) only [i94_116, i94_117, i94_120, i94_180, i94_181, gC7 hCn, c7n, lt_f, b_v_s, b_i_s, b_n_s, b_r_s, b_r_n, b_m_s, b_c_s, b_c_v, if_false]
  refine (show _ = _ from e4).trans ?_
  try dsimp only
  rw [i94_182]
  simp (disch := first | omega | decide | with_reducible assumption) only [i94_183, i94_184, i94_187, i94_210, i94_211, gC1 hCn, o2, lt_f, b_v_s, b_i_s, b_n_s, b_r_s, b_r_n, b_m_s, b_c_s, b_c_v, if_false]
  refine (show _ = _ from e5).trans ?_
  try dsimp only
  rw [i94_212]
  simp (disch := first | omega | decide | with_reducible assumption) only [i94_213, i94_215, i94_237, i94_238, n6, lt_t, b_v_s, b_i_s, b_n_s, b_r_s, b_r_n, b_m_s, b_c_s, b_c_v, if_true, dgAll]
end digC2
