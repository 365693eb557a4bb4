/-! the model: how like two pages are -/
theorem loop_dn {X V : Type} (cfg : Nat → mM → V → X) (P : Nat → mM → Prop) (n : Nat) (hs : ∀ i ν v, i < n → P (i + 1) ν → ∃ ν' v', cfg (i + 1) ν v = cfg i ν' v' ∧ P i ν') (μ : mM) (v : V) (h0 : P n μ) : ∃ ν v', cfg n μ v = cfg 0 ν v' ∧ P 0 ν := by
  induction n generalizing μ v with
  | zero => exact ⟨μ, v, rfl, h0⟩
  | succ n ih =>
    obtain ⟨ν1, v1, e1, p1⟩ := hs n μ v (by omega) h0
    obtain ⟨ν2, v2, e2, p2⟩ := ih (fun i ν v hi => hs i ν v (by omega)) ν1 v1 p1
    exact ⟨ν2, v2, e1.trans e2, p2⟩
section likeM
variable {μ : mM}
theorem nI_pos_lt {a : Nat} (ha : a < 2147483648) : (0 < nI a) = (0 < a) := by rw [n0, nI_ltE (by decide) ha]
set_option maxHeartbeats 1000000 in
theorem E_innerOf {p n : Nat} {b : Int32} {r : Nat} (h : MS μ) (hr : r = 46 ∨ r = 47) (hp : p < 8) (hn : n ≤ 24) (hb : A μ 20 p = nI n) : ∃ ν, m_D 157 [.ref 19, .int (nI p), .int b, .ref r] μ = some (some (.int (nI (cnt (fun c => decide (A μ 23 (24 * p + c) = b)) n))), ν) ∧ SC [r] [] μ ν ∧ ∀ c, c < n → A μ 23 (24 * p + c) = b → A ν r (cnt (fun c => decide (A μ 23 (24 * p + c) = b)) c) = nI c := by
  have ha : ∀ {ν : mM}, MS ν → isA ν r 0 24 := fun {ν} hν => by rcases hr with rfl | rfl; exact aM46 hν; exact aM47 hν
  have r20 : 20 ∉ [r] := by rcases hr with rfl | rfl <;> decide
  have r23 : 23 ∉ [r] := by rcases hr with rfl | rfl <;> decide
  obtain ⟨ν, w, e, s, f⟩ := loop_inv (fun i ν (_ : Unit) => m_G 157 6 [.ref 19, .int (nI p), .int b, .ref r, .int (nI (cnt (fun c => decide (A μ 23 (24 * p + c) = b)) i)), .int (nI i)] [] ν) (fun i ν => SC [r] [] μ ν ∧ ∀ c, c < i → A μ 23 (24 * p + c) = b → A ν r (cnt (fun c => decide (A μ 23 (24 * p + c) = b)) c) = nI c) n (fun i ν _ hi P => by
    obtain ⟨s, f⟩ := P
    have hν := s.1
    have x20 : A ν 20 p = nI n := by rw [SC_A s (by decide) r20]; exact hb
    have x23 : A ν 23 = A μ 23 := SC_A s (by decide) r23
    have hc := cnt_le (fun c => decide (A μ 23 (24 * p + c) = b)) i
    by_cases q : A μ 23 (24 * p + i) = b
    · have e1 : cnt (fun c => decide (A μ 23 (24 * p + c) = b)) (i + 1) = cnt (fun c => decide (A μ 23 (24 * p + c) = b)) i + 1 := by rw [cnt_st, decide_eq_true q, if_pos rfl]
      refine ⟨wA ν r (upd (A ν r) (cnt (fun c => decide (A μ 23 (24 * p + c) = b)) i) (nI i)), (), ?_, s.tr (SC_wA hν (ha hν) _ (by simp)), fun c hci hcb => ?_⟩
      · try dsimp only
        rw [i157_6, e1]
        generalize cnt (fun c => decide (A μ 23 (24 * p + c) = b)) i = U at *
        simp (disch := first | omega | with_reducible assumption) only [i157_8, i157_9, i157_12, i157_13, i157_14, i157_17, i157_18, i157_21, i157_23, i157_24, i157_25, i157_27, i157_28, i157_29, i157_30, i157_33, i157_34, i157_36, i157_38, i157_39, i157_42, i157_45, gM1 hν, ga_A (aM20 hν), gM4 hν, ga_A (aM23 hν), b_v_s, b_i_s, b_n_s, b_r_s, b_r_n, b_m_s, b_c_s, b_c_v, x20, x23, lt_t, if_true, k24, q, pa_A (ha hν), nI_add1]
      · rw [wA_A (ha hν), if_pos rfl, upd_at]
        by_cases z : c = i
        · subst z; rw [if_pos rfl]
        · have h1 : cnt (fun c => decide (A μ 23 (24 * p + c) = b)) (c + 1) ≤ cnt (fun c => decide (A μ 23 (24 * p + c) = b)) i := cnt_lt_mono _ (by omega)
          rw [cnt_st, decide_eq_true hcb, if_pos rfl] at h1
          rw [if_neg (by omega)]; exact f c (by omega) hcb
    · have e1 : cnt (fun c => decide (A μ 23 (24 * p + c) = b)) (i + 1) = cnt (fun c => decide (A μ 23 (24 * p + c) = b)) i := by rw [cnt_st, decide_eq_false q, if_neg (by decide), Nat.add_zero]
      refine ⟨ν, (), ?_, s, fun c hci hcb => ?_⟩
      · try dsimp only
        rw [i157_6, e1]
        generalize cnt (fun c => decide (A μ 23 (24 * p + c) = b)) i = U at *
        simp (disch := first | omega | with_reducible assumption) only [i157_8, i157_9, i157_12, i157_13, i157_14, i157_17, i157_18, i157_21, i157_23, i157_24, i157_25, i157_27, i157_28, i157_29, i157_30, i157_33, i157_34, i157_36, i157_38, i157_39, i157_42, i157_45, gM1 hν, ga_A (aM20 hν), gM4 hν, ga_A (aM23 hν), b_v_s, b_i_s, b_n_s, b_r_s, b_r_n, b_m_s, b_c_s, b_c_v, x20, x23, lt_t, if_true, if_false, k24, q, nI_add1]
      · by_cases z : c = i
        · subst z; exact absurd hcb q
        · exact f c (by omega) hcb) μ () ⟨SC.rf h, fun c hc => by omega⟩
  have hν := s.1
  have x20 : A ν 20 p = nI n := by rw [SC_A s (by decide) r20]; exact hb
  refine ⟨ν, ?_, s, f⟩
  simp only [D157, i157_0, i157_1, i157_3, i157_4]
  refine (show _ = _ from e).trans ?_
  try dsimp only
  rw [i157_6]
  generalize cnt (fun c => decide (A μ 23 (24 * p + c) = b)) n = U at *
  simp (disch := first | omega | with_reducible assumption) only [i157_8, i157_9, i157_12, i157_13, i157_14, i157_48, i157_50, gM1 hν, ga_A (aM20 hν), b_v_s, b_i_s, b_n_s, b_r_s, b_r_n, b_m_s, b_c_s, b_c_v, x20, lt_f, if_false]
set_option maxHeartbeats 4000000 in
theorem E_pairBest {p q n m a b : Nat} (h : MS μ) (hp : p < 8) (hq : q < 8) (hn : n ≤ 24) (hm : m ≤ 24) (hbn : A μ 20 p = nI n) (hbm : A μ 20 q = nI m) : ∃ ν, m_D 158 [.ref 19, .int (nI p), .int (nI a), .int (nI q), .int (nI b)] μ = some (some (.int (dq (fun c => decide (A μ 23 (24 * p + c) = nI a)) (fun d => decide (A μ 23 (24 * q + d) = nI b)) (fun c d => A μ 44 (24 * c + d)) n m)), ν) ∧ SC [45, 46, 47] [] μ ν := by
  have ho := oM_oc h
  obtain ⟨ν1, e1, s1, f1⟩ := E_innerOf (b := nI a) (r := 46) h (Or.inl rfl) hp hn hbn
  have h1 := s1.1
  have ho1 := oM_oc h1
  have y20 : A ν1 20 = A μ 20 := SC_A s1 (by decide) (by decide)
  have y23 : A ν1 23 = A μ 23 := SC_A s1 (by decide) (by decide)
  obtain ⟨ν2, e2, s2, f2⟩ := E_innerOf (b := nI b) (r := 47) h1 (Or.inr rfl) hq hm (by rw [y20]; exact hbm)
  rw [y23] at e2 f2
  have h2 := s2.1
  have f1' : ∀ c, c < n → A μ 23 (24 * p + c) = nI a → A ν2 46 (cnt (fun c => decide (A μ 23 (24 * p + c) = nI a)) c) = nI c := fun c hc hcb => by rw [SC_A s2 (by decide) (by decide)]; exact f1 c hc hcb
  have x44 : A ν2 44 = A μ 44 := (SC_A s2 (by decide) (by decide)).trans (SC_A s1 (by decide) (by decide))
  have t2 : SC [45, 46, 47] [] μ ν2 := (s1.mono (by decide) (by decide)).tr (s2.mono (by decide) (by decide))
  generalize hP : (fun c => decide (A μ 23 (24 * p + c) = nI a)) = P at *
  generalize hQ : (fun d => decide (A μ 23 (24 * q + d) = nI b)) = Q at *
  have P' : ∀ c, P c = true → A μ 23 (24 * p + c) = nI a := fun c hc => by rw [← hP] at hc; exact of_decide_eq_true hc
  have Q' : ∀ c, Q c = true → A μ 23 (24 * q + c) = nI b := fun c hc => by rw [← hQ] at hc; exact of_decide_eq_true hc
  have lN := cnt_le P n
  have lM := cnt_le Q m
  generalize hNi : cnt P n = N at *
  generalize hMi : cnt Q m = M at *
  have G : ∀ (c d c' d' : Nat), cnt P c = cnt P c' → cnt Q d = cnt Q d' → dq P Q (fun c d => A μ 44 (24 * c + d)) c d = dq P Q (fun c d => A μ 44 (24 * c + d)) c' d' := fun c d c' d' e1 e2 => dq_flat P Q _ e1 e2
  obtain ⟨ν3, w3, e3, s3, g3⟩ := loop_inv (fun i ν (v : Value × Value × Value × Value × Value) => m_G 158 28 [.ref 19, .int (nI p), .int (nI a), .int (nI q), .int (nI b), .int (nI N), .int (nI M), .int (nI i), v.1, v.2.1, v.2.2.1, v.2.2.2.1, v.2.2.2.2] [] ν) (fun i ν => SC [45] [] ν2 ν ∧ ∀ c d, c ≤ n → d ≤ m → cnt P c < i → A ν 45 (25 * cnt P c + cnt Q d) = dq P Q (fun c d => A μ 44 (24 * c + d)) c d) (N + 1) (fun i ν v hi pr => by
    obtain ⟨s, g⟩ := pr
    obtain ⟨v8, v9, v10, v11, v12⟩ := v
    obtain ⟨ρ, w, e, s', g'⟩ := loop_inv (fun j ρ (v : Value × Value × Value × Value) => m_G 158 38 [.ref 19, .int (nI p), .int (nI a), .int (nI q), .int (nI b), .int (nI N), .int (nI M), .int (nI i), .int (nI j), v.1, v.2.1, v.2.2.1, v.2.2.2] [] ρ) (fun j ρ => SC [45] [] ν2 ρ ∧ ∀ c d, c ≤ n → d ≤ m → (cnt P c < i ∨ (cnt P c = i ∧ cnt Q d < j)) → A ρ 45 (25 * cnt P c + cnt Q d) = dq P Q (fun c d => A μ 44 (24 * c + d)) c d) (M + 1) (fun j ρ v hj pr => by
      obtain ⟨s, g⟩ := pr
      obtain ⟨v9, v10, v11, v12⟩ := v
      have hρ := s.1
      have a45 := aM45 hρ
      have fin : ∀ (V : Int32) (u9 u10 u11 u12 : Value), (∀ c d, c ≤ n → d ≤ m → cnt P c = i → cnt Q d = j → dq P Q (fun c d => A μ 44 (24 * c + d)) c d = V) → m_G 158 38 [.ref 19, .int (nI p), .int (nI a), .int (nI q), .int (nI b), .int (nI N), .int (nI M), .int (nI i), .int (nI j), v9, v10, v11, v12] [] ρ = m_G 158 171 [.ref 19, .int (nI p), .int (nI a), .int (nI q), .int (nI b), .int (nI N), .int (nI M), .int (nI i), .int (nI j), .int V, u10, u11, u12] [] ρ → ∃ ν' v', m_G 158 38 [.ref 19, .int (nI p), .int (nI a), .int (nI q), .int (nI b), .int (nI N), .int (nI M), .int (nI i), .int (nI j), v9, v10, v11, v12] [] ρ = (fun j ρ (v : Value × Value × Value × Value) => m_G 158 38 [.ref 19, .int (nI p), .int (nI a), .int (nI q), .int (nI b), .int (nI N), .int (nI M), .int (nI i), .int (nI j), v.1, v.2.1, v.2.2.1, v.2.2.2] [] ρ) (j + 1) ν' v' ∧ SC [45] [] ν2 ν' ∧ ∀ c d, c ≤ n → d ≤ m → (cnt P c < i ∨ (cnt P c = i ∧ cnt Q d < j + 1)) → A ν' 45 (25 * cnt P c + cnt Q d) = dq P Q (fun c d => A μ 44 (24 * c + d)) c d := by
        intro V u9 u10 u11 u12 hV he
        refine ⟨wA ρ 45 (upd (A ρ 45) (25 * i + j) V), (.int V, u10, u11, u12), ?_, s.tr (SC_wA hρ a45 _ (by simp)), fun c d hc hd hcd => ?_⟩
        · rw [he]
          simp (disch := first | omega | with_reducible assumption) only [i158_171, i158_172, i158_175, i158_177, i158_179, i158_180, i158_182, i158_183, i158_185, i158_186, i158_189, gM34 hρ, b_v_s, b_i_s, b_n_s, b_r_s, b_r_n, b_m_s, b_c_s, b_c_v, k25, pa_A a45, nI_add1]
        · have l2 : cnt Q d ≤ M := by rw [← hMi]; exact cnt_lt_mono Q hd
          rw [wA_A a45, if_pos rfl, upd_at]
          by_cases z : cnt P c = i ∧ cnt Q d = j
          · rw [z.1, z.2, if_pos rfl]; exact (hV c d hc hd z.1 z.2).symm
          · rw [if_neg (by omega)]
            exact g c d hc hd (by omega)
      by_cases i0 : i = 0
      · refine fin 0 m_d v10 v11 v12 (fun c d _ _ h1 _ => ?_) ?_
        · rw [G c d 0 d (by rw [h1, i0]; rfl) rfl]; rfl
        · subst i0
          rw [i158_38]
          simp (disch := first | omega | with_reducible assumption) only [i158_40, i158_42, i158_45, i158_46, i158_48, i158_50, lt_f, if_false, nI_pos_lt, Nat.lt_irrefl, le_0, if_true]
      · by_cases j0 : j = 0
        · refine fin 0 m_d v10 v11 v12 (fun c d _ _ _ h1 => ?_) ?_
          · rw [G c d c 0 rfl (by rw [h1, j0]; rfl)]; exact dq_0 _ _ _ _
          · subst j0
            rw [i158_38]
            simp (disch := first | omega | with_reducible assumption) only [i158_40, i158_42, i158_45, i158_46, i158_48, i158_50, i158_53, i158_55, lt_f, if_false, nI_pos_lt, Nat.lt_irrefl, le_0, if_true, i0]
        · obtain ⟨i', rfl⟩ : ∃ i', i = i' + 1 := ⟨i - 1, by omega⟩
          obtain ⟨j', rfl⟩ : ∃ j', j = j' + 1 := ⟨j - 1, by omega⟩
          obtain ⟨c1, c2, c3, c4⟩ := cnt_inv P (n := n) (i := i') (by omega)
          obtain ⟨d1, d2, d3, d4⟩ := cnt_inv Q (n := m) (i := j') (by omega)
          have c5 : cnt P (c1 + 1) = i' + 1 := by rw [cnt_st, if_pos c3, c4]
          have d5 : cnt Q (d1 + 1) = j' + 1 := by rw [cnt_st, if_pos d3, d4]
          have b1 := g c1 d1 (by omega) (by omega) (by omega)
          have b2 := g c1 (d1 + 1) (by omega) (by omega) (by omega)
          have b3 := g (c1 + 1) d1 (by omega) (by omega) (by omega)
          rw [c4, d4] at b1
          rw [c4, d5] at b2
          rw [c5, d4] at b3
          have l46 : A ρ 46 i' = nI c1 := by rw [SC_A s (by decide) (by decide), ← c4]; exact f1' c1 c2 (P' c1 c3)
          have l47 : A ρ 47 j' = nI d1 := by rw [SC_A s (by decide) (by decide), ← d4]; exact f2 d1 d2 (Q' d1 d3)
          have l44 : A ρ 44 = A μ 44 := (SC_A s (by decide) (by decide)).trans x44
          have rec' := dq_pq (P := P) (Q := Q) (AL := fun c d => A μ 44 (24 * c + d)) c3 d3
          refine fin (dq P Q (fun c d => A μ 44 (24 * c + d)) (c1 + 1) (d1 + 1)) m_d (.int (dq P Q (fun c d => A μ 44 (24 * c + d)) c1 d1 + A μ 44 (24 * c1 + d1))) (.int (dq P Q (fun c d => A μ 44 (24 * c + d)) c1 (d1 + 1))) (.int (dq P Q (fun c d => A μ 44 (24 * c + d)) (c1 + 1) d1)) (fun c d _ _ h1 h2 => G c d _ _ (by rw [h1, c5]) (by rw [h2, d5])) ?_
          have i1 : 25 * i' + (j' + 1) - 1 = 25 * i' + j' := by omega
          have i2 : 25 * (i' + 1) + (j' + 1) - 1 = 25 * (i' + 1) + j' := by omega
          rw [rec', ← mx3_m]
          generalize dq P Q (fun c d => A μ 44 (24 * c + d)) c1 d1 = D1 at *
          generalize dq P Q (fun c d => A μ 44 (24 * c + d)) c1 (d1 + 1) = D2 at *
          generalize dq P Q (fun c d => A μ 44 (24 * c + d)) (c1 + 1) d1 = D3 at *
          rw [i158_38]
          simp (disch := first | omega | with_reducible assumption) only [i158_40, i158_42, i158_45, i158_46, i158_48, i158_50, i158_53, i158_55, i158_58, i158_59, i158_62, i158_64, i158_66, i158_67, i158_68, i158_69, i158_71, i158_72, i158_73, i158_74, i158_75, i158_76, i158_79, i158_81, i158_82, i158_85, i158_87, i158_88, i158_89, i158_90, i158_91, i158_92, i158_95, i158_97, i158_98, i158_99, i158_100, i158_101, i158_102, i158_103, i158_105, i158_106, i158_109, i158_111, i158_113, i158_114, i158_115, i158_116, i158_118, i158_119, i158_120, i158_122, i158_123, i158_126, i158_128, i158_130, i158_131, i158_133, i158_134, i158_135, i158_136, i158_137, lt_f, if_false, le_0, i0, j0, gM34 hρ, ga_A (aM45 hρ), gM33 hρ, ga_A (aM44 hρ), gM35 hρ, ga_A (aM46 hρ), gM36 hρ, ga_A (aM47 hρ), b_v_s, b_i_s, b_n_s, b_r_s, b_r_n, b_m_s, b_c_s, b_c_v, n1, nI_minus, Nat.add_sub_cancel, k25, k24, l46, l47, l44, i1, i2, b1, b2, b3]
          by_cases q1 : D2 < D1 + A μ 44 (24 * c1 + d1)
          · rw [if_pos q1]
            by_cases q2 : D1 + A μ 44 (24 * c1 + d1) < D3
            · rw [if_pos q2]
              simp (disch := first | omega | with_reducible assumption) only [i158_139, i158_141, i158_143, i158_146, i158_148, i158_151, i158_153, i158_155, i158_157, i158_159, i158_162, i158_164, i158_167, i158_169, q1, q2, if_true]
            · rw [if_neg q2]
              simp (disch := first | omega | with_reducible assumption) only [i158_139, i158_141, i158_143, i158_146, i158_148, i158_151, i158_153, i158_155, i158_157, i158_159, i158_162, i158_164, i158_167, i158_169, q1, q2, if_true, if_false]
          · rw [if_neg q1]
            by_cases q2 : D2 < D3
            · rw [if_pos q2]
              simp (disch := first | omega | with_reducible assumption) only [i158_139, i158_141, i158_143, i158_146, i158_148, i158_151, i158_153, i158_155, i158_157, i158_159, i158_162, i158_164, i158_167, i158_169, q1, q2, if_true, if_false]
            · rw [if_neg q2]
              simp (disch := first | omega | with_reducible assumption) only [i158_139, i158_141, i158_143, i158_146, i158_148, i158_151, i158_153, i158_155, i158_157, i158_159, i158_162, i158_164, i158_167, i158_169, q1, q2, if_false]) ν (v9, v10, v11, v12) ⟨s, fun c d hc hd hcd => g c d hc hd (by omega)⟩
    refine ⟨ρ, (.int (nI (M + 1)), w.1, w.2.1, w.2.2.1, w.2.2.2), ?_, s', fun c d hc hd hcd => g' c d hc hd ?_⟩
    · try dsimp only
      rw [i158_28]
      simp (disch := first | omega | with_reducible assumption) only [i158_30, i158_32, i158_35, i158_36, lt_f, if_false]
      refine (show _ = _ from e).trans ?_
      try dsimp only
      rw [i158_38]
      simp (disch := first | omega | with_reducible assumption) only [i158_40, i158_42, i158_192, i158_195, lt_t, if_true, nI_add1]
    · have l2 : cnt Q d ≤ M := by rw [← hMi]; exact cnt_lt_mono Q hd
      omega) ν2 (m_d, m_d, m_d, m_d, m_d) ⟨SC.rf h2, fun c d _ _ hc => by omega⟩
  have h3 := s3.1
  have gl := g3 n m (Nat.le_refl n) (Nat.le_refl m) (by omega)
  rw [hNi, hMi] at gl
  refine ⟨ν3, ?_, t2.tr (s3.mono (by decide) (by decide))⟩
  simp (disch := first | omega | with_reducible assumption) only [D158, i158_0, i158_1, i158_2, i158_3, i158_4, i158_7, i158_10, i158_12, i158_13, i158_14, i158_16, i158_17, i158_20, i158_23, i158_25, i158_26, gM35 h, gM36 h1, b_v_s, b_i_s, b_n_s, b_r_s, b_r_n, b_m_s, b_c_s, b_c_v, e1, e2]
  refine (show _ = _ from e3).trans ?_
  try dsimp only
  rw [i158_28]
  simp (disch := first | omega | with_reducible assumption) only [i158_30, i158_32, i158_198, i158_199, i158_202, i158_204, i158_206, i158_207, i158_209, i158_210, i158_211, lt_t, if_true, gM34 h3, ga_A (aM45 h3), b_v_s, b_i_s, b_n_s, b_r_s, b_r_n, b_m_s, b_c_s, b_c_v, k25, gl]
set_option maxHeartbeats 4000000 in
theorem E_likeOf {p q n m : Nat} (h : MS μ) (hp : p < 8) (hq : q < 8) (hn1 : 1 ≤ n) (hm1 : 1 ≤ m) (hn : n ≤ 24) (hm : m ≤ 24) (hbn : A μ 20 p = nI n) (hbm : A μ 20 q = nI m) (hw : PW (A μ 23) p n) : ∃ ν, m_D 159 [.ref 19, .int (nI p), .int (nI q)] μ = some (some (.int (lkV (A μ 23) (A μ 21) (A μ 22) p q n m)), ν) ∧ SC [44, 45, 46, 47] [] μ ν := by
  generalize hL : lkN (A μ 23) (A μ 21) (A μ 22) p q n m 24 = L
  obtain ⟨ν1, w1, e1, s1, f1⟩ := loop_dn (fun i ν (v : Value × Value × Value) => m_G 159 9 [.ref 19, .int (nI p), .int (nI q), .int (nI i - 1), v.1, v.2.1, v.2.2] [] ν) (fun i ν => SC [44, 45, 46, 47] [] μ ν ∧ ∀ a b, i ≤ a → a < n → b < m → A ν 44 (24 * a + b) = L a b) n (fun i ν v hi P => by
    obtain ⟨s, f⟩ := P
    obtain ⟨v4, v5, v6⟩ := v
    have hν := s.1
    have x20 : A ν 20 q = nI m := by rw [SC_A s (by decide) (by decide)]; exact hbm
    obtain ⟨ρ, w, e, s', f'⟩ := loop_dn (fun j ρ (v : Value × Value) => m_G 159 23 [.ref 19, .int (nI p), .int (nI q), .int (nI i), .int (nI j - 1), v.1, v.2] [] ρ) (fun j ρ => SC [44, 45, 46, 47] [] μ ρ ∧ ∀ a b, (i < a ∨ (a = i ∧ j ≤ b)) → a < n → b < m → A ρ 44 (24 * a + b) = L a b) m (fun j ρ v hj P => by
      obtain ⟨s, f⟩ := P
      obtain ⟨v5, v6⟩ := v
      have hρ := s.1
      have hoρ := oM_oc hρ
      have y20 : A ρ 20 = A μ 20 := SC_A s (by decide) (by decide)
      have y21 : A ρ 21 = A μ 21 := SC_A s (by decide) (by decide)
      have y22 : A ρ 22 = A μ 22 := SC_A s (by decide) (by decide)
      have y23 : A ρ 23 = A μ 23 := SC_A s (by decide) (by decide)
      have hrec : lkS (A μ 23) (A μ 21) (A μ 22) p q n m (fun c d => A ρ 44 (24 * c + d)) i j = L i j := by
        rw [← hL]
        refine lkN_rec hw hn hi (fun c d h1 h2 h3 => ?_)
        rw [hL]
        exact f c d (Or.inl h1) h2 h3
      have dn : nI j + -1 = nI j - 1 := (Int32.sub_eq_add_neg _ _).symm
      have fin : ∀ (ξ : mM) (u5 u6 : Value), SC [44, 45, 46, 47] [] ρ ξ → A ξ 44 = A ρ 44 → m_G 159 23 [.ref 19, .int (nI p), .int (nI q), .int (nI i), .int (nI j), v5, v6] [] ρ = m_G 159 23 [.ref 19, .int (nI p), .int (nI q), .int (nI i), .int (nI j - 1), u5, u6] [] (wA ξ 44 (upd (A ξ 44) (24 * i + j) (L i j))) → ∃ ν' v', m_G 159 23 [.ref 19, .int (nI p), .int (nI q), .int (nI i), .int (nI j), v5, v6] [] ρ = (fun j ρ (v : Value × Value) => m_G 159 23 [.ref 19, .int (nI p), .int (nI q), .int (nI i), .int (nI j - 1), v.1, v.2] [] ρ) j ν' v' ∧ SC [44, 45, 46, 47] [] μ ν' ∧ ∀ a b, (i < a ∨ (a = i ∧ j ≤ b)) → a < n → b < m → A ν' 44 (24 * a + b) = L a b := by
        intro ξ u5 u6 sx hx he
        refine ⟨_, (u5, u6), he, s.tr (sx.tr (SC_wA sx.1 (aM44 sx.1) _ (by decide))), fun a b hab ha hb => ?_⟩
        rw [wA_A (aM44 sx.1), if_pos rfl, upd_at, hx]
        by_cases z : a = i ∧ b = j
        · rw [z.1, z.2, if_pos rfl]
        · rw [if_neg (by omega)]
          exact f a b (by omega) ha hb
      try dsimp only
      rw [nI_m1]
      have fin' := fin
      by_cases c1 : A μ 21 (24 * p + i) = A μ 21 (24 * q + j)
      · obtain ⟨ξ, e5, s5⟩ := E_pairBest (a := i) (b := j) hρ hp hq hn hm (by rw [y20]; exact hbn) (by rw [y20]; exact hbm)
        rw [y23] at e5
        have hξ := s5.1
        unfold lkS at hrec
        rw [if_pos c1] at hrec
        generalize dq (fun c => decide (A μ 23 (24 * p + c) = nI i)) (fun d => decide (A μ 23 (24 * q + d) = nI j)) (fun c d => A ρ 44 (24 * c + d)) n m = D at *
        by_cases c2 : A μ 22 (24 * p + i) = A μ 22 (24 * q + j)
        · rw [if_pos c2] at hrec
          refine fin' ξ (.int 1) (.int 1) (s5.mono (by decide) (by decide)) (SC_A s5 (by decide) (by decide)) ?_
          rw [i159_23]
          simp (disch := first | omega | with_reducible assumption) only [i159_25, i159_28, i159_29, i159_32, i159_34, i159_35, i159_36, i159_37, i159_38, i159_39, i159_40, i159_43, i159_45, i159_46, i159_47, i159_49, i159_50, i159_51, i159_54, i159_55, i159_58, i159_59, i159_61, i159_62, i159_65, i159_67, i159_68, i159_69, i159_70, i159_71, i159_72, i159_73, i159_76, i159_78, i159_79, i159_80, i159_82, i159_83, i159_84, i159_87, i159_88, i159_91, i159_92, i159_94, i159_95, i159_98, i159_100, i159_101, i159_102, i159_104, i159_105, i159_107, i159_110, i159_111, i159_113, i159_114, i159_115, i159_116, i159_117, i159_118, i159_120, i159_123, i159_124, i159_127, i159_128, i159_129, i159_132, nI_lt0, if_false, gM2 hρ, ga_A (aM21 hρ), gM3 hρ, ga_A (aM22 hρ), gM33 hρ, ga_A (aM44 hρ), b_v_s, b_i_s, b_n_s, b_r_s, b_r_n, b_m_s, b_c_s, b_c_v, k24, y21, y22, c1, c2, if_true, ne10, e5, pa_A (aM44 hξ), show (1 : Int32) + 1 = 2 from rfl, hrec, dn]
        · rw [if_neg c2] at hrec
          refine fin' ξ (.int 1) (.int 0) (s5.mono (by decide) (by decide)) (SC_A s5 (by decide) (by decide)) ?_
          rw [i159_23]
          simp (disch := first | omega | with_reducible assumption) only [i159_25, i159_28, i159_29, i159_32, i159_34, i159_35, i159_36, i159_37, i159_38, i159_39, i159_40, i159_43, i159_45, i159_46, i159_47, i159_49, i159_50, i159_51, i159_54, i159_55, i159_58, i159_59, i159_61, i159_62, i159_65, i159_67, i159_68, i159_69, i159_70, i159_71, i159_72, i159_73, i159_76, i159_78, i159_79, i159_80, i159_82, i159_83, i159_84, i159_87, i159_88, i159_91, i159_92, i159_94, i159_95, i159_98, i159_100, i159_101, i159_102, i159_104, i159_105, i159_107, i159_110, i159_111, i159_113, i159_114, i159_115, i159_116, i159_117, i159_118, i159_120, i159_123, i159_124, i159_127, i159_128, i159_129, i159_132, nI_lt0, if_false, gM2 hρ, ga_A (aM21 hρ), gM3 hρ, ga_A (aM22 hρ), gM33 hρ, ga_A (aM44 hρ), b_v_s, b_i_s, b_n_s, b_r_s, b_r_n, b_m_s, b_c_s, b_c_v, k24, y21, y22, c1, c2, if_true, ne10, e5, pa_A (aM44 hξ), Int32.add_zero, hrec, dn]
      · unfold lkS at hrec
        rw [if_neg c1] at hrec
        have ha44 := aM44 hρ
        by_cases c2 : A μ 22 (24 * p + i) = A μ 22 (24 * q + j)
        · refine fin' ρ (.int 0) (.int 1) (SC.rf hρ) rfl ?_
          rw [i159_23, ← hrec]
          simp (disch := first | omega | with_reducible assumption) only [i159_25, i159_28, i159_29, i159_32, i159_34, i159_35, i159_36, i159_37, i159_38, i159_39, i159_40, i159_43, i159_45, i159_46, i159_47, i159_49, i159_50, i159_51, i159_54, i159_55, i159_58, i159_59, i159_61, i159_62, i159_65, i159_67, i159_68, i159_69, i159_70, i159_71, i159_72, i159_73, i159_76, i159_78, i159_79, i159_80, i159_82, i159_83, i159_84, i159_87, i159_88, i159_91, i159_92, i159_94, i159_95, i159_98, i159_100, i159_101, i159_102, i159_104, i159_105, i159_107, i159_110, i159_111, i159_113, i159_114, i159_115, i159_116, i159_117, i159_118, i159_120, i159_123, i159_124, i159_127, i159_128, i159_129, i159_132, nI_lt0, if_false, gM2 hρ, ga_A (aM21 hρ), gM3 hρ, ga_A (aM22 hρ), gM33 hρ, ga_A (aM44 hρ), b_v_s, b_i_s, b_n_s, b_r_s, b_r_n, b_m_s, b_c_s, b_c_v, k24, y21, y22, c1, c2, if_true, pa_A ha44, dn]
        · refine fin' ρ (.int 0) (.int 0) (SC.rf hρ) rfl ?_
          rw [i159_23, ← hrec]
          simp (disch := first | omega | with_reducible assumption) only [i159_25, i159_28, i159_29, i159_32, i159_34, i159_35, i159_36, i159_37, i159_38, i159_39, i159_40, i159_43, i159_45, i159_46, i159_47, i159_49, i159_50, i159_51, i159_54, i159_55, i159_58, i159_59, i159_61, i159_62, i159_65, i159_67, i159_68, i159_69, i159_70, i159_71, i159_72, i159_73, i159_76, i159_78, i159_79, i159_80, i159_82, i159_83, i159_84, i159_87, i159_88, i159_91, i159_92, i159_94, i159_95, i159_98, i159_100, i159_101, i159_102, i159_104, i159_105, i159_107, i159_110, i159_111, i159_113, i159_114, i159_115, i159_116, i159_117, i159_118, i159_120, i159_123, i159_124, i159_127, i159_128, i159_129, i159_132, nI_lt0, if_false, gM2 hρ, ga_A (aM21 hρ), gM3 hρ, ga_A (aM22 hρ), gM33 hρ, ga_A (aM44 hρ), b_v_s, b_i_s, b_n_s, b_r_s, b_r_n, b_m_s, b_c_s, b_c_v, k24, y21, y22, c1, c2, if_true, pa_A ha44, dn]) ν (v5, v6) ⟨s, fun a b hab ha hb => f a b (by omega) ha hb⟩
    refine ⟨ρ, (.int (nI 0 - 1), w.1, w.2), ?_, s', fun a b hab ha hb => f' a b (by omega) ha hb⟩
    try dsimp only
    rw [nI_m1, i159_9]
    simp (disch := first | omega | with_reducible assumption) only [i159_10, i159_13, i159_14, i159_17, i159_18, i159_19, i159_20, i159_21, nI_lt0, if_false, gM1 hν, ga_A (aM20 hν), b_v_s, b_i_s, b_n_s, b_r_s, b_r_n, b_m_s, b_c_s, b_c_v, x20]
    refine (show _ = _ from e).trans ?_
    try dsimp only
    rw [i159_23]
    have dn : nI i + -1 = nI i - 1 := (Int32.sub_eq_add_neg _ _).symm
    have lt0 : (nI 0 - 1 < 0) = True := eq_true (by decide)
    simp (disch := first | omega | with_reducible assumption) only [i159_25, i159_135, i159_138, lt0, if_true, dn]) μ (m_d, m_d, m_d) ⟨SC.rf h, fun a b h1 h2 => by omega⟩
  have h1 := s1.1
  refine ⟨ν1, ?_, s1⟩
  have lt0 : (nI 0 - 1 < 0) = True := eq_true (by decide)
  have f0 := f1 0 0 (Nat.le_refl 0) (by omega) (by omega)
  have g0 : m_ga ν1 44 0 = some (lkV (A μ 23) (A μ 21) (A μ 22) p q n m) := by
    have := ga_A (k := 0) (aM44 h1) (by decide) (by decide)
    rw [f0, ← hL] at this
    exact this
  simp (disch := first | omega | with_reducible assumption) only [D159, i159_0, i159_1, i159_4, i159_5, i159_6, i159_7, i159_8, gM1 h, ga_A (aM20 h), b_v_s, b_i_s, b_n_s, b_r_s, b_r_n, b_m_s, b_c_s, b_c_v, hbn]
  refine (show _ = _ from e1).trans ?_
  try dsimp only
  rw [i159_9]
  simp (disch := first | omega | with_reducible assumption) only [i159_10, i159_141, i159_142, i159_145, i159_146, i159_147, lt0, if_true, gM33 h1, b_v_s, b_i_s, b_n_s, b_r_s, b_r_n, b_m_s, b_c_s, b_c_v, g0]
end likeM
