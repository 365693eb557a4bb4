/-! the page's first loop -/
section ploop
variable {μ : mM} {a p n : Nat} {PR KD WD : Nat → Int32}
def PgI (μ : mM) (a p n : Nat) (PR KD WD : Nat → Int32) : Prop := PSh μ a n ∧ FI μ a 0 = nI n ∧ ∀ b, b < n → A μ (a + 3) b = KD (24 * p + b) ∧ A μ (a + 4) b = WD (24 * p + b) ∧ A μ (a + 5) b = PR (24 * p + b)
theorem PSh_K {X : List Nat} {Y : List (Nat × Nat)} {μ ν : mM} (h : PSh μ a n) (k : K X Y μ ν) : PSh ν a n := ⟨K_isO k h.1, K_isA k h.2.1, K_isA k h.2.2.1, K_isA k h.2.2.2.1, K_isA k h.2.2.2.2.1, K_isA k h.2.2.2.2.2.1, K_isA k h.2.2.2.2.2.2.1, K_isA k h.2.2.2.2.2.2.2.1, K_isA k h.2.2.2.2.2.2.2.2.1, K_isA k h.2.2.2.2.2.2.2.2.2⟩
theorem PgI_K {X : List Nat} {Y : List (Nat × Nat)} {μ ν : mM} (h : PgI μ a p n PR KD WD) (k : K X Y μ ν) (hX : a + 3 ∉ X ∧ a + 4 ∉ X ∧ a + 5 ∉ X) (hY : (a, 0) ∉ Y) : PgI ν a p n PR KD WD := ⟨PSh_K h.1 k, by rw [K_FI k hY]; exact h.2.1, by rw [K_A k hX.1, K_A k hX.2.1, K_A k hX.2.2]; exact h.2.2⟩
theorem mk_1 (P : Nat → Bool) (b : Nat) (h : P b = true) : mk P (b + 1) = mk P b ||| sb b := by rw [mk, if_pos h]
theorem mk_0 (P : Nat → Bool) (b : Nat) (h : P b = false) : mk P (b + 1) = mk P b := by rw [mk, if_neg (by rw [h]; decide), Int32.or_zero]
set_option maxHeartbeats 4000000 in
theorem P_loop1 (h : PgI μ a p n PR KD WD) (h1 : 1 ≤ n) (hn : n ≤ 24) (hw : PW PR p n) (hk : KW KD p n) (z1 : ∀ k, k < 5 → A μ (a + 1) k = 0) (z6 : ∀ c, c < n → A μ (a + 6) c = 0) : ∃ ν, m_G 15 120 [.ref a, .ref 5, .int 0, .int 0, .int 0, m_d] [] μ = m_G 15 218 [.ref a, .ref 5, .int (mk (wordM WD p) n), .int 0, .int (nI n), m_d] [] ν ∧ K [a + 1, a + 6, a + 9] [] μ ν ∧ (∀ k, k < 5 → A ν (a + 1) k = okd KD p n k) ∧ (∀ c, c < n → A ν (a + 9) c = nI (fal WD p c)) ∧ ∀ c, c < n → A ν (a + 6) c = nI (dph PR p 24 c) := by
  obtain ⟨ν, w, e, s, f1, f9, f6⟩ := loop_inv (fun b ν (_ : Unit) => m_G 15 120 [.ref a, .ref 5, .int (mk (wordM WD p) b), .int 0, .int (nI b), m_d] [] ν) (fun b ν => K [a + 1, a + 6, a + 9] [] μ ν ∧ (∀ k, k < 5 → A ν (a + 1) k = okd KD p b k) ∧ (∀ c, c < b → A ν (a + 9) c = nI (fal WD p c)) ∧ ∀ c, c < n → A ν (a + 6) c = if c < b then nI (dph PR p 24 c) else 0) n (fun b ν _ hb P => by
    obtain ⟨s, f1, f9, f6⟩ := P
    have I0 : PgI ν a p n PR KD WD := PgI_K h s ⟨by simp, by simp, by simp⟩ (by simp)
    obtain ⟨k, k5, kd⟩ := hk b hb
    have a1 := I0.1.2.1
    have a9 := I0.1.2.2.2.2.2.2.2.2.2
    have a6 := I0.1.2.2.2.2.2.2.1
    -- three writes
    have s1 : K [a + 1, a + 6, a + 9] [] ν (wA ν (a + 1) (upd (A ν (a + 1)) k (A ν (a + 1) k ||| sb b))) := K_wA a1 _ (by simp)
    have p1 := pa_A (x := A ν (a + 1) k ||| sb b) (k := k) a1 k5 (by decide)
    have u1 := wA_A a1 (upd (A ν (a + 1)) k (A ν (a + 1) k ||| sb b))
    generalize wA ν (a + 1) (upd (A ν (a + 1)) k (A ν (a + 1) k ||| sb b)) = ν1 at *
    have I1 : PgI ν1 a p n PR KD WD := PgI_K I0 s1 ⟨by simp, by simp, by simp⟩ (by simp)
    have b9 := I1.1.2.2.2.2.2.2.2.2.2
    have s2 : K [a + 1, a + 6, a + 9] [] ν1 (wA ν1 (a + 9) (upd (A ν1 (a + 9)) b (nI (fal WD p b)))) := K_wA b9 _ (by simp)
    have p2 := pa_A (x := nI (fal WD p b)) (k := b) b9 hb (by omega)
    have u2 := wA_A b9 (upd (A ν1 (a + 9)) b (nI (fal WD p b)))
    generalize wA ν1 (a + 9) (upd (A ν1 (a + 9)) b (nI (fal WD p b))) = ν2 at *
    have I2 : PgI ν2 a p n PR KD WD := PgI_K I1 s2 ⟨by simp, by simp, by simp⟩ (by simp)
    have fw := P_firstWith (WD := WD) (p := p) I1.1 hn (fun c hc => (I1.2.2 c hc).2.1) hb
    have oc1 := gO_oc I1.1.1
    have g0 : m_gf ν a 3 0 = some (.int (nI n)) := by rw [gO (e := none) I0.1.1 rfl, tmv, I0.2.1]
    have g8 : m_gf ν a 3 8 = some (.ref (a + 1)) := gO (e := some (some (a + 1))) I0.1.1 rfl
    have g1 : m_gf ν a 3 1 = some (.ref (a + 3)) := gO (e := some (some (a + 3))) I0.1.1 rfl
    have g7 : m_gf ν1 a 3 7 = some (.ref (a + 9)) := gO (e := some (some (a + 9))) I1.1.1 rfl
    have g2 : m_gf ν1 a 3 2 = some (.ref (a + 4)) := gO (e := some (some (a + 4))) I1.1.1 rfl
    have g2' : m_gf ν2 a 3 2 = some (.ref (a + 4)) := gO (e := some (some (a + 4))) I2.1.1 rfl
    have v3 : m_ga ν (a + 3) (nI b) = some (nI k) := by rw [ga_A I0.1.2.2.2.1 hb (by omega), (I0.2.2 b hb).1, kd]
    have v1 : m_ga ν (a + 1) (nI k) = some (A ν (a + 1) k) := ga_A a1 k5 (by decide)
    have v4 : m_ga ν1 (a + 4) (nI b) = some (WD (24 * p + b)) := by rw [ga_A I1.1.2.2.2.2.1 hb (by omega), (I1.2.2 b hb).2.1]
    have v4' : m_ga ν2 (a + 4) (nI b) = some (WD (24 * p + b)) := by rw [ga_A I2.1.2.2.2.2.1 hb (by omega), (I2.2.2 b hb).2.1]
    have go : m_G 15 120 [.ref a, .ref 5, .int (mk (wordM WD p) b), .int 0, .int (nI b), m_d] [] ν = m_G 15 186 [.ref a, .ref 5, .int (mk (wordM WD p) (b + 1)), .int 0, .int (nI b), m_d] [] ν2 := by
      rw [i15_120]
      by_cases q : WD (24 * p + b) = -1
      · rw [mk_0 _ _ (show wordM WD p b = false from decide_eq_false (fun z => z q))]
        simp (disch := first | omega | decide | with_reducible assumption) only [i15_122, i15_123, i15_126, i15_129, i15_130, i15_133, i15_134, i15_137, i15_139, i15_140, i15_141, i15_142, i15_143, i15_145, i15_146, i15_147, i15_148, i15_149, i15_152, i15_154, i15_155, i15_156, i15_159, i15_161, i15_162, i15_164, i15_167, i15_168, i15_169, i15_172, i15_174, i15_175, i15_176, i15_179, i15_180, i15_181, i15_183, i15_184, i15_185, g0, lt_t, g8, g1, v3, v1, sb_def, p1, g7, g2, v4, fw, p2, g2', v4', b_v_s, b_i_s, b_n_s, b_r_s, b_r_n, b_m_s, b_c_s, b_c_v, if_true]
        rw [if_pos q]
      · rw [mk_1 _ _ (show wordM WD p b = true from decide_eq_true q)]
        simp (disch := first | omega | decide | with_reducible assumption) only [i15_122, i15_123, i15_126, i15_129, i15_130, i15_133, i15_134, i15_137, i15_139, i15_140, i15_141, i15_142, i15_143, i15_145, i15_146, i15_147, i15_148, i15_149, i15_152, i15_154, i15_155, i15_156, i15_159, i15_161, i15_162, i15_164, i15_167, i15_168, i15_169, i15_172, i15_174, i15_175, i15_176, i15_179, i15_180, i15_181, i15_183, i15_184, i15_185, g0, lt_t, g8, g1, v3, v1, sb_def, p1, g7, g2, v4, fw, p2, g2', v4', b_v_s, b_i_s, b_n_s, b_r_s, b_r_n, b_m_s, b_c_s, b_c_v, if_true]
        rw [if_neg q]
    have f1' : ∀ j, j < 5 → A ν1 (a + 1) j = okd KD p (b + 1) j := fun j hj => by
      rw [u1, if_pos rfl, upd_at]
      unfold okd at f1 ⊢
      by_cases e : j = k
      · subst e
        rw [if_pos rfl, mk_1 _ _ (decide_eq_true kd), f1 j hj]
      · rw [if_neg e, mk_0 _ _ (decide_eq_false (fun z => e (by rw [kd] at z; have := (nI_eqE (show k < 2147483648 by omega) (show j < 2147483648 by omega)).mp z; omega))), f1 j hj]
    have f9' : ∀ c, c < b + 1 → A ν2 (a + 9) c = nI (fal WD p c) := fun c hc => by
      rw [u2, if_pos rfl, upd_at]
      by_cases e : c = b
      · rw [if_pos e, e]
      · rw [if_neg e, u1, if_neg (by omega)]; exact f9 c (by omega)
    have s12 := (s.tr s1).tr s2
    have e6 : A ν2 (a + 6) = A ν (a + 6) := by rw [u2, if_neg (by omega), u1, if_neg (by omega)]
    have e1 : A ν2 (a + 1) = A ν1 (a + 1) := by rw [u2, if_neg (by omega)]
    by_cases h0 : b = 0
    · refine ⟨ν2, (), ?_, s12, by rw [e1]; exact f1', f9', fun c hc => ?_⟩
      · try dsimp only
        rw [go]
        simp (disch := first | omega | decide | with_reducible assumption) only [i15_186, i15_188, i15_191, i15_192, i15_195, i15_197, i15_198, i15_201, i15_202, i15_205, i15_207, i15_208, i15_209, i15_210, i15_211, i15_212, i15_215, nI_le0, eq_true h0, b_v_s, b_i_s, b_n_s, b_r_s, b_r_n, b_m_s, b_c_s, b_c_v, if_true, nI_add1]
      · rw [e6, f6 c hc]
        by_cases y : c < b
        · omega
        · rw [if_neg y]
          by_cases y2 : c < b + 1
          · rw [if_pos y2, show c = 0 by omega]; rfl
          · rw [if_neg y2]
    · have b0 : 0 < b := by omega
      have hu := hw.2 b b0 hb
      have c6 := I2.1.2.2.2.2.2.2.1
      have dv : A ν2 (a + 6) (up PR p b) = nI (dph PR p 24 (up PR p b)) := by rw [e6, f6 _ (by omega), if_pos hu.2]
      have s3 : K [a + 1, a + 6, a + 9] [] ν2 (wA ν2 (a + 6) (upd (A ν2 (a + 6)) b (nI (dph PR p 24 (up PR p b) + 1)))) := K_wA c6 _ (by simp)
      have p3 := pa_A (x := nI (dph PR p 24 (up PR p b) + 1)) (k := b) c6 hb (by omega)
      have u3 := wA_A c6 (upd (A ν2 (a + 6)) b (nI (dph PR p 24 (up PR p b) + 1)))
      generalize wA ν2 (a + 6) (upd (A ν2 (a + 6)) b (nI (dph PR p 24 (up PR p b) + 1))) = ν3 at *
      have g4 : m_gf ν2 a 3 4 = some (.ref (a + 6)) := gO (e := some (some (a + 6))) I2.1.1 rfl
      have g3 : m_gf ν2 a 3 3 = some (.ref (a + 5)) := gO (e := some (some (a + 5))) I2.1.1 rfl
      have v5 : m_ga ν2 (a + 5) (nI b) = some (nI (up PR p b)) := by rw [ga_A I2.1.2.2.2.2.2.1 hb (by omega), (I2.2.2 b hb).2.2, hu.1]
      have v6 : m_ga ν2 (a + 6) (nI (up PR p b)) = some (nI (dph PR p 24 (up PR p b))) := by rw [ga_A c6 (by omega) (by omega), dv]
      refine ⟨ν3, (), ?_, s12.tr s3, fun j hj => by rw [u3, if_neg (by omega), e1]; exact f1' j hj, fun c hc => by rw [u3, if_neg (by omega)]; exact f9' c hc, fun c hc => ?_⟩
      · try dsimp only
        rw [go]
        simp (disch := first | omega | decide | with_reducible assumption) only [i15_186, i15_188, i15_191, i15_192, i15_195, i15_197, i15_198, i15_201, i15_202, i15_205, i15_207, i15_208, i15_209, i15_210, i15_211, i15_212, i15_215, nI_le0, eq_false h0, g4, g3, v5, v6, nI_add1, p3, b_v_s, b_i_s, b_n_s, b_r_s, b_r_n, b_m_s, b_c_s, b_c_v, if_false]
      · rw [u3, if_pos rfl, upd_at]
        by_cases e : c = b
        · rw [if_pos e, if_pos (by omega), e, dph_b hw hn b0 hb]
        · rw [if_neg e, e6, f6 c hc]
          by_cases y : c < b
          · rw [if_pos y, if_pos (by omega)]
          · rw [if_neg y, if_neg (by omega)]) μ () ⟨K.rf μ, fun k hk' => by rw [z1 k hk']; rfl, fun c hc => absurd hc (Nat.not_lt_zero c), fun c hc => by rw [if_neg (Nat.not_lt_zero c)]; exact z6 c hc⟩
  refine ⟨ν, ?_, s, f1, f9, fun c hc => by rw [f6 c hc, if_pos hc]⟩
  refine (show _ = _ from e).trans ?_
  have I0 : PgI ν a p n PR KD WD := PgI_K h s ⟨by simp, by simp, by simp⟩ (by simp)
  have g0 : m_gf ν a 3 0 = some (.int (nI n)) := by rw [gO (e := none) I0.1.1 rfl, tmv, I0.2.1]
  try dsimp only
  rw [i15_120]
  simp (disch := first | omega | decide | with_reducible assumption) only [i15_122, i15_123, i15_126, g0, lt_f, b_v_s, b_i_s, b_n_s, b_r_s, b_r_n, b_m_s, b_c_s, b_c_v, if_false]
end ploop
