/-! the page's second loop, from the last box to the first -/
section ploop2
variable {μ : mM} {a p n : Nat} {PR KD WD : Nat → Int32}
theorem cnt_ex (P : Nat → Bool) : ∀ n, (0 < cnt P n ↔ ∃ y, y < n ∧ P y = true) := by
  intro n
  induction n with
  | zero => exact ⟨fun h => absurd h (Nat.lt_irrefl 0), fun ⟨y, h, _⟩ => absurd h (Nat.not_lt_zero y)⟩
  | succ n ih =>
    rw [cnt]
    by_cases q : P n = true
    · rw [if_pos q]
      exact ⟨fun _ => ⟨n, by omega, q⟩, fun _ => by omega⟩
    · rw [if_neg q, Nat.add_zero, ih]
      refine ⟨fun ⟨y, h1, h2⟩ => ⟨y, by omega, h2⟩, fun ⟨y, h1, h2⟩ => ⟨y, ?_, h2⟩⟩
      by_cases e : y = n
      · exact absurd (e ▸ h2) q
      · omega
def iB (PR : Nat → Int32) (p n b x : Nat) : Int32 := mk (fun c => decide (b < c) && decide (PR (24 * p + c) = nI x)) n
def hB (PR : Nat → Int32) (p n b : Nat) : Int32 := mk (fun x => decide (0 < cnt (fun c => decide (b < c) && decide (PR (24 * p + c) = nI x)) n)) n
def dB (PR : Nat → Int32) (p n b x : Nat) : Int32 := mk (fun i => decide (0 < cnt (fun y => decide (b < y) && (decide (up PR p y = x) && (decide (i = y) || bt (dpr PR p n y) i))) n)) n
theorem b_iB (hn : n ≤ 24) (b x i : Nat) : bt (iB PR p n b x) i = true ↔ (i < n ∧ b < i ∧ PR (24 * p + i) = nI x) := by
  unfold iB
  rw [b_mk _ (by omega), Bool.and_eq_true, decide_eq_true_eq, Bool.and_eq_true, decide_eq_true_eq, decide_eq_true_eq]
theorem b_hB (hn : n ≤ 24) (b i : Nat) : bt (hB PR p n b) i = true ↔ (i < n ∧ ∃ c, c < n ∧ b < c ∧ PR (24 * p + c) = nI i) := by
  unfold hB
  rw [b_mk _ (by omega), Bool.and_eq_true, decide_eq_true_eq, decide_eq_true_eq, cnt_ex]
  simp only [Bool.and_eq_true, decide_eq_true_eq]
theorem b_dB (hn : n ≤ 24) (b x i : Nat) : bt (dB PR p n b x) i = true ↔ (i < n ∧ ∃ y, y < n ∧ b < y ∧ up PR p y = x ∧ (i = y ∨ bt (dpr PR p n y) i = true)) := by
  unfold dB
  rw [b_mk _ (by omega), Bool.and_eq_true, decide_eq_true_eq, decide_eq_true_eq, cnt_ex]
  simp only [Bool.and_eq_true, Bool.or_eq_true, decide_eq_true_eq]
theorem dpr_lt (hn : n ≤ 24) {x i : Nat} (h : bt (dpr PR p n x) i = true) : i < n := by
  unfold dpr at h
  rw [b_mk _ (by omega), Bool.and_eq_true, decide_eq_true_eq] at h
  exact h.1
theorem dB_own (hw : PW PR p n) (hn : n ≤ 24) {b : Nat} (hb : b < n) : dB PR p n b b = dpr PR p n b := by
  refine b_ext' fun i hi => ?_
  rw [b_dB hn, dpr_dn hw hn hb (i + 1) i (by omega)]
  constructor
  · rintro ⟨_, y, y1, y2, y3, y4⟩
    exact ⟨y, by omega, y1, y3, y4⟩
  · rintro ⟨y, y0, y1, y3, y4⟩
    have hu := (hw.2 y y0 y1).2
    refine ⟨?_, y, y1, by omega, y3, y4⟩
    rcases y4 with e | e
    · omega
    · exact dpr_lt hn e
theorem dB_0 (hw : PW PR p n) (hn : n ≤ 24) {x : Nat} (hx : x < n) : dB PR p n 0 x = dpr PR p n x := by
  refine b_ext' fun i hi => ?_
  rw [b_dB hn, dpr_dn hw hn hx (i + 1) i (by omega)]
  constructor
  · rintro ⟨_, y, y1, y2, y3, y4⟩
    exact ⟨y, y2, y1, y3, y4⟩
  · rintro ⟨y, y0, y1, y3, y4⟩
    refine ⟨?_, y, y1, y0, y3, y4⟩
    rcases y4 with e | e
    · omega
    · exact dpr_lt hn e
theorem c0 (hw : PW PR p n) {x : Nat} (hx : x < 24) (c : Nat) : (decide (0 < c) && decide (PR (24 * p + c) = nI x)) = decide (PR (24 * p + c) = nI x) := by
  by_cases e : 0 < c
  · rw [decide_eq_true e, Bool.true_and]
  · rw [decide_eq_false e, Bool.false_and]
    refine (decide_eq_false fun z => ?_).symm
    rw [show c = 0 by omega, Nat.add_zero, hw.1] at z
    exact (nI_ne1 (show x < 2147483648 by omega)).mp z.symm
theorem iB_0 (hw : PW PR p n) (hn : n ≤ 24) {x : Nat} (hx : x < n) : iB PR p n 0 x = inn PR p n x := by
  unfold iB inn
  exact mk_congr fun c hc => c0 hw (by omega) c
theorem hB_0 (hw : PW PR p n) (hn : n ≤ 24) : hB PR p n 0 = mk (rowsM PR p n) n := by
  unfold hB
  refine mk_congr fun x hx => ?_
  unfold rowsM
  rw [cnt_congr (fun c _ => c0 hw (show x < 24 by omega) c)]
theorem iB_st (hw : PW PR p n) (hn : n ≤ 24) {b : Nat} (h0 : 0 < b) (hb : b < n) (x : Nat) (hx : x < n) : iB PR p n (b - 1) x = if x = up PR p b then iB PR p n b x ||| sb b else iB PR p n b x := by
  have hu := hw.2 b h0 hb
  refine b_ext' fun i hi => ?_
  rw [b_iB hn]
  by_cases e : x = up PR p b
  · rw [if_pos e, b_or, Bool.or_eq_true, b_iB hn, bt_sb (by omega)]
    constructor
    · rintro ⟨i1, i2, i3⟩
      by_cases q : i = b
      · exact Or.inr q
      · exact Or.inl ⟨i1, by omega, i3⟩
    · rintro (⟨i1, i2, i3⟩ | q)
      · exact ⟨i1, by omega, i3⟩
      · rw [q, e]; exact ⟨hb, by omega, hu.1⟩
  · rw [if_neg e, b_iB hn]
    constructor
    · rintro ⟨i1, i2, i3⟩
      refine ⟨i1, ?_, i3⟩
      by_cases q : i = b
      · rw [q, hu.1] at i3
        have := (nI_eqE (show up PR p b < 2147483648 by omega) (show x < 2147483648 by omega)).mp i3
        exact absurd this.symm e
      · omega
    · rintro ⟨i1, i2, i3⟩
      exact ⟨i1, by omega, i3⟩
theorem hB_st (hw : PW PR p n) (hn : n ≤ 24) {b : Nat} (h0 : 0 < b) (hb : b < n) : hB PR p n (b - 1) = hB PR p n b ||| sb (up PR p b) := by
  have hu := hw.2 b h0 hb
  refine b_ext' fun i hi => ?_
  rw [b_hB hn, b_or, Bool.or_eq_true, b_hB hn, bt_sb (by omega)]
  constructor
  · rintro ⟨i1, c, c1, c2, c3⟩
    by_cases q : c = b
    · refine Or.inr ?_
      rw [q, hu.1] at c3
      exact ((nI_eqE (show up PR p b < 2147483648 by omega) (show i < 2147483648 by omega)).mp c3).symm
    · exact Or.inl ⟨i1, c, c1, by omega, c3⟩
  · rintro (⟨i1, c, c1, c2, c3⟩ | q)
    · exact ⟨i1, c, c1, by omega, c3⟩
    · exact ⟨by omega, b, hb, by omega, by rw [q]; exact hu.1⟩
theorem dB_st (hw : PW PR p n) (hn : n ≤ 24) {b : Nat} (h0 : 0 < b) (hb : b < n) (x : Nat) : dB PR p n (b - 1) x = if x = up PR p b then dB PR p n b x ||| (dpr PR p n b ||| sb b) else dB PR p n b x := by
  refine b_ext' fun i hi => ?_
  rw [b_dB hn]
  by_cases e : x = up PR p b
  · rw [if_pos e, b_or, Bool.or_eq_true, b_or, Bool.or_eq_true, b_dB hn, bt_sb (by omega)]
    constructor
    · rintro ⟨i1, y, y1, y2, y3, y4⟩
      by_cases q : y = b
      · rw [q] at y4
        exact Or.inr (y4.elim Or.inr Or.inl)
      · exact Or.inl ⟨i1, y, y1, by omega, y3, y4⟩
    · rintro (⟨i1, y, y1, y2, y3, y4⟩ | q)
      · exact ⟨i1, y, y1, by omega, y3, y4⟩
      · refine ⟨?_, b, hb, by omega, e.symm, q.elim Or.inr Or.inl⟩
        rcases q with q | q
        · exact dpr_lt hn q
        · omega
  · rw [if_neg e, b_dB hn]
    constructor
    · rintro ⟨i1, y, y1, y2, y3, y4⟩
      refine ⟨i1, y, y1, ?_, y3, y4⟩
      by_cases q : y = b
      · rw [q] at y3; exact absurd y3.symm e
      · omega
    · rintro ⟨i1, y, y1, y2, y3, y4⟩
      exact ⟨i1, y, y1, by omega, y3, y4⟩
theorem mk_none {P : Nat → Bool} {m : Nat} (h : ∀ i, i < m → P i = false) : mk P m = 0 := by
  induction m with
  | zero => rfl
  | succ m ih => rw [mk_0 _ _ (h m (by omega)), ih (fun i hi => h i (by omega))]
theorem B_top (x : Nat) : iB PR p n (n - 1) x = 0 ∧ hB PR p n (n - 1) = 0 ∧ dB PR p n (n - 1) x = 0 := by
  have hz : ∀ Q : Nat → Bool, cnt (fun c => decide (n - 1 < c) && Q c) n = 0 := fun Q => by
    rcases Nat.eq_zero_or_pos (cnt (fun c => decide (n - 1 < c) && Q c) n) with h | h
    · exact h
    · obtain ⟨y, y1, y2⟩ := (cnt_ex _ n).mp h
      rw [Bool.and_eq_true, decide_eq_true_eq] at y2
      omega
  refine ⟨?_, ?_, ?_⟩
  · exact mk_none fun i hi => by rw [decide_eq_false (by omega), Bool.false_and]
  · exact mk_none fun i hi => by rw [hz (fun c => decide (PR (24 * p + c) = nI i))]; rfl
  · exact mk_none fun i hi => by rw [hz (fun y => decide (up PR p y = x) && (decide (i = y) || bt (dpr PR p n y) i))]; rfl
set_option maxHeartbeats 4000000 in
theorem P_loop2 {W : Int32} (h : PgI μ a p n PR KD WD) (h1 : 1 ≤ n) (hn : n ≤ 24) (hw : PW PR p n) (z7 : ∀ c, c < n → A μ (a + 7) c = 0) (z8 : ∀ c, c < n → A μ (a + 8) c = 0) : ∃ ν v, m_G 15 218 [.ref a, .ref 5, .int W, .int 0, .int (nI n), m_d] [] μ = m_G 15 289 [.ref a, .ref 5, .int W, .int (mk (rowsM PR p n) n), .int (nI 0), v] [] ν ∧ K [a + 7, a + 8] [] μ ν ∧ ∀ c, c < n → A ν (a + 7) c = inn PR p n c ∧ A ν (a + 8) c = dpr PR p n c := by
  obtain ⟨ν, v, e, s, f⟩ := loop_inv (fun t ν (v : Value) => m_G 15 226 [.ref a, .ref 5, .int W, .int (hB PR p n (n - 1 - t)), .int (nI (n - 1 - t)), v] [] ν) (fun t ν => K [a + 7, a + 8] [] μ ν ∧ ∀ c, c < n → A ν (a + 7) c = iB PR p n (n - 1 - t) c ∧ A ν (a + 8) c = dB PR p n (n - 1 - t) c) (n - 1) (fun t ν v ht P => by
    obtain ⟨s, f⟩ := P
    have I0 : PgI ν a p n PR KD WD := PgI_K h s ⟨by simp, by simp, by simp⟩ (by simp)
    obtain ⟨b, hbe⟩ : ∃ b, b = n - 1 - t := ⟨_, rfl⟩
    rw [← hbe] at f
    have b0 : 0 < b := by omega
    have hb : b < n := by omega
    have hu := hw.2 b b0 hb
    have hun : up PR p b < n := by omega
    have a7 := I0.1.2.2.2.2.2.2.2.1
    have s1 : K [a + 7, a + 8] [] ν (wA ν (a + 7) (upd (A ν (a + 7)) (up PR p b) (A ν (a + 7) (up PR p b) ||| sb b))) := K_wA a7 _ (by simp)
    have p1 := pa_A (x := A ν (a + 7) (up PR p b) ||| sb b) (k := up PR p b) a7 hun (by omega)
    have u1 := wA_A a7 (upd (A ν (a + 7)) (up PR p b) (A ν (a + 7) (up PR p b) ||| sb b))
    have g3 : m_gf ν a 3 3 = some (.ref (a + 5)) := gO (e := some (some (a + 5))) I0.1.1 rfl
    have g5 : m_gf ν a 3 5 = some (.ref (a + 7)) := gO (e := some (some (a + 7))) I0.1.1 rfl
    have v5 : m_ga ν (a + 5) (nI b) = some (nI (up PR p b)) := by rw [ga_A I0.1.2.2.2.2.2.1 hb (by omega), (I0.2.2 b hb).2.2, hu.1]
    have v7 : m_ga ν (a + 7) (nI (up PR p b)) = some (A ν (a + 7) (up PR p b)) := ga_A a7 hun (by omega)
    generalize wA ν (a + 7) (upd (A ν (a + 7)) (up PR p b) (A ν (a + 7) (up PR p b) ||| sb b)) = ν1 at *
    have I1 : PgI ν1 a p n PR KD WD := PgI_K I0 s1 ⟨by simp, by simp, by simp⟩ (by simp)
    have a8 := I1.1.2.2.2.2.2.2.2.2.1
    have e8 : A ν1 (a + 8) = A ν (a + 8) := by rw [u1, if_neg (by omega)]
    have s2 : K [a + 7, a + 8] [] ν1 (wA ν1 (a + 8) (upd (A ν1 (a + 8)) (up PR p b) (A ν1 (a + 8) (up PR p b) ||| (A ν1 (a + 8) b ||| sb b)))) := K_wA a8 _ (by simp)
    have p2 := pa_A (x := A ν1 (a + 8) (up PR p b) ||| (A ν1 (a + 8) b ||| sb b)) (k := up PR p b) a8 hun (by omega)
    have u2 := wA_A a8 (upd (A ν1 (a + 8)) (up PR p b) (A ν1 (a + 8) (up PR p b) ||| (A ν1 (a + 8) b ||| sb b)))
    have g6 : m_gf ν1 a 3 6 = some (.ref (a + 8)) := gO (e := some (some (a + 8))) I1.1.1 rfl
    have v8 : m_ga ν1 (a + 8) (nI (up PR p b)) = some (A ν1 (a + 8) (up PR p b)) := ga_A a8 hun (by omega)
    have v8b : m_ga ν1 (a + 8) (nI b) = some (A ν1 (a + 8) b) := ga_A a8 hb (by omega)
    generalize wA ν1 (a + 8) (upd (A ν1 (a + 8)) (up PR p b) (A ν1 (a + 8) (up PR p b) ||| (A ν1 (a + 8) b ||| sb b))) = ν2 at *
    have hb1 : n - 1 - (t + 1) = b - 1 := by omega
    refine ⟨ν2, .int (nI (up PR p b)), ?_, (s.tr s1).tr s2, fun c hc => ?_⟩
    · try dsimp only
      rw [hb1, ← hbe, hB_st hw hn b0 hb, i15_226]
      have nz : (nI b ≤ 0) = False := by rw [nI_le0 (by omega)]; exact eq_false (by omega)
      have m1 : nI b + -1 = nI (b - 1) := by rw [show b = b - 1 + 1 by omega, Nat.add_sub_cancel, ← nI_m1 (b - 1), Int32.sub_eq_add_neg]
      simp (disch := first | omega | decide | with_reducible assumption) only [i15_228, i15_231, i15_232, i15_235, i15_237, i15_238, i15_240, i15_241, i15_244, i15_246, i15_247, i15_248, i15_249, i15_251, i15_252, i15_253, i15_254, i15_255, i15_258, i15_260, i15_261, i15_262, i15_263, i15_266, i15_268, i15_269, i15_270, i15_272, i15_273, i15_274, i15_275, i15_276, i15_277, i15_278, i15_280, i15_281, i15_282, i15_283, i15_286, nz, g3, v5, g5, v7, sb_def, p1, g6, v8, v8b, p2, b_v_s, b_i_s, b_n_s, b_r_s, b_r_n, b_m_s, b_c_s, b_c_v, if_false, m1]
    · rw [hb1, iB_st hw hn b0 hb c hc, dB_st hw hn b0 hb c, u2, u2, if_neg (by omega), if_pos rfl, u1, if_pos rfl, upd_at, upd_at, e8]
      obtain ⟨f7, f8⟩ := f c hc
      obtain ⟨_, f8b⟩ := f b hb
      by_cases e : c = up PR p b
      · rw [if_pos e, if_pos e, if_pos e, if_pos e, ← e, f7, f8, f8b, dB_own hw hn hb]
        exact ⟨rfl, rfl⟩
      · rw [if_neg e, if_neg e, if_neg e, if_neg e]
        exact ⟨f7, f8⟩) μ m_d ⟨K.rf μ, fun c hc => by rw [Nat.sub_zero, (B_top c).1, (B_top c).2.2]; exact ⟨z7 c hc, z8 c hc⟩⟩
  rw [Nat.sub_self] at e f
  rw [hB_0 hw hn, Nat.sub_zero, (B_top (PR := PR) (p := p) (n := n) 0).2.1] at e
  refine ⟨ν, v, ?_, s, fun c hc => by rw [← iB_0 hw hn hc, ← dB_0 hw hn hc]; exact f c hc⟩
  have g0 : m_gf μ a 3 0 = some (.int (nI n)) := by rw [gO (e := none) h.1.1 rfl, tmv, h.2.1]
  have m1 : nI n - 1 = nI (n - 1) := by rw [show n = n - 1 + 1 by omega, nI_m1, Nat.add_sub_cancel]
  have e' : m_G 15 218 [.ref a, .ref 5, .int W, .int 0, .int (nI n), m_d] [] μ = m_G 15 226 [.ref a, .ref 5, .int W, .int 0, .int (nI (n - 1)), m_d] [] μ := by
    simp (disch := first | omega | decide | with_reducible assumption) only [i15_218, i15_219, i15_222, i15_223, i15_224, g0, m1, b_v_s, b_i_s, b_n_s, b_r_s, b_r_n, b_m_s, b_c_s, b_c_v]
  rw [e']
  refine (show _ = _ from e).trans ?_
  try dsimp only
  rw [i15_226]
  simp (disch := first | omega | decide | with_reducible assumption) only [i15_228, nI_le0, if_true]
end ploop2
