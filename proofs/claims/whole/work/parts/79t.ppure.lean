/-! descendants, from either end -/
section desc
variable {PR : Nat → Int32} {p n : Nat}
/-- i lies within x -/
theorem dp_bt (x : Nat) (hx : x < 24) : ∀ m, m ≤ 24 → ∀ i, bt (dp PR p (sb x) m) i = true ↔ (i = x ∨ (0 < i ∧ i < m ∧ bt (dp PR p (sb x) i) (up PR p i) = true)) := by
  intro m
  induction m with
  | zero =>
    intro _ i
    rw [dp, bt_sb (by omega)]
    exact ⟨Or.inl, fun q => q.elim id (fun z => absurd z.2.1 (Nat.not_lt_zero i))⟩
  | succ m ih =>
    intro hm i
    rw [dp, b_or, Bool.or_eq_true, ih (by omega)]
    by_cases c : (decide (0 < m) && bt (dp PR p (sb x) m) (up PR p m)) = true
    · rw [if_pos c, bt_sb (by omega)]
      rw [Bool.and_eq_true, decide_eq_true_eq] at c
      constructor
      · rintro ((q | q) | q)
        · exact Or.inl q
        · exact Or.inr ⟨q.1, by omega, q.2.2⟩
        · rw [q]; exact Or.inr ⟨c.1, by omega, c.2⟩
      · rintro (q | q)
        · exact Or.inl (Or.inl q)
        · by_cases e : i = m
          · exact Or.inr e
          · exact Or.inl (Or.inr ⟨q.1, by omega, q.2.2⟩)
    · rw [if_neg c, b_0]
      constructor
      · rintro ((q | q) | q)
        · exact Or.inl q
        · exact Or.inr ⟨q.1, by omega, q.2.2⟩
        · cases q
      · rintro (q | q)
        · exact Or.inl (Or.inl q)
        · by_cases e : i = m
          · subst e
            exact absurd (by rw [Bool.and_eq_true, decide_eq_true_eq]; exact ⟨q.1, q.2.2⟩) c
          · exact Or.inl (Or.inr ⟨q.1, by omega, q.2.2⟩)
theorem dpr_up (hw : PW PR p n) (hn : n ≤ 24) {x : Nat} (hx : x < n) (i : Nat) : bt (dpr PR p n x) i = true ↔ (0 < i ∧ i < n ∧ (up PR p i = x ∨ bt (dpr PR p n x) (up PR p i) = true)) := by
  have e : ∀ i, bt (dpr PR p n x) i = true ↔ (i < n ∧ 0 < i ∧ bt (dp PR p (sb x) i) (up PR p i) = true) := fun i => by
    unfold dpr
    rw [b_mk _ (by omega), Bool.and_eq_true, decide_eq_true_eq, Bool.and_eq_true, decide_eq_true_eq]
  rw [e i]
  constructor
  · rintro ⟨h1, h2, h3⟩
    refine ⟨h2, h1, ?_⟩
    have hu := (hw.2 i h2 h1).2
    rcases (dp_bt x (by omega) i (by omega) _).mp h3 with q | q
    · exact Or.inl q
    · exact Or.inr ((e _).mpr ⟨by omega, q.1, q.2.2⟩)
  · rintro ⟨h2, h1, h3⟩
    refine ⟨h1, h2, ?_⟩
    have hu := (hw.2 i h2 h1).2
    refine (dp_bt x (by omega) i (by omega) _).mpr ?_
    rcases h3 with q | q
    · exact Or.inl q
    · have := (e _).mp q
      exact Or.inr ⟨this.2.1, by omega, this.2.2⟩
theorem dpr_dn (hw : PW PR p n) (hn : n ≤ 24) {x : Nat} (hx : x < n) : ∀ k i, i < k → (bt (dpr PR p n x) i = true ↔ ∃ y, 0 < y ∧ y < n ∧ up PR p y = x ∧ (i = y ∨ bt (dpr PR p n y) i = true)) := by
  intro k
  induction k with
  | zero => intro i hi; exact absurd hi (Nat.not_lt_zero i)
  | succ k ih =>
    intro i hi
    rw [dpr_up hw hn hx]
    constructor
    · rintro ⟨h0, h1, q | q⟩
      · exact ⟨i, h0, h1, q, Or.inl rfl⟩
      · have hu := (hw.2 i h0 h1).2
        obtain ⟨y, y0, y1, y2, y3⟩ := (ih _ (by omega)).mp q
        refine ⟨y, y0, y1, y2, Or.inr ((dpr_up hw hn y1 i).mpr ⟨h0, h1, ?_⟩)⟩
        exact y3.imp id id
    · rintro ⟨y, y0, y1, y2, q | q⟩
      · rw [q]; exact ⟨y0, y1, Or.inl y2⟩
      · obtain ⟨h0, h1, h2⟩ := (dpr_up hw hn y1 i).mp q
        have hu := (hw.2 i h0 h1).2
        refine ⟨h0, h1, Or.inr ((ih _ (by omega)).mpr ⟨y, y0, y1, y2, ?_⟩)⟩
        exact h2.imp id id
theorem dph_b (hw : PW PR p n) (hn : n ≤ 24) {b : Nat} (h0 : 0 < b) (hb : b < n) : dph PR p 24 b = dph PR p 24 (up PR p b) + 1 := by
  have hu := (hw.2 b h0 hb).2
  rw [← dph_fuel hw 23 24 (up PR p b) (by omega) (by omega) (by omega)]
  rw [show (24 : Nat) = 23 + 1 from rfl, dph, if_neg (by omega)]
end desc
/-! the first box with a word -/
section first
variable {μ : mM} {a p n : Nat} {PR KD WD : Nat → Int32}
theorem P_firstWith {b : Nat} (hS : PSh μ a n) (hn : n ≤ 24) (hW : ∀ c, c < n → A μ (a + 4) c = WD (24 * p + c)) (hb : b < n) : m_D 16 [.ref a, .int (WD (24 * p + b)), .int (nI b)] μ = some (some (.int (nI (fal WD p b))), μ) := by
  have h4 := hS.2.2.2.2.1
  have g2 : m_gf μ a 3 2 = some (.ref (a + 4)) := gO (e := some (some (a + 4))) hS.1 rfl
  have ga : ∀ c, c < n → m_ga μ (a + 4) (nI c) = some (WD (24 * p + c)) := fun c hc => by rw [ga_A h4 hc (by omega), hW c hc]
  have key : ∀ r i, i + r = b → m_G 16 2 [.ref a, .int (WD (24 * p + b)), .int (nI b), .int (nI i)] [] μ = some (some (.int (nI (match fst (fun c => decide (WD (24 * p + c) = WD (24 * p + b))) r i with
      | some k => k
      | none => b))), μ) := by
    intro r
    induction r with
    | zero =>
      intro i hi
      rw [fst]
      simp (disch := first | omega | decide | with_reducible assumption) only [i16_2, i16_3, i16_4, i16_25, i16_26, lt_f, if_false]
    | succ r ih =>
      intro i hi
      rw [fst]
      by_cases q : WD (24 * p + i) = WD (24 * p + b)
      · rw [if_pos (decide_eq_true q)]
        simp (disch := first | omega | decide | with_reducible assumption) only [i16_2, i16_3, i16_4, i16_7, i16_8, i16_11, i16_12, i16_13, i16_14, i16_17, i16_18, lt_t, g2, ga i (by omega), q, b_v_s, b_i_s, b_n_s, b_r_s, b_r_n, b_m_s, b_c_s, b_c_v, if_true]
      · rw [if_neg (fun z => q (of_decide_eq_true z)), ← ih (i + 1) (by omega)]
        rw [i16_2]
        simp (disch := first | omega | decide | with_reducible assumption) only [i16_3, i16_4, i16_7, i16_8, i16_11, i16_12, i16_13, i16_14, i16_19, i16_22, lt_t, g2, ga i (by omega), q, b_v_s, b_i_s, b_n_s, b_r_s, b_r_n, b_m_s, b_c_s, b_c_v, if_true, if_false, nI_add1]
  have e := key b 0 (by omega)
  simp (disch := first | omega | decide | with_reducible assumption) only [D16, i16_0, i16_1]
  exact e
end first
