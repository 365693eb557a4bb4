/-! steps lead from a set to where they lead from its boxes -/
theorem dp_lin (PR : Nat → Int32) (p : Nat) (s : Int32) : ∀ (c i : Nat), bt (dp PR p s c) i = true ↔ ∃ b, b < 32 ∧ bt s b = true ∧ bt (dp PR p (sb b) c) i = true := by
  intro c
  induction c with
  | zero =>
    intro i
    simp only [dp]
    constructor
    · intro h
      have hi : i < 32 := by
        rcases Nat.lt_or_ge i 32 with q | q
        · exact q
        · rw [b_big q] at h; cases h
      exact ⟨i, hi, h, by rw [b_sb hi]; simp⟩
    · rintro ⟨b, h1, h2, h3⟩
      rw [b_sb h1, decide_eq_true_eq] at h3
      rw [h3]; exact h2
  | succ c ih =>
    intro i
    have e : ∀ s' : Int32, bt (dp PR p s' (c + 1)) i = true ↔ bt (dp PR p s' c) i = true ∨ (bt (sb c) i = true ∧ 0 < c ∧ bt (dp PR p s' c) (up PR p c) = true) := by
      intro s'
      rw [dp, b_or, Bool.or_eq_true]
      by_cases q : (decide (0 < c) && bt (dp PR p s' c) (up PR p c)) = true
      · rw [if_pos q]
        rw [Bool.and_eq_true, decide_eq_true_eq] at q
        exact ⟨fun z => z.elim Or.inl (fun z => Or.inr ⟨z, q⟩), fun z => z.elim Or.inl (fun z => Or.inr z.1)⟩
      · rw [if_neg q, b_0]
        rw [Bool.and_eq_true, decide_eq_true_eq] at q
        exact ⟨fun z => z.elim Or.inl (fun z => by cases z), fun z => z.elim Or.inl (fun z => absurd z.2 q)⟩
    rw [e, ih i]
    constructor
    · rintro (⟨b, h1, h2, h3⟩ | ⟨h0, h1, h2⟩)
      · exact ⟨b, h1, h2, (e _).mpr (Or.inl h3)⟩
      · obtain ⟨b, g1, g2, g3⟩ := (ih _).mp h2
        exact ⟨b, g1, g2, (e _).mpr (Or.inr ⟨h0, h1, g3⟩)⟩
    · rintro ⟨b, h1, h2, h3⟩
      rcases (e _).mp h3 with h | ⟨h, g1, g2⟩
      · exact Or.inl ⟨b, h1, h2, h⟩
      · exact Or.inr ⟨h, g1, (ih _).mpr ⟨b, h1, h2, g2⟩⟩
theorem bt_lin (s : Int32) (i : Nat) : bt s i = true ↔ ∃ b, b < 32 ∧ bt s b = true ∧ bt (sb b) i = true := by
  have := dp_lin (fun _ => 0) 0 s 0 i
  simpa only [dp] using this
theorem ledP_lin (PR KD : Nat → Int32) (p : Nat) (s : Int32) (t c : Nat) : ledP PR KD p s t c = true ↔ ∃ b, b < 32 ∧ bt s b = true ∧ ledP PR KD p (sb b) t c = true := by
  unfold ledP
  by_cases h0 : 0 < c
  · rw [decide_eq_true h0]
    simp only [Bool.true_and]
    by_cases h1 : t < 5
    · simp only [if_pos h1, Bool.and_eq_true]
      rw [bt_lin s]
      exact ⟨fun ⟨⟨b, a1, a2, a3⟩, a4⟩ => ⟨b, a1, a2, a3, a4⟩, fun ⟨b, a1, a2, a3, a4⟩ => ⟨⟨b, a1, a2, a3⟩, a4⟩⟩
    · simp only [if_neg h1]
      by_cases h2 : t < 15
      · simp only [if_pos h2, Bool.and_eq_true]
        rw [bt_lin s]
        exact ⟨fun ⟨⟨b, a1, a2, a3⟩, a4⟩ => ⟨b, a1, a2, a3, a4⟩, fun ⟨b, a1, a2, a3, a4⟩ => ⟨⟨b, a1, a2, a3⟩, a4⟩⟩
      · simp only [if_neg h2]
        by_cases h3 : t < 20
        · simp only [if_pos h3, Bool.and_eq_true]
          rw [dp_lin PR p s]
          exact ⟨fun ⟨⟨b, a1, a2, a3⟩, a4⟩ => ⟨b, a1, a2, a3, a4⟩, fun ⟨b, a1, a2, a3, a4⟩ => ⟨⟨b, a1, a2, a3⟩, a4⟩⟩
        · simp only [if_neg h3, Bool.and_eq_true]
          rw [bt_lin s]
          exact ⟨fun ⟨a4, b, a1, a2, a3⟩ => ⟨b, a1, a2, a4, a3⟩, fun ⟨b, a1, a2, a4, a3⟩ => ⟨a4, b, a1, a2, a3⟩⟩
  · rw [decide_eq_false h0]
    simp
theorem b_orU (f : Nat → Int32) (s : Int32) (n i : Nat) : bt (orU f s n) i = true ↔ ∃ b, b < n ∧ bt s b = true ∧ bt (f b) i = true := by
  induction n with
  | zero => rw [orU, b_0]; exact ⟨fun h => (by cases h), fun ⟨b, h, _⟩ => (by omega)⟩
  | succ n ih =>
    rw [orU, b_or, Bool.or_eq_true, ih]
    constructor
    · rintro (⟨b, h1, h2, h3⟩ | h)
      · exact ⟨b, by omega, h2, h3⟩
      · by_cases q : bt s n = true
        · rw [if_pos q] at h; exact ⟨n, by omega, q, h⟩
        · rw [if_neg q, b_0] at h; cases h
    · rintro ⟨b, h1, h2, h3⟩
      by_cases q : b = n
      · subst q; rw [if_pos h2]; exact Or.inr h3
      · exact Or.inl ⟨b, by omega, h2, h3⟩
theorem b_ext' {x y : Int32} (h : ∀ i, i < 32 → (bt x i = true ↔ bt y i = true)) : x = y := b_ext fun i hi => by
  have := h i hi
  cases q1 : bt x i <;> cases q2 : bt y i <;> simp_all
theorem mk_lin {PR KD : Nat → Int32} {p n t : Nat} {s : Int32} {f : Nat → Int32} (hn : n ≤ 24) (hs : ∀ b, bt s b = true → b < n) (hf : ∀ b, b < n → f b = mk (ledP PR KD p (sb b) t) n) : orU f s 24 = mk (ledP PR KD p s t) n := by
  refine b_ext' fun i hi => ?_
  rw [b_orU, b_mk _ (by omega), Bool.and_eq_true, decide_eq_true_eq, ledP_lin]
  constructor
  · rintro ⟨b, h1, h2, h3⟩
    have hb := hs b h2
    rw [hf b hb, b_mk _ (by omega), Bool.and_eq_true, decide_eq_true_eq] at h3
    exact ⟨h3.1, b, by omega, h2, h3.2⟩
  · rintro ⟨h0, b, h1, h2, h3⟩
    have hb := hs b h2
    exact ⟨b, by omega, h2, by rw [hf b hb, b_mk _ (by omega), Bool.and_eq_true, decide_eq_true_eq]; exact ⟨h0, h3⟩⟩
/-- where the first k steps of sentence x lead on a page of n boxes -/
def ss (PR KD : Nat → Int32) (p n x : Nat) : Nat → Int32
  | 0 => 1
  | i + 1 => mk (ledP PR KD p (ss PR KD p n x i) (asR (stO x i))) n
theorem ss_lt {PR KD : Nat → Int32} {p n x k b : Nat} (h1 : 1 ≤ n) (hn : n ≤ 24) (h : bt (ss PR KD p n x k) b = true) : b < n := by
  cases k with
  | zero => rw [ss, b_1, decide_eq_true_eq] at h; omega
  | succ k => rw [ss, b_mk _ (by omega), Bool.and_eq_true, decide_eq_true_eq] at h; exact h.1
theorem ldo_ss {PR KD : Nat → Int32} {p n x : Nat} {f : Nat → Int32} (h1 : 1 ≤ n) (hn : n ≤ 24) (hx : x < 3615) : ∀ k, k ≤ stps x → ldo (lay PR KD p n f 15 0) x k = ss PR KD p n x k := by
  intro k
  induction k with
  | zero => intro _; rfl
  | succ k ih =>
    intro hk
    rw [ldo, ss, ih (by omega)]
    refine mk_lin hn (fun b hb => ss_lt h1 hn hb) (fun b hb => ?_)
    have ht := stO_lt x k hx
    unfold lay
    have e1 : (24 * stO x k + b) / 24 = stO x k := by omega
    have e2 : (24 * stO x k + b) % 24 = b := by omega
    rw [e1, e2, if_pos ⟨Or.inl ht, hb⟩]
/-- where sentence x leads on page p -/
def sn (PR KD : Nat → Int32) (p n x : Nat) : Int32 := ss PR KD p n x (stps x)
