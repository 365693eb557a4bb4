/-! the model's state by its template; what it leaves is what K says -/
def TMd : Tm := [none, some (some 20), some (some 21), some (some 22), some (some 23), some (some 24), some (some 25), some (some 26), none, none, none, some (some 27), some (some 28), some (some 29), none, some (some 30), none, none, some (some 31), some (some 32), some (some 33), some (some 34), some (some 35), none, some (some 36), some (some 37), some (some 38), none, some (some 39), some (some 40), some (some 41), some (some 42), some (some 43), some (some 44), some (some 45), some (some 46), some (some 47), some none]
theorem MS_O {μ : mM} (h : MS μ) : isO μ 19 9 TMd := h.1
theorem MS_K {X : List Nat} {Y : List (Nat × Nat)} {μ ν : mM} (h : MS μ) (k : K X Y μ ν) : MS ν := ⟨K_isO k (MS_O h), K_isA k (aM20 h), K_isA k (aM21 h), K_isA k (aM22 h), K_isA k (aM23 h), K_isA k (aM24 h), K_isA k (aM25 h), K_isA k (aM26 h), K_isA k (aM27 h), K_isA k (aM28 h), K_isA k (aM29 h), K_isA k (aM30 h), K_isA k (aM31 h), K_isA k (aM32 h), K_isA k (aM33 h), K_isA k (aM34 h), K_isA k (aM35 h), K_isA k (aM36 h), K_isA k (aM37 h), K_isA k (aM38 h), K_isA k (aM39 h), K_isA k (aM40 h), K_isA k (aM41 h), K_isA k (aM42 h), K_isA k (aM43 h), K_isA k (aM44 h), K_isA k (aM45 h), K_isA k (aM46 h), K_isA k (aM47 h)⟩
theorem tmv_inj {μ : mM} {a i : Nat} {e e' : Option (Option Nat)} (h : tmv μ a i e = tmv μ a i e') : e = e' := by
  cases e with
  | none => cases e' with
    | none => rfl
    | some e' => cases e' <;> (simp [tmv] at h)
  | some e => cases e with
    | none => cases e' with
      | none => simp [tmv] at h
      | some e' => cases e' with
        | none => rfl
        | some r => simp [tmv] at h
    | some r => cases e' with
      | none => simp [tmv] at h
      | some e' => cases e' with
        | none => simp [tmv] at h
        | some r' => simp [tmv] at h; rw [h]
theorem tm_inj {μ : mM} {a : Nat} : ∀ {T T' : Tm} {i : Nat}, tm μ a i T = tm μ a i T' → T = T' := by
  intro T
  induction T with
  | nil => intro T' i h; cases T' with
    | nil => rfl
    | cons e t => simp [tm] at h
  | cons e t ih => intro T' i h; cases T' with
    | nil => simp [tm] at h
    | cons e' t' =>
      rw [tm, tm] at h
      injection h with h1 h2
      rw [tmv_inj h1, ih h2]
/-- a row of the model has one shape -/
theorem MS_row {μ : mM} (h : MS μ) {a : Nat} (h1 : 20 ≤ a) (h2 : a ≤ 47) : ∃ k n, isA μ a k n ∧ ∀ ν, MS ν → isA ν a k n := by
  rcases (show a = 20 ∨ a = 21 ∨ a = 22 ∨ a = 23 ∨ a = 24 ∨ a = 25 ∨ a = 26 ∨ a = 27 ∨ a = 28 ∨ a = 29 ∨ a = 30 ∨ a = 31 ∨ a = 32 ∨ a = 33 ∨ a = 34 ∨ a = 35 ∨ a = 36 ∨ a = 37 ∨ a = 38 ∨ a = 39 ∨ a = 40 ∨ a = 41 ∨ a = 42 ∨ a = 43 ∨ a = 44 ∨ a = 45 ∨ a = 46 ∨ a = 47 by omega) with rfl | rfl | rfl | rfl | rfl | rfl | rfl | rfl | rfl | rfl | rfl | rfl | rfl | rfl | rfl | rfl | rfl | rfl | rfl | rfl | rfl | rfl | rfl | rfl | rfl | rfl | rfl | rfl
  · exact ⟨_, _, aM20 h, fun ν hν => aM20 hν⟩
  · exact ⟨_, _, aM21 h, fun ν hν => aM21 hν⟩
  · exact ⟨_, _, aM22 h, fun ν hν => aM22 hν⟩
  · exact ⟨_, _, aM23 h, fun ν hν => aM23 hν⟩
  · exact ⟨_, _, aM24 h, fun ν hν => aM24 hν⟩
  · exact ⟨_, _, aM25 h, fun ν hν => aM25 hν⟩
  · exact ⟨_, _, aM26 h, fun ν hν => aM26 hν⟩
  · exact ⟨_, _, aM27 h, fun ν hν => aM27 hν⟩
  · exact ⟨_, _, aM28 h, fun ν hν => aM28 hν⟩
  · exact ⟨_, _, aM29 h, fun ν hν => aM29 hν⟩
  · exact ⟨_, _, aM30 h, fun ν hν => aM30 hν⟩
  · exact ⟨_, _, aM31 h, fun ν hν => aM31 hν⟩
  · exact ⟨_, _, aM32 h, fun ν hν => aM32 hν⟩
  · exact ⟨_, _, aM33 h, fun ν hν => aM33 hν⟩
  · exact ⟨_, _, aM34 h, fun ν hν => aM34 hν⟩
  · exact ⟨_, _, aM35 h, fun ν hν => aM35 hν⟩
  · exact ⟨_, _, aM36 h, fun ν hν => aM36 hν⟩
  · exact ⟨_, _, aM37 h, fun ν hν => aM37 hν⟩
  · exact ⟨_, _, aM38 h, fun ν hν => aM38 hν⟩
  · exact ⟨_, _, aM39 h, fun ν hν => aM39 hν⟩
  · exact ⟨_, _, aM40 h, fun ν hν => aM40 hν⟩
  · exact ⟨_, _, aM41 h, fun ν hν => aM41 hν⟩
  · exact ⟨_, _, aM42 h, fun ν hν => aM42 hν⟩
  · exact ⟨_, _, aM43 h, fun ν hν => aM43 hν⟩
  · exact ⟨_, _, aM44 h, fun ν hν => aM44 hν⟩
  · exact ⟨_, _, aM45 h, fun ν hν => aM45 hν⟩
  · exact ⟨_, _, aM46 h, fun ν hν => aM46 hν⟩
  · exact ⟨_, _, aM47 h, fun ν hν => aM47 hν⟩
theorem SC_K {X Y : List Nat} {μ ν : mM} (h : MS μ) (s : SC X Y μ ν) (hX : ∀ a ∈ X, 20 ≤ a ∧ a ≤ 47) : K X (Y.map (fun k => (19, k))) μ ν := by
  obtain ⟨hν, hN, ⟨hC, hL⟩, hF, hI⟩ := s
  have row : ∀ a ∈ X, ∃ k n, isA μ a k n ∧ isA ν a k n := fun a ha => by
    obtain ⟨k, n, h1, h2⟩ := MS_row h (hX a ha).1 (hX a ha).2
    exact ⟨k, n, h1, h2 ν hν⟩
  have cellsame : ∀ a, mF ν a = mF μ a → A ν a = A μ a ∧ RA ν a = RA μ a ∧ (∀ k, FI ν a k = FI μ a k) ∧ ∀ k, FL ν a k = FL μ a k := fun a e => by
    unfold A RA FI FL
    rw [e]
    exact ⟨rfl, rfl, fun _ => rfl, fun _ => rfl⟩
  have nFI : ∀ (ρ : mM) (a k n i : Nat), isA ρ a k n → FI ρ a i = 0 ∧ FL ρ a i = 0 ∧ RA ρ a = fun _ => none := fun ρ a k n i q => by
    unfold FI FL RA
    rw [q]
    exact ⟨rfl, rfl, rfl⟩
  have RA19 : RA ν 19 = RA μ 19 := by unfold RA; rw [hν.1, h.1]
  have A19 : A ν 19 = A μ 19 := by unfold A; rw [hν.1, h.1]
  refine ⟨⟨fun a k n q => ?_, fun a c T q => ?_, fun a c n q => ?_, fun a q => ?_⟩, ⟨hN, hC⟩, fun a ha => ?_, fun a k hk => ?_, fun a => ?_⟩
  · by_cases e19 : a = 19
    · subst e19; have z := q.symm.trans h.1; cases z
    · by_cases eX : a ∈ X
      · obtain ⟨k', n', r1, r2⟩ := row a eX
        have z := q.symm.trans r1
        cases z
        exact r2
      · have e := hF a e19 eX
        unfold isA
        rw [(cellsame a e).1, e]; exact q
  · by_cases e19 : a = 19
    · subst e19
      have z := q.symm.trans (MS_O h)
      injection z with z
      injection z with z
      injection z with z
      injection z with z1 z2
      subst z1
      rw [tm_inj z2]
      exact MS_O hν
    · by_cases eX : a ∈ X
      · obtain ⟨k', n', r1, r2⟩ := row a eX
        have z := q.symm.trans r1
        cases z
      · have e := hF a e19 eX
        unfold isO
        rw [tm_congr (cellsame a e).2.2.1 (cellsame a e).2.2.2, e]; exact q
  · by_cases e19 : a = 19
    · subst e19; have z := q.symm.trans h.1; cases z
    · by_cases eX : a ∈ X
      · obtain ⟨k', n', r1, r2⟩ := row a eX
        have z := q.symm.trans r1
        cases z
      · have e := hF a e19 eX
        unfold isR
        rw [(cellsame a e).2.1, e]; exact q
  · by_cases e19 : a = 19
    · subst e19; have z := q.symm.trans h.1; cases z
    · by_cases eX : a ∈ X
      · obtain ⟨k', n', r1, r2⟩ := row a eX
        have z := q.symm.trans r1
        cases z
      · rw [hF a e19 eX]; exact q
  · by_cases e19 : a = 19
    · subst e19; exact A19
    · exact (cellsame a (hF a e19 ha)).1
  · by_cases e19 : a = 19
    · subst e19
      exact ⟨hI k (fun q => hk (List.mem_map.mpr ⟨k, q, rfl⟩)), hL k⟩
    · by_cases eX : a ∈ X
      · obtain ⟨k', n', r1, r2⟩ := row a eX
        rw [(nFI ν a k' n' k r2).1, (nFI μ a k' n' k r1).1, (nFI ν a k' n' k r2).2.1, (nFI μ a k' n' k r1).2.1]
        exact ⟨rfl, rfl⟩
      · have e := cellsame a (hF a e19 eX)
        exact ⟨e.2.2.1 k, e.2.2.2 k⟩
  · by_cases e19 : a = 19
    · subst e19; exact RA19
    · by_cases eX : a ∈ X
      · obtain ⟨k', n', r1, r2⟩ := row a eX
        rw [(nFI ν a k' n' 0 r2).2.2, (nFI μ a k' n' 0 r1).2.2]
      · exact (cellsame a (hF a e19 eX)).2.1
