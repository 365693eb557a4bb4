/-! texts of pages, letter by letter: state, how many boxes, the innermost open one, kinds, words, parents -/
abbrev PS : Type := Nat × (Nat × (Option Nat × ((Nat → Int32) × ((Nat → Int32) × (Nat → Int32)))))
def kdC (c : Nat) : Bool := decide (97 ≤ c ∧ c ≤ 101)
def dgC (c : Nat) : Bool := decide (48 ≤ c ∧ c ≤ 57)
def psh (s : PS) (c : Nat) : PS := (1, s.2.1 + 1, s.2.2.1, upd s.2.2.2.1 s.2.1 (nI (c - 97)), upd s.2.2.2.2.1 s.2.1 (-1), upd s.2.2.2.2.2 s.2.1 (cI s.2.2.1))
def pgS (s : PS) (c : Nat) : Option PS :=
  if s.1 = 0 then (if kdC c = true ∧ s.2.1 < 24 then some (psh s c) else none)
  else if s.1 < 3 ∧ dgC c = true then some (s.1 + 1, s.2.1, s.2.2.1, s.2.2.2.1, upd s.2.2.2.2.1 (s.2.1 - 1) ((if s.1 = 1 then 0 else 10 * s.2.2.2.2.1 (s.2.1 - 1)) + nI (c - 48)), s.2.2.2.2.2)
  else if s.1 < 4 ∧ c = 40 then (if s.2.1 < 24 then some (0, s.2.1, some (s.2.1 - 1), s.2.2.2.1, s.2.2.2.2.1, s.2.2.2.2.2) else none)
  else match s.2.2.1 with
    | none => none
    | some k => if c = 41 then some (4, s.2.1, (if k = 0 then none else some (s.2.2.2.2.2 k).toNatClampNeg), s.2.2.2.1, s.2.2.2.2.1, s.2.2.2.2.2)
      else if kdC c = true ∧ s.2.1 < 24 then some (psh s c) else none
/-- what holds of such a state -/
def PI (s : PS) : Prop := s.1 ≤ 4 ∧ s.2.1 ≤ 24 ∧ (s.1 ≠ 0 → 0 < s.2.1) ∧ (s.1 = 0 → 0 < s.2.1 → s.2.2.1 = some (s.2.1 - 1) ∧ s.2.1 < 24) ∧ (s.2.1 = 0 → s.2.2.1 = none) ∧ (∀ k, s.2.2.1 = some k → k < s.2.1) ∧ (∀ b, b < s.2.1 → ∃ k, k < 5 ∧ s.2.2.2.1 b = nI k) ∧ (∀ b, b < s.2.1 → s.2.2.2.2.1 b = -1 ∨ ∃ w, w < 100 ∧ s.2.2.2.2.1 b = nI w) ∧ (s.1 = 1 → s.2.2.2.2.1 (s.2.1 - 1) = -1) ∧ (s.1 = 2 → ∃ w, w < 10 ∧ s.2.2.2.2.1 (s.2.1 - 1) = nI w) ∧ (0 < s.2.1 → s.2.2.2.2.2 0 = -1) ∧ ∀ b, 0 < b → b < s.2.1 → ∃ u, u < b ∧ s.2.2.2.2.2 b = nI u
theorem dg_of {c : Nat} (h : dgC c = true) : 48 ≤ c ∧ c ≤ 57 := of_decide_eq_true h
theorem kd_of {c : Nat} (h : kdC c = true) : 97 ≤ c ∧ c ≤ 101 := of_decide_eq_true h
theorem PI_psh {s : PS} {c : Nat} (h : PI s) (hc : kdC c = true) (h24 : s.2.1 < 24) (ho : 0 < s.2.1 → ∃ k, s.2.2.1 = some k) : PI (psh s c) := by
  obtain ⟨st, sz, ins, kd, wd, pr⟩ := s
  obtain ⟨h1, h2, h3, h4, h5, h6, h7, h8, h9, h10, h11, h12⟩ := h
  dsimp only at *
  have hk := kd_of hc
  unfold psh PI
  dsimp only
  refine ⟨by decide, by omega, fun _ => by omega, fun q => (by cases q), fun q => by omega, fun k q => ?_, fun b hb => ?_, fun b hb => ?_, fun _ => ?_, fun q => (by cases q), fun _ => ?_, fun b hb1 hb2 => ?_⟩
  · have := h6 k q; omega
  · rw [upd_at]
    by_cases e : b = sz
    · rw [if_pos e]; exact ⟨c - 97, by omega, rfl⟩
    · rw [if_neg e]; exact h7 b (by omega)
  · rw [upd_at]
    by_cases e : b = sz
    · rw [if_pos e]; exact Or.inl rfl
    · rw [if_neg e]; exact h8 b (by omega)
  · rw [upd_at, if_pos (by omega)]
  · rw [upd_at]
    by_cases e : 0 = sz
    · rw [if_pos e, h5 e.symm]; rfl
    · rw [if_neg e]; exact h11 (by omega)
  · rw [upd_at]
    by_cases e : b = sz
    · rw [if_pos e]
      obtain ⟨k, hk⟩ := ho (by omega)
      have := h6 k hk
      rw [hk]
      exact ⟨k, by omega, rfl⟩
    · rw [if_neg e]; exact h12 b hb1 (by omega)
theorem PI_st {s s' : PS} {c : Nat} (h : PI s) (hs : pgS s c = some s') : PI s' := by
  have hpsh := PI_psh (c := c) h
  obtain ⟨st, sz, ins, kd, wd, pr⟩ := s
  obtain ⟨h1, h2, h3, h4, h5, h6, h7, h8, h9, h10, h11, h12⟩ := id h
  unfold pgS at hs
  dsimp only at *
  split at hs
  · rename_i e
    split at hs
    · rename_i e2
      injection hs with hs
      rw [← hs]
      exact hpsh e2.1 e2.2 (fun q => ⟨_, (h4 e q).1⟩)
    · cases hs
  · rename_i e
    split at hs
    · rename_i e2
      injection hs with hs
      subst hs
      have hd := dg_of e2.2
      have hz := h3 e
      have val : ∃ w, w < 100 ∧ (st = 1 → w < 10) ∧ (if st = 1 then (0 : Int32) else 10 * wd (sz - 1)) + nI (c - 48) = nI w := by
        by_cases q : st = 1
        · rw [if_pos q]; exact ⟨c - 48, by omega, fun _ => by omega, by rw [Int32.zero_add]⟩
        · obtain ⟨w, w1, w2⟩ := h10 (by omega)
          rw [if_neg q, w2, show (10 : Int32) = nI 10 from rfl, nI_times, nI_plus]
          exact ⟨10 * w + (c - 48), by omega, fun z => absurd z q, rfl⟩
      obtain ⟨w, w1, w2, w3⟩ := val
      rw [w3]
      refine ⟨by dsimp only; omega, h2, fun _ => hz, fun q => by dsimp only at q; omega, fun q => h5 q, h6, h7, fun b hb => ?_, fun q => by dsimp only at q; omega, fun q => ?_, h11, h12⟩
      · dsimp only
        rw [upd_at]
        by_cases e3 : b = sz - 1
        · rw [if_pos e3]; exact Or.inr ⟨w, w1, rfl⟩
        · rw [if_neg e3]; exact h8 b hb
      · dsimp only at q ⊢
        rw [upd_at, if_pos rfl]
        exact ⟨w, w2 (by omega), rfl⟩
    · rename_i e2
      split at hs
      · rename_i e3
        split at hs
        · rename_i e4
          injection hs with hs
          subst hs
          have hz := h3 e
          refine ⟨by dsimp only; omega, h2, fun q => absurd rfl q, fun _ _ => ⟨rfl, e4⟩, fun q => by dsimp only at q; omega, fun k q => ?_, h7, h8, fun q => (by cases q), fun q => (by cases q), h11, h12⟩
          dsimp only at q ⊢
          injection q with q
          omega
        · cases hs
      · cases hins : ins with
        | none => rw [hins] at hs; cases hs
        | some k =>
          rw [hins] at hs
          dsimp only at hs
          split at hs
          · injection hs with hs
            subst hs
            have hz := h3 e
            have hk := h6 k hins
            refine ⟨by dsimp only; omega, h2, fun _ => hz, fun q => (by cases q), fun q => by dsimp only at q; omega, fun j q => ?_, h7, h8, fun q => (by cases q), fun q => (by cases q), h11, h12⟩
            dsimp only at q ⊢
            split at q
            · cases q
            · rename_i k0
              injection q with q
              obtain ⟨u, u1, u2⟩ := h12 k (by omega) hk
              rw [u2, nI_clamp (by omega)] at q
              omega
          · split at hs
            · rename_i e5
              injection hs with hs
              rw [← hs, ← hins]
              exact hpsh e5.1 e5.2 (fun _ => ⟨k, hins⟩)
            · cases hs
/-- letters from i on, r of them: where it ends, and with what -/
def flP (sh : Nat → Nat) : Nat → Nat → PS → Nat × Option PS
  | 0, i, s => (i, some s)
  | r + 1, i, s => match pgS s (sh i) with
    | none => (i, none)
    | some s' => flP sh r (i + 1) s'
theorem flP_st (sh : Nat → Nat) (r i : Nat) (s : PS) : flP sh (r + 1) i s = match pgS s (sh i) with
    | none => (i, none)
    | some s' => flP sh r (i + 1) s' := rfl
theorem flP_le (sh : Nat → Nat) : ∀ (r i : Nat) (s : PS), (flP sh r i s).1 ≤ i + r ∧ ((flP sh r i s).2 = none ↔ (flP sh r i s).1 < i + r) := by
  intro r
  induction r with
  | zero => intro i s; exact ⟨Nat.le_refl _, fun q => (by cases q), fun q => absurd q (Nat.lt_irrefl _)⟩
  | succ r ih =>
    intro i s
    rw [flP_st]
    cases pgS s (sh i) with
    | none => exact ⟨by dsimp only; omega, fun _ => by dsimp only; omega, fun _ => rfl⟩
    | some s' =>
      dsimp only
      have := ih (i + 1) s'
      rw [show i + (r + 1) = i + 1 + r by omega]
      exact this
def iniP : PS := (0, 0, none, fun _ => 0, fun _ => 0, fun _ => 0)
theorem PI_ini : PI iniP := ⟨by decide, by decide, fun q => absurd rfl q, fun _ q => absurd q (Nat.lt_irrefl 0), fun _ => rfl, fun k q => (by cases q), fun b q => absurd q (Nat.not_lt_zero b), fun b q => absurd q (Nat.not_lt_zero b), fun q => (by cases q), fun q => (by cases q), fun q => absurd q (Nat.lt_irrefl 0), fun b _ q => absurd q (Nat.not_lt_zero b)⟩
theorem flP_PI (sh : Nat → Nat) : ∀ (r i : Nat) (s s' : PS), PI s → (flP sh r i s).2 = some s' → PI s' := by
  intro r
  induction r with
  | zero => intro i s s' h e; injection e with e; rw [← e]; exact h
  | succ r ih =>
    intro i s s' h e
    rw [flP_st] at e
    cases hp : pgS s (sh i) with
    | none => rw [hp] at e; cases e
    | some t => rw [hp] at e; exact ih (i + 1) t s' (PI_st h hp) e
/-! texts of rules: state, how many steps, the steps as the class numbers them -/
abbrev RS : Type := Nat × (Nat × (Nat → Nat))
def updN (f : Nat → Nat) (k x : Nat) : Nat → Nat := fun j => if j = k then x else f j
def adS (s : RS) (t : Nat) : RS := (2, s.2.1 + 1, updN s.2.2 s.2.1 t)
def rgS (s : RS) (c : Nat) : Option RS :=
  if s.1 = 2 then (if c = 47 ∧ s.2.1 < 6 then some (0, s.2.1, s.2.2) else none)
  else if s.1 = 1 then (if kdC c = true then some (adS s (9 + (c - 97))) else none)
  else if c = 42 then some (1, s.2.1, s.2.2)
  else if kdC c = true then some (adS s (c - 97))
  else if dgC c = true then some (adS s (if c - 48 < 4 then 5 + (c - 48) else 11 + (c - 48)))
  else if c = 62 then some (adS s 14) else none
def RI (s : RS) : Prop := s.1 ≤ 2 ∧ s.2.1 ≤ 6 ∧ (s.1 ≠ 2 → s.2.1 < 6) ∧ ∀ j, j < s.2.1 → s.2.2 j < 21
theorem RI_ad {s : RS} {t : Nat} (h : RI s) (h2 : s.1 ≠ 2) (ht : t < 21) : RI (adS s t) := by
  obtain ⟨a, b, c, d⟩ := h
  have := c h2
  refine ⟨by unfold adS; dsimp only; omega, by unfold adS; dsimp only; omega, fun q => absurd rfl q, fun j hj => ?_⟩
  unfold adS updN at *
  dsimp only at *
  by_cases e : j = s.2.1
  · rw [if_pos e]; exact ht
  · rw [if_neg e]; exact d j (by omega)
theorem RI_st {s s' : RS} {c : Nat} (h : RI s) (hs : rgS s c = some s') : RI s' := by
  unfold rgS at hs
  split at hs
  · split at hs
    · rename_i e; injection hs with hs; subst hs; exact ⟨by dsimp only; omega, h.2.1, fun _ => e.2, h.2.2.2⟩
    · cases hs
  · rename_i e2
    split at hs
    · split at hs
      · rename_i e; have := kd_of e; injection hs with hs; subst hs; exact RI_ad h e2 (by omega)
      · cases hs
    · split at hs
      · injection hs with hs; subst hs; exact ⟨by dsimp only; omega, h.2.1, fun _ => h.2.2.1 e2, h.2.2.2⟩
      · split at hs
        · rename_i e; have := kd_of e; injection hs with hs; subst hs; exact RI_ad h e2 (by omega)
        · split at hs
          · rename_i e; have := dg_of e; injection hs with hs; subst hs; exact RI_ad h e2 (by split <;> omega)
          · split at hs
            · injection hs with hs; subst hs; exact RI_ad h e2 (by decide)
            · cases hs
def flR (sh : Nat → Nat) : Nat → Nat → RS → Nat × Option RS
  | 0, i, s => (i, some s)
  | r + 1, i, s => match rgS s (sh i) with
    | none => (i, none)
    | some s' => flR sh r (i + 1) s'
theorem flR_st (sh : Nat → Nat) (r i : Nat) (s : RS) : flR sh (r + 1) i s = match rgS s (sh i) with
    | none => (i, none)
    | some s' => flR sh r (i + 1) s' := rfl
theorem flR_le (sh : Nat → Nat) : ∀ (r i : Nat) (s : RS), (flR sh r i s).1 ≤ i + r ∧ ((flR sh r i s).2 = none ↔ (flR sh r i s).1 < i + r) := by
  intro r
  induction r with
  | zero => intro i s; exact ⟨Nat.le_refl _, fun q => (by cases q), fun q => absurd q (Nat.lt_irrefl _)⟩
  | succ r ih =>
    intro i s
    rw [flR_st]
    cases rgS s (sh i) with
    | none => exact ⟨by dsimp only; omega, fun _ => by dsimp only; omega, fun _ => rfl⟩
    | some s' =>
      dsimp only
      have := ih (i + 1) s'
      rw [show i + (r + 1) = i + 1 + r by omega]
      exact this
def iniR : RS := (0, 0, fun _ => 0)
theorem RI_ini : RI iniR := ⟨by decide, by decide, fun _ => by decide, fun j q => absurd q (Nat.not_lt_zero j)⟩
theorem flR_RI (sh : Nat → Nat) : ∀ (r i : Nat) (s s' : RS), RI s → (flR sh r i s).2 = some s' → RI s' := by
  intro r
  induction r with
  | zero => intro i s s' h e; injection e with e; rw [← e]; exact h
  | succ r ih =>
    intro i s s' h e
    rw [flR_st] at e
    cases hp : rgS s (sh i) with
    | none => rw [hp] at e; cases e
    | some t => rw [hp] at e; exact ih (i + 1) t s' (RI_st h hp) e
