/-! the state that the constructors leave -/
theorem FI_z {ξ : mM} {a c : Nat} {fs : List Value} (h : mF ξ a = some (m_ob c fs)) (hz : ∀ v ∈ fs, ∀ x, v = .int x → x = 0) (k : Nat) : FI ξ a k = 0 := by
  unfold FI
  rw [h]
  dsimp only
  cases hk : fs[k]? with
  | none => rfl
  | some v =>
    cases v with
    | int x => exact hz _ (List.mem_of_getElem? hk) x rfl
    | _ => rfl
theorem FL_z {ξ : mM} {a c : Nat} {fs : List Value} (h : mF ξ a = some (m_ob c fs)) (hz : ∀ v ∈ fs, ∀ x, v = .long x → x = 0) (k : Nat) : FL ξ a k = 0 := by
  unfold FL
  rw [h]
  dsimp only
  cases hk : fs[k]? with
  | none => rfl
  | some v =>
    cases v with
    | long x => exact hz _ (List.mem_of_getElem? hk) x rfl
    | _ => rfl
theorem isA_f {ξ : mM} {a k n : Nat} {f : Nat → Int32} (h : mF ξ a = some (m_ia k n f)) : isA ξ a k n ∧ A ξ a = f := by
  have : A ξ a = f := by unfold A; rw [h]
  exact ⟨by unfold isA; rw [this]; exact h, this⟩
def mE0 (C : Nat × (Nat → Int32)) : mM := ((0, 0), C, fun _ => none)
def mC0 (C : Nat × (Nat → Int32)) : mM := ext (mE0 C) 1076 [m_ob 8 [.ref 1, .int 0, .ref 2, .int 0, .ref 3, .int 0, .ref 4, .int 0, .ref 5, .ref 9, .ref 11, .int 0, .ref 14, .ref 15, .ref 18], m_ia 2 90 (fun _ => 0), m_ra 3 8 (fun _ => none), m_ra 6 10 (fun _ => none), m_ra 1 8 (fun _ => none), m_ob 4 [.ref 6, .ref 7, .ref 8, .int 0, .int 0, .int 0, .int 0, .int 0], m_ia 0 24 (fun _ => 0), m_ia 0 24 (fun _ => 0), m_ia 0 24 (fun _ => 0), m_ob 7 [.ref 10, .int 0, .int 0, .int 0], m_ia 0 6 (fun _ => 0), m_ob 0 [.int 0, .int 0, .int 0, .int 0, .int 0, .ref 12, .ref 13], m_ia 0 192 (fun _ => 0), m_ia 0 25 (fun _ => 0), m_ob 2 [.int 0, .int 0, .int 0, .int 0], m_ob 5 [.ref 16, .ref 17], m_ia 0 576 (fun _ => 0), m_ia 0 25 (fun _ => 0), m_ia 0 24 (fun _ => 0)]
def mM0 (C : Nat × (Nat → Int32)) : mM := ext (mC0 C) 39077 [m_ob 9 [.int 0, .ref 20, .ref 21, .ref 22, .ref 23, .ref 24, .ref 25, .ref 26, .int 0, .int 0, .int 0, .ref 27, .ref 28, .ref 29, .int 0, .ref 30, .int 0, .int 0, .ref 31, .ref 32, .ref 33, .ref 34, .ref 35, .int 0, .ref 36, .ref 37, .ref 38, .int 0, .ref 39, .ref 40, .ref 41, .ref 42, .ref 43, .ref 44, .ref 45, .ref 46, .ref 47, .long 0], m_ia 0 8 (fun _ => 0), m_ia 0 192 (fun _ => 0), m_ia 0 192 (fun _ => 0), m_ia 0 192 (fun _ => 0), m_ia 0 192 (fun _ => 0), m_ia 1 8 (fun _ => 0), m_ia 0 90 (fun _ => 0), m_ia 0 24 (fun _ => 0), m_ia 0 24 (fun _ => 0), m_ia 0 24 (fun _ => 0), m_ia 0 6 (fun _ => 0), m_ia 0 10 (fun _ => 0), m_ia 0 10 (fun _ => 0), m_ia 0 60 (fun _ => 0), m_ia 0 360 (fun _ => 0), m_ia 1 3615 (fun _ => 0), m_ia 0 3615 (fun _ => 0), m_ia 0 28920 (fun _ => 0), m_ia 0 24 (fun _ => 0), m_ia 0 8 (fun _ => 0), m_ia 0 8 (fun _ => 0), m_ia 0 8 (fun _ => 0), m_ia 0 100 (fun _ => 0), m_ia 1 100 (fun _ => 0), m_ia 0 576 (fun _ => 0), m_ia 0 625 (fun _ => 0), m_ia 0 24 (fun _ => 0), m_ia 0 24 (fun _ => 0)]
section start
variable (C : Nat × (Nat → Int32))
theorem NA0 : NA (mE0 C) := fun _ _ => rfl
theorem mC0_N : mN (mC0 C) = 19 := rfl
theorem mM0_N : mN (mM0 C) = 48 := rfl
theorem mM0_S : mS (mM0 C) = 40153 := by
  unfold mM0 mC0
  rw [ext_S, ext_S, show mS (mE0 C) = 0 from rfl]
theorem f0_0 : mF (mM0 C) 0 = some (m_ob 8 [.ref 1, .int 0, .ref 2, .int 0, .ref 3, .int 0, .ref 4, .int 0, .ref 5, .ref 9, .ref 11, .int 0, .ref 14, .ref 15, .ref 18]) := rfl
theorem f0_1 : mF (mM0 C) 1 = some (m_ia 2 90 (fun _ => 0)) := rfl
theorem f0_2 : mF (mM0 C) 2 = some (m_ra 3 8 (fun _ => none)) := rfl
theorem f0_3 : mF (mM0 C) 3 = some (m_ra 6 10 (fun _ => none)) := rfl
theorem f0_4 : mF (mM0 C) 4 = some (m_ra 1 8 (fun _ => none)) := rfl
theorem f0_5 : mF (mM0 C) 5 = some (m_ob 4 [.ref 6, .ref 7, .ref 8, .int 0, .int 0, .int 0, .int 0, .int 0]) := rfl
theorem f0_6 : mF (mM0 C) 6 = some (m_ia 0 24 (fun _ => 0)) := rfl
theorem f0_7 : mF (mM0 C) 7 = some (m_ia 0 24 (fun _ => 0)) := rfl
theorem f0_8 : mF (mM0 C) 8 = some (m_ia 0 24 (fun _ => 0)) := rfl
theorem f0_9 : mF (mM0 C) 9 = some (m_ob 7 [.ref 10, .int 0, .int 0, .int 0]) := rfl
theorem f0_10 : mF (mM0 C) 10 = some (m_ia 0 6 (fun _ => 0)) := rfl
theorem f0_11 : mF (mM0 C) 11 = some (m_ob 0 [.int 0, .int 0, .int 0, .int 0, .int 0, .ref 12, .ref 13]) := rfl
theorem f0_12 : mF (mM0 C) 12 = some (m_ia 0 192 (fun _ => 0)) := rfl
theorem f0_13 : mF (mM0 C) 13 = some (m_ia 0 25 (fun _ => 0)) := rfl
theorem f0_14 : mF (mM0 C) 14 = some (m_ob 2 [.int 0, .int 0, .int 0, .int 0]) := rfl
theorem f0_15 : mF (mM0 C) 15 = some (m_ob 5 [.ref 16, .ref 17]) := rfl
theorem f0_16 : mF (mM0 C) 16 = some (m_ia 0 576 (fun _ => 0)) := rfl
theorem f0_17 : mF (mM0 C) 17 = some (m_ia 0 25 (fun _ => 0)) := rfl
theorem f0_18 : mF (mM0 C) 18 = some (m_ia 0 24 (fun _ => 0)) := rfl
theorem f0_19 : mF (mM0 C) 19 = some (m_ob 9 [.int 0, .ref 20, .ref 21, .ref 22, .ref 23, .ref 24, .ref 25, .ref 26, .int 0, .int 0, .int 0, .ref 27, .ref 28, .ref 29, .int 0, .ref 30, .int 0, .int 0, .ref 31, .ref 32, .ref 33, .ref 34, .ref 35, .int 0, .ref 36, .ref 37, .ref 38, .int 0, .ref 39, .ref 40, .ref 41, .ref 42, .ref 43, .ref 44, .ref 45, .ref 46, .ref 47, .long 0]) := rfl
theorem f0_20 : mF (mM0 C) 20 = some (m_ia 0 8 (fun _ => 0)) := rfl
theorem f0_21 : mF (mM0 C) 21 = some (m_ia 0 192 (fun _ => 0)) := rfl
theorem f0_22 : mF (mM0 C) 22 = some (m_ia 0 192 (fun _ => 0)) := rfl
theorem f0_23 : mF (mM0 C) 23 = some (m_ia 0 192 (fun _ => 0)) := rfl
theorem f0_24 : mF (mM0 C) 24 = some (m_ia 0 192 (fun _ => 0)) := rfl
theorem f0_25 : mF (mM0 C) 25 = some (m_ia 1 8 (fun _ => 0)) := rfl
theorem f0_26 : mF (mM0 C) 26 = some (m_ia 0 90 (fun _ => 0)) := rfl
theorem f0_27 : mF (mM0 C) 27 = some (m_ia 0 24 (fun _ => 0)) := rfl
theorem f0_28 : mF (mM0 C) 28 = some (m_ia 0 24 (fun _ => 0)) := rfl
theorem f0_29 : mF (mM0 C) 29 = some (m_ia 0 24 (fun _ => 0)) := rfl
theorem f0_30 : mF (mM0 C) 30 = some (m_ia 0 6 (fun _ => 0)) := rfl
theorem f0_31 : mF (mM0 C) 31 = some (m_ia 0 10 (fun _ => 0)) := rfl
theorem f0_32 : mF (mM0 C) 32 = some (m_ia 0 10 (fun _ => 0)) := rfl
theorem f0_33 : mF (mM0 C) 33 = some (m_ia 0 60 (fun _ => 0)) := rfl
theorem f0_34 : mF (mM0 C) 34 = some (m_ia 0 360 (fun _ => 0)) := rfl
theorem f0_35 : mF (mM0 C) 35 = some (m_ia 1 3615 (fun _ => 0)) := rfl
theorem f0_36 : mF (mM0 C) 36 = some (m_ia 0 3615 (fun _ => 0)) := rfl
theorem f0_37 : mF (mM0 C) 37 = some (m_ia 0 28920 (fun _ => 0)) := rfl
theorem f0_38 : mF (mM0 C) 38 = some (m_ia 0 24 (fun _ => 0)) := rfl
theorem f0_39 : mF (mM0 C) 39 = some (m_ia 0 8 (fun _ => 0)) := rfl
theorem f0_40 : mF (mM0 C) 40 = some (m_ia 0 8 (fun _ => 0)) := rfl
theorem f0_41 : mF (mM0 C) 41 = some (m_ia 0 8 (fun _ => 0)) := rfl
theorem f0_42 : mF (mM0 C) 42 = some (m_ia 0 100 (fun _ => 0)) := rfl
theorem f0_43 : mF (mM0 C) 43 = some (m_ia 1 100 (fun _ => 0)) := rfl
theorem f0_44 : mF (mM0 C) 44 = some (m_ia 0 576 (fun _ => 0)) := rfl
theorem f0_45 : mF (mM0 C) 45 = some (m_ia 0 625 (fun _ => 0)) := rfl
theorem f0_46 : mF (mM0 C) 46 = some (m_ia 0 24 (fun _ => 0)) := rfl
theorem f0_47 : mF (mM0 C) 47 = some (m_ia 0 24 (fun _ => 0)) := rfl
theorem z0_0 (k : Nat) : FI (mM0 C) 0 k = 0 := FI_z (f0_0 C) (by intro v hv x e; subst e; simp at hv; exact hv) k
theorem o0_0 : isO (mM0 C) 0 8 TCl := by
  unfold isO TCl
  simp only [tm, tmv, z0_0 C]
  exact f0_0 C
theorem z0_5 (k : Nat) : FI (mM0 C) 5 k = 0 := FI_z (f0_5 C) (by intro v hv x e; subst e; simp at hv; exact hv) k
theorem o0_5 : isO (mM0 C) 5 4 TPr := by
  unfold isO TPr
  simp only [tm, tmv, z0_5 C]
  exact f0_5 C
theorem z0_9 (k : Nat) : FI (mM0 C) 9 k = 0 := FI_z (f0_9 C) (by intro v hv x e; subst e; simp at hv; exact hv) k
theorem o0_9 : isO (mM0 C) 9 7 TRr := by
  unfold isO TRr
  simp only [tm, tmv, z0_9 C]
  exact f0_9 C
theorem z0_11 (k : Nat) : FI (mM0 C) 11 k = 0 := FI_z (f0_11 C) (by intro v hv x e; subst e; simp at hv; exact hv) k
theorem o0_11 : isO (mM0 C) 11 0 TFt := by
  unfold isO TFt
  simp only [tm, tmv, z0_11 C]
  exact f0_11 C
theorem z0_14 (k : Nat) : FI (mM0 C) 14 k = 0 := FI_z (f0_14 C) (by intro v hv x e; subst e; simp at hv; exact hv) k
theorem o0_14 : isO (mM0 C) 14 2 TMe := by
  unfold isO TMe
  simp only [tm, tmv, z0_14 C]
  exact f0_14 C
theorem z0_15 (k : Nat) : FI (mM0 C) 15 k = 0 := FI_z (f0_15 C) (by intro v hv x e; subst e; simp at hv) k
theorem o0_15 : isO (mM0 C) 15 5 TPi := by
  unfold isO TPi
  simp only [tm, tmv, z0_15 C]
  exact f0_15 C
theorem z0_19 (k : Nat) : FI (mM0 C) 19 k = 0 := FI_z (f0_19 C) (by intro v hv x e; subst e; simp at hv; exact hv) k
theorem y0_19 (k : Nat) : FL (mM0 C) 19 k = 0 := FL_z (f0_19 C) (by intro v hv x e; subst e; simp at hv; exact hv) k
theorem o0_19 : isO (mM0 C) 19 9 TMd := by
  unfold isO TMd
  simp only [tm, tmv, z0_19 C, y0_19 C]
  exact f0_19 C
theorem INV0 : INV C (mM0 C) 0 0 0 0 (fun _ => 0) (fun _ => 0) (fun _ => 0) (fun _ => 0) := by
  refine ⟨⟨o0_19 C, (isA_f (f0_20 C)).1, (isA_f (f0_21 C)).1, (isA_f (f0_22 C)).1, (isA_f (f0_23 C)).1, (isA_f (f0_24 C)).1, (isA_f (f0_25 C)).1, (isA_f (f0_26 C)).1, (isA_f (f0_27 C)).1, (isA_f (f0_28 C)).1, (isA_f (f0_29 C)).1, (isA_f (f0_30 C)).1, (isA_f (f0_31 C)).1, (isA_f (f0_32 C)).1, (isA_f (f0_33 C)).1, (isA_f (f0_34 C)).1, (isA_f (f0_35 C)).1, (isA_f (f0_36 C)).1, (isA_f (f0_37 C)).1, (isA_f (f0_38 C)).1, (isA_f (f0_39 C)).1, (isA_f (f0_40 C)).1, (isA_f (f0_41 C)).1, (isA_f (f0_42 C)).1, (isA_f (f0_43 C)).1, (isA_f (f0_44 C)).1, (isA_f (f0_45 C)).1, (isA_f (f0_46 C)).1, (isA_f (f0_47 C)).1⟩, ⟨⟨o0_0 C, (isA_f (f0_1 C)).1⟩, ⟨o0_5 C, (isA_f (f0_6 C)).1, (isA_f (f0_7 C)).1, (isA_f (f0_8 C)).1⟩, ⟨o0_9 C, (isA_f (f0_10 C)).1⟩, ⟨o0_11 C, (isA_f (f0_12 C)).1, (isA_f (f0_13 C)).1⟩, o0_14 C, ⟨o0_15 C, (isA_f (f0_16 C)).1, (isA_f (f0_17 C)).1⟩, (isA_f (f0_18 C)).1⟩, ⟨z0_19 C 0, z0_19 C 17, z0_19 C 27, z0_0 C 3, z0_0 C 5, z0_0 C 7⟩, ⟨⟨Nat.zero_le _, z0_0 C 1, fun i hi => absurd hi (Nat.not_lt_zero i), fun i hi => absurd hi (Nat.not_lt_zero i)⟩, ⟨Nat.zero_le _, z0_19 C 8, fun i hi => absurd hi (Nat.not_lt_zero i), fun i hi => absurd hi (Nat.not_lt_zero i)⟩⟩, ⟨Nat.zero_le _, fun i hi => absurd hi (Nat.not_lt_zero i)⟩, ⟨Nat.zero_le _, isR_of (f0_2 C), fun i hi => absurd hi (Nat.not_lt_zero i)⟩, ⟨Nat.zero_le _, isR_of (f0_3 C), fun i hi => absurd hi (Nat.not_lt_zero i)⟩, ⟨Nat.zero_le _, isR_of (f0_4 C), fun i hi => absurd hi (Nat.not_lt_zero i)⟩, Or.inl (z0_0 C 11), ⟨fun i hi => absurd hi (Nat.not_lt_zero i), fun i hi => absurd hi (Nat.not_lt_zero i), fun i hi => absurd hi (Nat.not_lt_zero i), fun i hi => absurd hi (Nat.not_lt_zero i)⟩, ⟨NA_ext _ _ _, mM0_N C, by rw [mM0_S]; decide, fun i _ _ => by rw [(isA_f (f0_24 C)).2], fun p _ _ => by rw [(isA_f (f0_25 C)).2]⟩, rfl⟩
end start
set_option maxRecDepth 4000 in
theorem law_start (C : Nat × (Nat → Int32)) : m_G m_law 0 (m_pad m_law [m_scr]) [] ((0, 0), C, fun _ => none) = m_G 174 18 [.retAddr 0, .ref 0, .ref 19, .int (nI 0)] [] (mM0 C) := by
  have h1 := new_ext (NA0 C) 15 (m_ob 8 [.null, .int 0, .null, .int 0, .null, .int 0, .null, .int 0, .null, .null, .null, .int 0, .null, .null, .null])
  have h2 := C_new (μ := mE0 C) rfl
  have h3 := new_ext (NA_ext (mE0 C) 1076 [m_ob 8 [.ref 1, .int 0, .ref 2, .int 0, .ref 3, .int 0, .ref 4, .int 0, .ref 5, .ref 9, .ref 11, .int 0, .ref 14, .ref 15, .ref 18], m_ia 2 90 (fun _ => 0), m_ra 3 8 (fun _ => none), m_ra 6 10 (fun _ => none), m_ra 1 8 (fun _ => none), m_ob 4 [.ref 6, .ref 7, .ref 8, .int 0, .int 0, .int 0, .int 0, .int 0], m_ia 0 24 (fun _ => 0), m_ia 0 24 (fun _ => 0), m_ia 0 24 (fun _ => 0), m_ob 7 [.ref 10, .int 0, .int 0, .int 0], m_ia 0 6 (fun _ => 0), m_ob 0 [.int 0, .int 0, .int 0, .int 0, .int 0, .ref 12, .ref 13], m_ia 0 192 (fun _ => 0), m_ia 0 25 (fun _ => 0), m_ob 2 [.int 0, .int 0, .int 0, .int 0], m_ob 5 [.ref 16, .ref 17], m_ia 0 576 (fun _ => 0), m_ia 0 25 (fun _ => 0), m_ia 0 24 (fun _ => 0)]) 38 (m_ob 9 [.int 0, .null, .null, .null, .null, .null, .null, .null, .int 0, .int 0, .int 0, .null, .null, .null, .int 0, .null, .int 0, .int 0, .null, .null, .null, .null, .null, .int 0, .null, .null, .null, .int 0, .null, .null, .null, .null, .null, .null, .null, .null, .null, .long 0])
  have h4 := E_new (μ := mC0 C) rfl
  have n0 : mN (mE0 C) = 0 := rfl
  have n19 : mN (mC0 C) = 19 := rfl
  rw [← show mC0 C = ext (mE0 C) 1076 [m_ob 8 [.ref 1, .int 0, .ref 2, .int 0, .ref 3, .int 0, .ref 4, .int 0, .ref 5, .ref 9, .ref 11, .int 0, .ref 14, .ref 15, .ref 18], m_ia 2 90 (fun _ => 0), m_ra 3 8 (fun _ => none), m_ra 6 10 (fun _ => none), m_ra 1 8 (fun _ => none), m_ob 4 [.ref 6, .ref 7, .ref 8, .int 0, .int 0, .int 0, .int 0, .int 0], m_ia 0 24 (fun _ => 0), m_ia 0 24 (fun _ => 0), m_ia 0 24 (fun _ => 0), m_ob 7 [.ref 10, .int 0, .int 0, .int 0], m_ia 0 6 (fun _ => 0), m_ob 0 [.int 0, .int 0, .int 0, .int 0, .int 0, .ref 12, .ref 13], m_ia 0 192 (fun _ => 0), m_ia 0 25 (fun _ => 0), m_ob 2 [.int 0, .int 0, .int 0, .int 0], m_ob 5 [.ref 16, .ref 17], m_ia 0 576 (fun _ => 0), m_ia 0 25 (fun _ => 0), m_ia 0 24 (fun _ => 0)] from rfl] at h2 h3
  rw [← show mM0 C = ext (mC0 C) 39077 [m_ob 9 [.int 0, .ref 20, .ref 21, .ref 22, .ref 23, .ref 24, .ref 25, .ref 26, .int 0, .int 0, .int 0, .ref 27, .ref 28, .ref 29, .int 0, .ref 30, .int 0, .int 0, .ref 31, .ref 32, .ref 33, .ref 34, .ref 35, .int 0, .ref 36, .ref 37, .ref 38, .int 0, .ref 39, .ref 40, .ref 41, .ref 42, .ref 43, .ref 44, .ref 45, .ref 46, .ref 47, .long 0], m_ia 0 8 (fun _ => 0), m_ia 0 192 (fun _ => 0), m_ia 0 192 (fun _ => 0), m_ia 0 192 (fun _ => 0), m_ia 0 192 (fun _ => 0), m_ia 1 8 (fun _ => 0), m_ia 0 90 (fun _ => 0), m_ia 0 24 (fun _ => 0), m_ia 0 24 (fun _ => 0), m_ia 0 24 (fun _ => 0), m_ia 0 6 (fun _ => 0), m_ia 0 10 (fun _ => 0), m_ia 0 10 (fun _ => 0), m_ia 0 60 (fun _ => 0), m_ia 0 360 (fun _ => 0), m_ia 1 3615 (fun _ => 0), m_ia 0 3615 (fun _ => 0), m_ia 0 28920 (fun _ => 0), m_ia 0 24 (fun _ => 0), m_ia 0 8 (fun _ => 0), m_ia 0 8 (fun _ => 0), m_ia 0 8 (fun _ => 0), m_ia 0 100 (fun _ => 0), m_ia 1 100 (fun _ => 0), m_ia 0 576 (fun _ => 0), m_ia 0 625 (fun _ => 0), m_ia 0 24 (fun _ => 0), m_ia 0 24 (fun _ => 0)] from rfl] at h4
  rw [show m_pad m_law [m_scr] = [.retAddr 0, m_d, m_d, m_d] from rfl, show m_law = 174 from rfl, show (((0, 0), C, fun _ => none) : mM) = mE0 C from rfl]
  simp only [i174_0, i174_3, i174_4, i174_7, i174_8, i174_11, i174_12, i174_15, i174_16, i174_17, h1, n0, h2, h3, n19, h4, b_v_s, b_i_s, b_n_s, b_r_s, b_r_n, b_m_s, b_c_s, b_c_v]
  rfl
theorem mE0_wf (C : Nat × (Nat → Int32)) : m_wf (mE0 C) := ⟨fun a => ⟨fun h => (by cases h), fun h => absurd h (Nat.not_lt_zero a)⟩, fun a e h => (by cases h)⟩
set_option maxRecDepth 4000 in
theorem mM0_wf (C : Nat × (Nat → Int32)) : m_wf (mM0 C) := by
  have h1 := new_ext (NA0 C) 15 (m_ob 8 [.null, .int 0, .null, .int 0, .null, .int 0, .null, .int 0, .null, .null, .null, .int 0, .null, .null, .null])
  have h2 := C_new (μ := mE0 C) rfl
  have h3 := new_ext (NA_ext (mE0 C) 1076 [m_ob 8 [.ref 1, .int 0, .ref 2, .int 0, .ref 3, .int 0, .ref 4, .int 0, .ref 5, .ref 9, .ref 11, .int 0, .ref 14, .ref 15, .ref 18], m_ia 2 90 (fun _ => 0), m_ra 3 8 (fun _ => none), m_ra 6 10 (fun _ => none), m_ra 1 8 (fun _ => none), m_ob 4 [.ref 6, .ref 7, .ref 8, .int 0, .int 0, .int 0, .int 0, .int 0], m_ia 0 24 (fun _ => 0), m_ia 0 24 (fun _ => 0), m_ia 0 24 (fun _ => 0), m_ob 7 [.ref 10, .int 0, .int 0, .int 0], m_ia 0 6 (fun _ => 0), m_ob 0 [.int 0, .int 0, .int 0, .int 0, .int 0, .ref 12, .ref 13], m_ia 0 192 (fun _ => 0), m_ia 0 25 (fun _ => 0), m_ob 2 [.int 0, .int 0, .int 0, .int 0], m_ob 5 [.ref 16, .ref 17], m_ia 0 576 (fun _ => 0), m_ia 0 25 (fun _ => 0), m_ia 0 24 (fun _ => 0)]) 38 (m_ob 9 [.int 0, .null, .null, .null, .null, .null, .null, .null, .int 0, .int 0, .int 0, .null, .null, .null, .int 0, .null, .int 0, .int 0, .null, .null, .null, .null, .null, .int 0, .null, .null, .null, .int 0, .null, .null, .null, .null, .null, .null, .null, .null, .null, .long 0])
  have h4 := E_new (μ := mC0 C) rfl
  rw [← show mC0 C = ext (mE0 C) 1076 [m_ob 8 [.ref 1, .int 0, .ref 2, .int 0, .ref 3, .int 0, .ref 4, .int 0, .ref 5, .ref 9, .ref 11, .int 0, .ref 14, .ref 15, .ref 18], m_ia 2 90 (fun _ => 0), m_ra 3 8 (fun _ => none), m_ra 6 10 (fun _ => none), m_ra 1 8 (fun _ => none), m_ob 4 [.ref 6, .ref 7, .ref 8, .int 0, .int 0, .int 0, .int 0, .int 0], m_ia 0 24 (fun _ => 0), m_ia 0 24 (fun _ => 0), m_ia 0 24 (fun _ => 0), m_ob 7 [.ref 10, .int 0, .int 0, .int 0], m_ia 0 6 (fun _ => 0), m_ob 0 [.int 0, .int 0, .int 0, .int 0, .int 0, .ref 12, .ref 13], m_ia 0 192 (fun _ => 0), m_ia 0 25 (fun _ => 0), m_ob 2 [.int 0, .int 0, .int 0, .int 0], m_ob 5 [.ref 16, .ref 17], m_ia 0 576 (fun _ => 0), m_ia 0 25 (fun _ => 0), m_ia 0 24 (fun _ => 0)] from rfl] at h2 h3
  rw [← show mM0 C = ext (mC0 C) 39077 [m_ob 9 [.int 0, .ref 20, .ref 21, .ref 22, .ref 23, .ref 24, .ref 25, .ref 26, .int 0, .int 0, .int 0, .ref 27, .ref 28, .ref 29, .int 0, .ref 30, .int 0, .int 0, .ref 31, .ref 32, .ref 33, .ref 34, .ref 35, .int 0, .ref 36, .ref 37, .ref 38, .int 0, .ref 39, .ref 40, .ref 41, .ref 42, .ref 43, .ref 44, .ref 45, .ref 46, .ref 47, .long 0], m_ia 0 8 (fun _ => 0), m_ia 0 192 (fun _ => 0), m_ia 0 192 (fun _ => 0), m_ia 0 192 (fun _ => 0), m_ia 0 192 (fun _ => 0), m_ia 1 8 (fun _ => 0), m_ia 0 90 (fun _ => 0), m_ia 0 24 (fun _ => 0), m_ia 0 24 (fun _ => 0), m_ia 0 24 (fun _ => 0), m_ia 0 6 (fun _ => 0), m_ia 0 10 (fun _ => 0), m_ia 0 10 (fun _ => 0), m_ia 0 60 (fun _ => 0), m_ia 0 360 (fun _ => 0), m_ia 1 3615 (fun _ => 0), m_ia 0 3615 (fun _ => 0), m_ia 0 28920 (fun _ => 0), m_ia 0 24 (fun _ => 0), m_ia 0 8 (fun _ => 0), m_ia 0 8 (fun _ => 0), m_ia 0 8 (fun _ => 0), m_ia 0 100 (fun _ => 0), m_ia 1 100 (fun _ => 0), m_ia 0 576 (fun _ => 0), m_ia 0 625 (fun _ => 0), m_ia 0 24 (fun _ => 0), m_ia 0 24 (fun _ => 0)] from rfl] at h4
  have w1 := (mE0_wf C).new (k := 15) (e := m_ob 8 [.null, .int 0, .null, .int 0, .null, .int 0, .null, .int 0, .null, .null, .null, .int 0, .null, .null, .null]) (show 8 < 10 by decide)
  rw [h1] at w1
  have w2 := (m_D_oq h2 (by decide) w1).1
  have w3 := w2.new (k := 38) (e := m_ob 9 [.int 0, .null, .null, .null, .null, .null, .null, .null, .int 0, .int 0, .int 0, .null, .null, .null, .int 0, .null, .int 0, .int 0, .null, .null, .null, .null, .null, .int 0, .null, .null, .null, .int 0, .null, .null, .null, .null, .null, .null, .null, .null, .null, .long 0]) (show 9 < 10 by decide)
  rw [h3] at w3
  exact (m_D_oq h4 (by decide) w3).1
