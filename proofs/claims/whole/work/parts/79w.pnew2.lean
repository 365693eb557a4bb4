/-! a new page -/
theorem KZ_low {X : List Nat} {Y R : List (Nat × Nat)} {μ ν : mM} (h : KZ X Y R μ ν) (hX : ∀ a ∈ X, mN μ ≤ a) (hY : ∀ y ∈ Y, mN μ ≤ y.1) : KZ [] [] R μ ν := ⟨h.1, h.2.1, fun a ha _ => h.2.2.1 a ha (fun z => by have := hX a z; omega), fun a k ha _ => h.2.2.2.1 a k ha (fun z => by have : mN μ ≤ a := hY _ z; omega), h.2.2.2.2⟩
theorem pr_any {μ : mM} {a c n i v : Nat} {fs : List Value} (hR : isR μ a c n) (hv : mF μ v = some (m_ob c fs)) (hi : i < n) (hn : n ≤ 100000) : m_pr μ a (nI i) v = some (wR μ a i v) := by
  unfold m_pr
  have h1 : (nI i).toNatClampNeg = i := nI_clamp (by omega)
  have h2 : m_ix (nI i) n = true := by
    unfold m_ix
    rw [h1, Bool.and_eq_true, decide_eq_true_eq, decide_eq_true_eq]
    exact ⟨nI_pos' (by omega), hi⟩
  rw [hv, hR]
  dsimp only
  rw [if_pos ⟨rfl, h2⟩, h1, wR_eq hR]
section pnew
variable {μ : mM} {p n : Nat} {PR KD WD : Nat → Int32}
theorem pgL_at (μ : mM) (n j : Nat) : mF (pgL μ n) (mN μ + j) = ([m_ob 3 [.int (nI n), .ref (mN μ + 3), .ref (mN μ + 4), .ref (mN μ + 5), .ref (mN μ + 6), .ref (mN μ + 7), .ref (mN μ + 8), .ref (mN μ + 9), .ref (mN μ + 1), .int 0, .int 0, .int 0, .int 0, .int 0, .ref (mN μ + 2), .int 0], m_ia 0 5 (fun _ => 0), m_ia 0 3615 (fun _ => 0), m_ia 0 n (fun j => if j < 24 then A μ 6 j else 0), m_ia 0 n (fun j => if j < 24 then A μ 7 j else 0), m_ia 0 n (fun j => if j < 24 then A μ 8 j else 0), m_ia 0 n (fun _ => 0), m_ia 0 n (fun _ => 0), m_ia 0 n (fun _ => 0), m_ia 0 n (fun _ => 0)] : List mE)[j]? := ext_at μ _ _ j
set_option maxHeartbeats 4000000 in
theorem P_new (hNA : NA μ) (hp : PrV μ) (hN : 48 ≤ mN μ) (h3 : FI μ 5 3 = nI n) (h1 : 1 ≤ n) (hn : n ≤ 24) (hw : PW PR p n) (hww : WW WD p n) (hk : KW KD p n) (hA : ∀ b, b < n → A μ 6 b = KD (24 * p + b) ∧ A μ 7 b = WD (24 * p + b) ∧ A μ 8 b = PR (24 * p + b)) : ∃ ν, m_D 15 [.ref (mN μ), .ref 5] (ext μ (16) [m_ob 3 [.int 0, .null, .null, .null, .null, .null, .null, .null, .null, .int 0, .int 0, .int 0, .int 0, .int 0, .null, .int 0]]) = some (none, ν) ∧ KZ [] [] [] μ ν ∧ PV ν (mN μ) p n PR KD WD ∧ (FI ν (mN μ) 11 = 0 ∧ FI ν (mN μ) 12 = 0 ∧ FI ν (mN μ) 13 = 0 ∧ FI ν (mN μ) 15 = 0) ∧ NA ν ∧ mN ν = mN μ + 10 ∧ mS ν ≤ mS μ + 3804 := by
  have lay := P_lay hp hN h3 hn
  have at0 : mF (pgL μ n) (mN μ) = some (m_ob 3 [.int (nI n), .ref (mN μ + 3), .ref (mN μ + 4), .ref (mN μ + 5), .ref (mN μ + 6), .ref (mN μ + 7), .ref (mN μ + 8), .ref (mN μ + 9), .ref (mN μ + 1), .int 0, .int 0, .int 0, .int 0, .int 0, .ref (mN μ + 2), .int 0]) := pgL_at μ n 0
  have fi : ∀ k x, ([.int (nI n), .ref (mN μ + 3), .ref (mN μ + 4), .ref (mN μ + 5), .ref (mN μ + 6), .ref (mN μ + 7), .ref (mN μ + 8), .ref (mN μ + 9), .ref (mN μ + 1), .int 0, .int 0, .int 0, .int 0, .int 0, .ref (mN μ + 2), .int 0] : List Value)[k]? = some (.int x) → FI (pgL μ n) (mN μ) k = x := fun k x hk => by
    unfold FI
    rw [at0]
    dsimp only
    rw [hk]
  have F0 := fi 0 _ rfl
  have F9 := fi 9 _ rfl
  have F10 := fi 10 _ rfl
  have F11 := fi 11 _ rfl
  have F12 := fi 12 _ rfl
  have F13 := fi 13 _ rfl
  have F15 := fi 15 _ rfl
  have hS : PSh (pgL μ n) (mN μ) n := by
    refine ⟨?_, (isA_f (pgL_at μ n 1)).1, (isA_f (pgL_at μ n 2)).1, (isA_f (pgL_at μ n 3)).1, (isA_f (pgL_at μ n 4)).1, (isA_f (pgL_at μ n 5)).1, (isA_f (pgL_at μ n 6)).1, (isA_f (pgL_at μ n 7)).1, (isA_f (pgL_at μ n 8)).1, (isA_f (pgL_at μ n 9)).1⟩
    unfold isO TPg
    simp only [tm, tmv, F0, F9, F10, F11, F12, F13, F15]
    exact at0
  have A1 : A (pgL μ n) (mN μ + 1) = fun _ => 0 := (isA_f (pgL_at μ n 1)).2
  have A3 : A (pgL μ n) (mN μ + 3) = fun j => if j < 24 then A μ 6 j else 0 := (isA_f (pgL_at μ n 3)).2
  have A4 : A (pgL μ n) (mN μ + 4) = fun j => if j < 24 then A μ 7 j else 0 := (isA_f (pgL_at μ n 4)).2
  have A5 : A (pgL μ n) (mN μ + 5) = fun j => if j < 24 then A μ 8 j else 0 := (isA_f (pgL_at μ n 5)).2
  have A6 : A (pgL μ n) (mN μ + 6) = fun _ => 0 := (isA_f (pgL_at μ n 6)).2
  have A7 : A (pgL μ n) (mN μ + 7) = fun _ => 0 := (isA_f (pgL_at μ n 7)).2
  have A8 : A (pgL μ n) (mN μ + 8) = fun _ => 0 := (isA_f (pgL_at μ n 8)).2
  have kz0 : KZ [] [] [] μ (pgL μ n) := KZ_ext hNA _ _
  have na0 : NA (pgL μ n) := NA_ext _ _ _
  have n0 : mN (pgL μ n) = mN μ + 10 := rfl
  have s0 : mS (pgL μ n) ≤ mS μ + 3804 := by
    unfold pgL
    rw [ext_S]
    omega
  generalize pgL μ n = ν0 at *
  have I0 : PgI ν0 (mN μ) p n PR KD WD := ⟨hS, F0, fun b hb => by
    obtain ⟨q1, q2, q3⟩ := hA b hb
    rw [A3, A4, A5]
    dsimp only
    rw [if_pos (by omega), if_pos (by omega), if_pos (by omega)]
    exact ⟨q1, q2, q3⟩⟩
  obtain ⟨ν1, e1, k1, f1, f9, f6⟩ := P_loop1 I0 h1 hn hw hk (fun k _ => by rw [A1]) (fun c _ => by rw [A6])
  have I1 : PgI ν1 (mN μ) p n PR KD WD := PgI_K I0 k1 ⟨by simp, by simp, by simp⟩ (by simp)
  obtain ⟨ν2, v, e2, k2, f78⟩ := P_loop2 (W := mk (wordM WD p) n) I1 h1 hn hw (fun c _ => by rw [K_A k1 (by simp), A7]) (fun c _ => by rw [K_A k1 (by simp), A8])
  have I2 : PgI ν2 (mN μ) p n PR KD WD := PgI_K I1 k2 ⟨by simp, by simp, by simp⟩ (by simp)
  have t1 : K [] [(mN μ, 9), (mN μ, 10)] ν2 (wO ν2 (mN μ) 9 (.int (mk (wordM WD p) n))) := K_wO (k := 9) I2.1.1 rfl _ (by simp)
  have p1 := pO (k := 9) I2.1.1 rfl (mk (wordM WD p) n)
  have r1 := wO_FIo (k := 9) I2.1.1 rfl (mk (wordM WD p) n)
  generalize wO ν2 (mN μ) 9 (.int (mk (wordM WD p) n)) = ν3 at *
  have S3 := PSh_K I2.1 t1
  have t2 : K [] [(mN μ, 9), (mN μ, 10)] ν3 (wO ν3 (mN μ) 10 (.int (mk (rowsM PR p n) n))) := K_wO (k := 10) S3.1 rfl _ (by simp)
  have p2 := pO (k := 10) S3.1 rfl (mk (rowsM PR p n) n)
  have r2 := wO_FIo (k := 10) S3.1 rfl (mk (rowsM PR p n) n)
  generalize wO ν3 (mN μ) 10 (.int (mk (rowsM PR p n) n)) = ν4 at *
  have kk : K [mN μ + 1, mN μ + 6, mN μ + 9, mN μ + 7, mN μ + 8] [(mN μ, 9), (mN μ, 10)] ν0 ν4 := (((k1.mono (by simp) (by simp)).tr (k2.mono (by simp) (by simp))).tr (t1.mono (by simp) (by simp))).tr (t2.mono (by simp) (by simp))
  have t12 := t1.tr t2
  have I4 : PgI ν4 (mN μ) p n PR KD WD := PgI_K I2 t12 ⟨by simp, by simp, by simp⟩ (by simp)
  have hkN := K_mN kk
  refine ⟨ν4, ?_, ?_, ⟨I4.1, ⟨I4.2.1, ?_, ?_, fun k hk5 => ?_, fun b hb => ?_⟩, ⟨h1, hn⟩, hw, hww, hk⟩, ⟨?_, ?_, ?_, ?_⟩, K_NA kk na0, by omega, by omega⟩
  · rw [lay]
    refine e1.trans (e2.trans ?_)
    simp (disch := first | omega | decide | with_reducible assumption) only [i15_289, i15_290, i15_291, i15_294, i15_295, i15_296, i15_299, p1, p2, b_v_s, b_i_s, b_n_s, b_r_s, b_r_n, b_m_s, b_c_s, b_c_v]
  · refine KZ_low ((kz0.mono (X' := [mN μ + 1, mN μ + 6, mN μ + 9, mN μ + 7, mN μ + 8]) (Y' := [(mN μ, 9), (mN μ, 10)]) (by simp) (by simp) (by simp)).tr kk.Z) (fun a ha => ?_) (fun y hy => ?_)
    · simp at ha; omega
    · simp at hy; rcases hy with hy | hy <;> rw [hy] <;> exact Nat.le_refl _
  · rw [r2, if_neg (by omega), r1, if_pos ⟨rfl, rfl⟩]
  · rw [r2, if_pos ⟨rfl, rfl⟩]
  · rw [K_A t12 (by simp), K_A k2 (by simp)]; exact f1 k hk5
  · obtain ⟨q1, q2, q3⟩ := I4.2.2 b hb
    refine ⟨q1, q2, q3, ?_, ?_, ?_, ?_⟩
    · rw [K_A t12 (by simp), K_A k2 (by simp)]; exact f6 b hb
    · rw [K_A t12 (by simp)]; exact (f78 b hb).1
    · rw [K_A t12 (by simp)]; exact (f78 b hb).2
    · rw [K_A t12 (by simp), K_A k2 (by simp)]; exact f9 b hb
  · rw [K_FI kk (by simp)]; exact F11
  · rw [K_FI kk (by simp)]; exact F12
  · rw [K_FI kk (by simp)]; exact F13
  · rw [K_FI kk (by simp)]; exact F15
end pnew
