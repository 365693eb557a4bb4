/-! the class: all sentences that fit, taken in -/
def lsF (fit : Nat → Bool) : Nat → Option Nat
  | 0 => none
  | x + 1 => if fit x = true ∧ cnt fit x = 0 then some x else lsF fit x
def lkF (fit : Nat → Bool) (EV : Nat → Nat) : Nat → Option Nat
  | 0 => none
  | x + 1 => if fit x = true then (match lkF fit EV x with
    | none => some x
    | some c => if EV c < EV x then some x else some c) else lkF fit EV x
def evI (EV : Nat → Nat) : Option Nat → Int32
  | none => -1
  | some c => nI (EV c)
theorem lsF_st (fit : Nat → Bool) (x : Nat) : lsF fit (x + 1) = if fit x = true ∧ cnt fit x = 0 then some x else lsF fit x := rfl
theorem lkF_st (fit : Nat → Bool) (EV : Nat → Nat) (x : Nat) : lkF fit EV (x + 1) = if fit x = true then (match lkF fit EV x with
    | none => some x
    | some c => if EV c < EV x then some x else some c) else lkF fit EV x := rfl
theorem k24c (p b : Nat) : nI p * 24 + nI b = nI (24 * p + b) := by rw [n24, nI_times, nI_plus, Nat.mul_comm]
theorem m1_lt_nI {k : Nat} (hk : k < 2147483648) : ((-1 : Int32) < nI k) = True := eq_true (by rw [Int32.lt_iff_toInt_lt, nI_toInt hk, show (-1 : Int32).toInt = -1 by decide]; omega)
def LDs (μ : mM) (np : Nat) (BM PR KD : Nat → Int32) (fit : Nat → Bool) (N : Nat → Nat → Nat) : Prop := ∀ p, p < np → ∀ b, b < 24 → A μ 12 (24 * p + b) = nI (cnt (fun y => fit y && bt (sn PR KD p (bnn BM p) y) b) (N p b))
section ctake
variable {μ : mM} {np : Nat} {PA : Nat → Nat} {BM PR KD WD MK WH : Nat → Int32}
set_option maxHeartbeats 1000000 in
theorem C_takeLoop {x : Nat} {fit : Nat → Bool} (h : PGV μ np PA BM PR KD WD MK WH) (hA : ADs PA np) (hd : ADr μ np PA BM PR KD) (hF : FV μ) (hx : x < 3615) (hfx : fit x = true) (hL : LDs μ np BM PR KD fit (fun _ _ => x)) (v4 v6 v7 : Value) : ∃ ν, m_G 3 54 [.ref 11, .ref 2, .int (nI np), .int (nI x), v4, .int 0, v6, v7] [] μ = some (none, ν) ∧ K [12] [] μ ν ∧ LDs ν np BM PR KD fit (fun _ _ => x + 1) := by
  have h8 := h.1
  obtain ⟨ν, w, e, s, f⟩ := loop_inv (fun p ν (v : Value × Value) => m_G 3 54 [.ref 11, .ref 2, .int (nI np), .int (nI x), v4, .int (nI p), v.1, v.2] [] ν) (fun p ν => K [12] [] μ ν ∧ LDs ν np BM PR KD fit (fun q _ => if q < p then x + 1 else x)) np (fun p ν v hp P => by
    obtain ⟨s, f⟩ := P
    obtain ⟨v6, v7⟩ := v
    have hν := PGV_K h hA s (by simp) (by simp)
    have hFν := FV_K hF s
    have hdν := ADr_K hd hA s (by simp)
    obtain ⟨_, h2, h3, _⟩ := hν.2.2 p hp
    have hg := pgr hν hp
    have hs := P_sets h2 hx
    rw [hdν p hp x hx] at hs
    have go : m_G 3 54 [.ref 11, .ref 2, .int (nI np), .int (nI x), v4, .int (nI p), v6, v7] [] ν = m_G 3 74 [.ref 11, .ref 2, .int (nI np), .int (nI x), v4, .int (nI p), .int (sn PR KD p (bnn BM p) x), .int (nI 0)] [] ν := by
      rw [i3_54]
      simp (disch := first | omega | decide | with_reducible assumption) only [i3_56, i3_57, i3_60, i3_61, i3_63, i3_64, i3_67, i3_68, i3_69, i3_71, i3_72, lt_t, if_true, hg, b_v_s, b_i_s, b_n_s, b_r_s, b_r_n, b_m_s, b_c_s, b_c_v, P_fsentenceSets h2, hs]
      rfl
    by_cases z : sn PR KD p (bnn BM p) x = 0
    · refine ⟨ν, (.int 0, .int (nI 0)), ?_, s, fun q hq b hb => ?_⟩
      · try dsimp only
        rw [go, z, i3_74]
        simp (disch := first | omega | decide | with_reducible assumption) only [i3_76, i3_115, i3_118, if_true, nI_add1]
      · rw [f q hq b hb]
        dsimp only
        by_cases e : q = p
        · subst e
          rw [if_neg (Nat.lt_irrefl q), if_pos (by omega), cnt_st, z, b_0, Bool.and_false, if_neg (by decide), Nat.add_zero]
        · by_cases e2 : q < p
          · rw [if_pos e2, if_pos (by omega)]
          · rw [if_neg e2, if_neg (by omega)]
    · obtain ⟨ρ, w, e3, s3, f3⟩ := loop_inv (fun b ρ (_ : Unit) => m_G 3 74 [.ref 11, .ref 2, .int (nI np), .int (nI x), v4, .int (nI p), .int (sn PR KD p (bnn BM p) x), .int (nI b)] [] ρ) (fun b ρ => K [12] [] ν ρ ∧ LDs ρ np BM PR KD fit (fun q c => if q < p ∨ (q = p ∧ c < b) then x + 1 else x)) 24 (fun b ρ _ hb P => by
        obtain ⟨s', f'⟩ := P
        have hFρ := FV_K hFν s'
        have a12 := hFρ.2.1
        have fb := f' p hp b hb
        dsimp only at fb
        rw [if_neg (by omega)] at fb
        refine ⟨wA ρ 12 (upd (A ρ 12) (24 * p + b) (nI (cnt (fun y => fit y && bt (sn PR KD p (bnn BM p) y) b) (x + 1)))), (), ?_, s'.tr (K_wA a12 _ (by simp)), fun q hq c hc => ?_⟩
        · try dsimp only
          rw [i3_74, cnt_st, hfx, Bool.true_and]
          simp (disch := first | omega | decide | with_reducible assumption) only [i3_76, i3_79, i3_81, i3_83, i3_86, i3_87, i3_90, i3_92, i3_94, i3_95, i3_97, i3_98, i3_99, i3_100, i3_102, i3_104, i3_105, i3_106, i3_107, i3_108, i3_109, i3_112, z, if_false, n24, lt_t, if_true, gF5 hFρ, b_v_s, b_i_s, b_n_s, b_r_s, b_r_n, b_m_s, b_c_s, b_c_v, nI_times, nI_plus, Nat.mul_comm p 24, ga_A a12, fb, shr1, nI_b, pa_A a12, nI_add1]
        · rw [wA_A a12, if_pos rfl, upd_at]
          by_cases e : 24 * q + c = 24 * p + b
          · obtain ⟨rfl, rfl⟩ : q = p ∧ c = b := by omega
            dsimp only
            rw [if_pos rfl, if_pos (by omega)]
          · rw [if_neg e, f' q hq c hc]
            dsimp only
            by_cases e2 : q < p ∨ (q = p ∧ c < b)
            · rw [if_pos e2, if_pos (by omega)]
            · rw [if_neg e2, if_neg (by omega)]) ν () ⟨K.rf ν, fun q hq b hb => by
            rw [f q hq b hb]
            dsimp only
            by_cases e2 : q < p
            · rw [if_pos e2, if_pos (by omega)]
            · rw [if_neg e2, if_neg (by omega)]⟩
      refine ⟨ρ, (.int (sn PR KD p (bnn BM p) x), .int (nI 24)), ?_, s.tr s3, fun q hq b hb => ?_⟩
      · try dsimp only
        rw [go]
        refine (show _ = _ from e3).trans ?_
        try dsimp only
        rw [i3_74]
        simp (disch := first | omega | decide | with_reducible assumption) only [i3_76, i3_79, i3_81, i3_83, i3_115, i3_118, z, if_false, n24, lt_f, nI_add1]
      · rw [f3 q hq b hb]
        dsimp only
        by_cases e2 : q < p + 1
        · rw [if_pos e2, if_pos (by omega)]
        · rw [if_neg e2, if_neg (by omega)]) μ (v6, v7) ⟨K.rf μ, fun q hq b hb => by rw [hL q hq b hb]; dsimp only; rw [if_neg (by omega)]⟩
  refine ⟨ν, ?_, s, fun q hq b hb => by rw [f q hq b hb]; dsimp only; rw [if_pos hq]⟩
  refine (show _ = _ from e).trans ?_
  try dsimp only
  rw [i3_54]
  simp (disch := first | omega | decide | with_reducible assumption) only [i3_56, i3_57, i3_121, lt_f, if_false]
/-- what the class holds of the sentences below x -/
def FS (μ : mM) (np : Nat) (BM PR KD : Nat → Int32) (fit : Nat → Bool) (EV : Nat → Nat) (x : Nat) : Prop := FI μ 11 0 = nI (cnt fit x) ∧ FI μ 11 1 = cI (lsF fit x) ∧ FI μ 11 2 = cI (lkF fit EV x) ∧ FI μ 11 3 = evI EV (lkF fit EV x) ∧ LDs μ np BM PR KD fit (fun _ _ => x)
theorem LDs_K {X : List Nat} {Y : List (Nat × Nat)} {μ ν : mM} {np : Nat} {BM PR KD : Nat → Int32} {fit : Nat → Bool} {N : Nat → Nat → Nat} (h : LDs μ np BM PR KD fit N) (k : K X Y μ ν) (hX : 12 ∉ X) : LDs ν np BM PR KD fit N := fun p hp b hb => by rw [K_A k hX]; exact h p hp b hb
set_option maxHeartbeats 2000000 in
theorem C_takeIn {x : Nat} {fit : Nat → Bool} {EV : Nat → Nat} (h : PGV μ np PA BM PR KD WD MK WH) (hA : ADs PA np) (hd : ADr μ np PA BM PR KD) (hF : FV μ) (hx : x < 3615) (hfx : fit x = true) (hE : EV x = moE (cvE BM PR KD MK WH x) np) (hEl : ∀ y, EV y ≤ 8) (hS : FS μ np BM PR KD fit EV x) : ∃ ν, m_D 3 [.ref 11, .ref 2, .int (nI np), .int (nI x)] μ = some (none, ν) ∧ K [12, 13] [(11, 0), (11, 1), (11, 2), (11, 3)] μ ν ∧ FS ν np BM PR KD fit EV (x + 1) := by
  obtain ⟨S0, S1, S2, S3, S4⟩ := hS
  have hcl := cnt_le fit x
  have hEx := hEl x
  have T : ∀ k, k < 4 → TFt[k]? = some none := by decide
  -- least
  obtain ⟨ν1, e1, s1, g0, g1, g2, g3⟩ : ∃ ν1, m_D 3 [.ref 11, .ref 2, .int (nI np), .int (nI x)] μ = m_G 3 12 [.ref 11, .ref 2, .int (nI np), .int (nI x), m_d, m_d, m_d, m_d] [] ν1 ∧ K [] [(11, 1)] μ ν1 ∧ FI ν1 11 0 = nI (cnt fit x) ∧ FI ν1 11 1 = cI (lsF fit (x + 1)) ∧ FI ν1 11 2 = cI (lkF fit EV x) ∧ FI ν1 11 3 = evI EV (lkF fit EV x) := by
    by_cases c : cnt fit x = 0
    · refine ⟨wO μ 11 1 (.int (nI x)), ?_, K_wO hF.1 (T 1 (by decide)) _ (by simp), ?_, ?_, ?_, ?_⟩
      · have hp := pO hF.1 (T 1 (by decide)) (nI x)
        simp (disch := first | omega | decide | with_reducible assumption) only [D3, i3_0, i3_1, i3_4, i3_7, i3_8, i3_9, gF0 hF, S0, b_v_s, b_i_s, b_n_s, b_r_s, b_r_n, b_m_s, b_c_s, b_c_v, nI_is0, c, if_true, hp]
      · rw [wO_FIo hF.1 (T 1 (by decide)), if_neg (by decide)]; exact S0
      · rw [wO_FIo hF.1 (T 1 (by decide)), if_pos ⟨rfl, rfl⟩, lsF_st, if_pos ⟨hfx, c⟩]; rfl
      · rw [wO_FIo hF.1 (T 1 (by decide)), if_neg (by decide)]; exact S2
      · rw [wO_FIo hF.1 (T 1 (by decide)), if_neg (by decide)]; exact S3
    · refine ⟨μ, ?_, K.rf μ, S0, by rw [lsF_st, if_neg (fun q => c q.2)]; exact S1, S2, S3⟩
      simp (disch := first | omega | decide | with_reducible assumption) only [D3, i3_0, i3_1, i3_4, i3_7, i3_8, i3_9, gF0 hF, S0, b_v_s, b_i_s, b_n_s, b_r_s, b_r_n, b_m_s, b_c_s, b_c_v, nI_is0, c, if_false]
  have F1 := FV_K hF s1
  -- many, even
  have s2 : K [] [(11, 0)] ν1 (wO ν1 11 0 (.int (nI (cnt fit x + 1)))) := K_wO F1.1 (T 0 (by decide)) _ (by simp)
  have r2 : ∀ i, FI (wO ν1 11 0 (.int (nI (cnt fit x + 1)))) 11 i = if i = 0 then nI (cnt fit x + 1) else FI ν1 11 i := fun i => by
    rw [wO_FIo F1.1 (T 0 (by decide))]
    by_cases q : i = 0
    · rw [if_pos ⟨rfl, q⟩, if_pos q]
    · rw [if_neg (fun z => q z.2), if_neg q]
  have p2 := pO F1.1 (T 0 (by decide)) (nI (cnt fit x + 1))
  generalize wO ν1 11 0 (.int (nI (cnt fit x + 1))) = ν2 at *
  have F2 := FV_K F1 s2
  have t2 : K [12, 13] [(11, 0), (11, 1), (11, 2), (11, 3)] μ ν2 := (s1.mono (by simp) (by simp)).tr (s2.mono (by simp) (by simp))
  obtain ⟨ν3, e3, s3⟩ := C_evenOf (x := x) (PGV_K h hA t2 (by simp) (by simp)) hA (ADr_K hd hA t2 (by simp)) F2 hx
  rw [← hE] at e3
  have F3 := FV_K F2 s3
  have r3 : ∀ i, FI ν3 11 i = if i = 0 then nI (cnt fit x + 1) else FI ν1 11 i := fun i => by rw [K_FI s3 (by simp)]; exact r2 i
  have q3 : FI ν3 11 3 = evI EV (lkF fit EV x) := by rw [r3, if_neg (by decide)]; exact g3
  have t3 : K [12, 13] [(11, 0), (11, 1), (11, 2), (11, 3)] μ ν3 := t2.tr (s3.mono (by simp) (by simp))
  have L3 : LDs ν3 np BM PR KD fit (fun _ _ => x) := LDs_K (LDs_K (LDs_K S4 s1 (by simp)) s2 (by simp)) s3 (by simp)
  have ho2 := FV_oc F2
  have go : m_G 3 12 [.ref 11, .ref 2, .int (nI np), .int (nI x), m_d, m_d, m_d, m_d] [] ν1 = m_G 3 31 [.ref 11, .ref 2, .int (nI np), .int (nI x), .int (nI (EV x)), m_d, m_d, m_d] [] ν3 := by
    simp (disch := first | omega | decide | with_reducible assumption) only [i3_12, i3_13, i3_13I, i3_14, i3_17, i3_18, i3_19, i3_22, i3_23, i3_24, i3_25, i3_26, i3_29, gF0 F1, g0, b_v_s, b_i_s, b_n_s, b_r_s, b_r_n, b_m_s, b_c_s, b_c_v, nI_add1, p2, e3]
  -- likeliest
  obtain ⟨ν4, e4, s4, k0, k1, k2, k3⟩ : ∃ ν4, m_G 3 31 [.ref 11, .ref 2, .int (nI np), .int (nI x), .int (nI (EV x)), m_d, m_d, m_d] [] ν3 = m_G 3 54 [.ref 11, .ref 2, .int (nI np), .int (nI x), .int (nI (EV x)), .int 0, m_d, m_d] [] ν4 ∧ K [] [(11, 2), (11, 3)] ν3 ν4 ∧ FI ν4 11 0 = nI (cnt fit x + 1) ∧ FI ν4 11 1 = cI (lsF fit (x + 1)) ∧ FI ν4 11 2 = cI (lkF fit EV (x + 1)) ∧ FI ν4 11 3 = evI EV (lkF fit EV (x + 1)) := by
    have yes : evI EV (lkF fit EV x) < nI (EV x) → lkF fit EV (x + 1) = some x → ∃ ν4, m_G 3 31 [.ref 11, .ref 2, .int (nI np), .int (nI x), .int (nI (EV x)), m_d, m_d, m_d] [] ν3 = m_G 3 54 [.ref 11, .ref 2, .int (nI np), .int (nI x), .int (nI (EV x)), .int 0, m_d, m_d] [] ν4 ∧ K [] [(11, 2), (11, 3)] ν3 ν4 ∧ FI ν4 11 0 = nI (cnt fit x + 1) ∧ FI ν4 11 1 = cI (lsF fit (x + 1)) ∧ FI ν4 11 2 = cI (lkF fit EV (x + 1)) ∧ FI ν4 11 3 = evI EV (lkF fit EV (x + 1)) := by
      intro c hl
      have sa : K [] [(11, 2), (11, 3)] ν3 (wO ν3 11 3 (.int (nI (EV x)))) := K_wO F3.1 (T 3 (by decide)) _ (by simp)
      have pa := pO F3.1 (T 3 (by decide)) (nI (EV x))
      have ra := wO_FIo F3.1 (T 3 (by decide)) (nI (EV x)) 11
      generalize wO ν3 11 3 (.int (nI (EV x))) = ν4 at *
      have F4 := FV_K F3 sa
      have sb' : K [] [(11, 2), (11, 3)] ν4 (wO ν4 11 2 (.int (nI x))) := K_wO F4.1 (T 2 (by decide)) _ (by simp)
      have pb := pO F4.1 (T 2 (by decide)) (nI x)
      have rb := wO_FIo F4.1 (T 2 (by decide)) (nI x) 11
      generalize wO ν4 11 2 (.int (nI x)) = ν5 at *
      refine ⟨ν5, ?_, sa.tr sb', ?_, ?_, ?_, ?_⟩
      · simp (disch := first | omega | decide | with_reducible assumption) only [i3_31, i3_33, i3_34, i3_37, i3_40, i3_41, i3_43, i3_46, i3_47, i3_48, i3_51, i3_52, gF3 F3, q3, b_v_s, b_i_s, b_n_s, b_r_s, b_r_n, b_m_s, b_c_s, b_c_v, c, if_true, pa, pb]
      · rw [rb, if_neg (by decide), ra, if_neg (by decide), r3, if_pos rfl]
      · rw [rb, if_neg (by decide), ra, if_neg (by decide), r3, if_neg (by decide)]; exact g1
      · rw [rb, if_pos ⟨rfl, rfl⟩, hl]; rfl
      · rw [rb, if_neg (by decide), ra, if_pos ⟨rfl, rfl⟩, hl]; rfl
    cases hk : lkF fit EV x with
    | none =>
      refine yes (by rw [hk]; rw [evI, m1_lt_nI (by omega)]; trivial) (by rw [lkF_st, if_pos hfx, hk])
    | some c =>
      have hEc := hEl c
      by_cases q : EV c < EV x
      · exact yes (by rw [hk]; rw [evI, nI_ltE (by omega) (by omega)]; exact q) (by rw [lkF_st, if_pos hfx, hk]; exact if_pos q)
      · have hl : lkF fit EV (x + 1) = some c := by rw [lkF_st, if_pos hfx, hk]; exact if_neg q
        rw [hk, evI] at q3
        refine ⟨ν3, ?_, K.rf ν3, by rw [r3, if_pos rfl], by rw [r3, if_neg (by decide)]; exact g1, by rw [r3, if_neg (by decide), g2, hk, hl], by rw [q3, hl, evI]⟩
        simp (disch := first | omega | decide | with_reducible assumption) only [i3_31, i3_33, i3_34, i3_37, i3_40, i3_41, i3_43, i3_46, i3_47, i3_48, i3_51, i3_52, gF3 F3, q3, b_v_s, b_i_s, b_n_s, b_r_s, b_r_n, b_m_s, b_c_s, b_c_v, lt_f, if_false]
  have t4 : K [12, 13] [(11, 0), (11, 1), (11, 2), (11, 3)] μ ν4 := t3.tr (s4.mono (by simp) (by simp))
  obtain ⟨ν5, e5, s5, L5⟩ := C_takeLoop (x := x) (fit := fit) (PGV_K h hA t4 (by simp) (by simp)) hA (ADr_K hd hA t4 (by simp)) (FV_K F3 s4) hx hfx (LDs_K L3 s4 (by simp)) (.int (nI (EV x))) m_d m_d
  refine ⟨ν5, e1.trans (go.trans (e4.trans e5)), t4.tr (s5.mono (by simp) (by simp)), ?_, ?_, ?_, ?_, L5⟩
  · rw [K_FI s5 (by simp), k0, cnt_st, hfx, if_pos rfl]
  · rw [K_FI s5 (by simp), k1]
  · rw [K_FI s5 (by simp), k2]
  · rw [K_FI s5 (by simp), k3]
end ctake
