/-! a rule is added -/
theorem copy_ext {μ : mM} {s : Nat} {es : List mE} {a n k : Nat} (ha : a < mN μ) (h : isA μ a 0 n) (hn : n ≤ 100000) (hk : k ≤ 100000) : m_D 173 [.ref a, .int (nI k)] (ext μ s es) = some (some (.ref (mN μ + es.length)), ext μ (s + k) (es ++ [m_ia 0 k (fun j => if j < n then A μ a j else 0)])) := by
  have hc : (nI k).toNatClampNeg = k := nI_clamp (by omega)
  have hx : x_nok (nI k) = true := by
    unfold x_nok
    rw [Bool.and_eq_true, decide_eq_true_eq, decide_eq_true_eq]
    refine ⟨nI_pos' (by omega), ?_⟩
    rw [show (100000 : Int32) = nI 100000 from rfl, nI_leE (by omega) (by decide)]
    exact hk
  unfold m_D
  rw [if_pos (show 173 = m_cp from rfl)]
  unfold m_copy
  dsimp only
  rw [ext_old ha, h]
  dsimp only
  rw [if_pos ⟨rfl, hn, hx⟩, hc, ext_new, ext_N]
section addr
variable {C : Nat × (Nat → Int32)} {μ ν : mM} {np nr nl ns : Nat} {PA QA LA sh : Nat → Nat}
def okR (sh : Nat → Nat) (ns : Nat) : Bool := match (flR sh ns 0 iniR).2 with
  | none => false
  | some s => decide (s.1 = 2)
theorem C_sirR (h : CV μ) (hp : RrV μ) (hs : SHo μ ns sh) : ∃ ν, m_D 63 [.ref 0, .ref 9] μ = some (some (.int (bI (okR sh ns))), ν) ∧ K [10] [(9, 1), (9, 2), (9, 3)] μ ν ∧ ∀ s', (flR sh ns 0 iniR).2 = some s' → RCr ν s' := by
  obtain ⟨ν, e, k, f⟩ := C_readR h hp hs
  refine ⟨ν, ?_, k, f⟩
  have hoC := CV_oc h
  have hC := CV_K h k
  have hR := RrV_K hp k
  have hoR := RrV_oc hR
  have c1 : FI ν 0 1 = nI ns := by rw [K_FI k (by decide)]; exact hs.2.1
  have hle := flR_le sh ns 0 iniR
  have h90 := hs.1
  unfold okR
  cases hfl : (flR sh ns 0 iniR).2 with
  | none =>
    have : (flR sh ns 0 iniR).1 < ns := by have := hle.2.mp hfl; omega
    have ne : (nI (flR sh ns 0 iniR).1 = nI ns) = False := by rw [nI_eqE (by omega) (by omega)]; exact eq_false (by omega)
    simp (disch := first | omega | decide | with_reducible assumption) only [D63, i63_0, i63_1, i63_2, i63_5, i63_6, i63_9, i63_23, i63_24, e, gC1 hC, c1, ne, b_v_s, b_i_s, b_n_s, b_r_s, b_r_n, b_m_s, b_c_s, b_c_v, if_false, bI_f]
  | some s' =>
    have : (flR sh ns 0 iniR).1 = ns := by
      have z : ¬ (flR sh ns 0 iniR).2 = none := by rw [hfl]; intro q; cases q
      have z2 : ¬ (flR sh ns 0 iniR).1 < 0 + ns := fun q => z (hle.2.mpr q)
      omega
    obtain ⟨r1, r2, r3, r4⟩ := f s' hfl
    have ea : m_D 53 [.ref 9] ν = some (some (.int (bI (decide (s'.1 = 2)))), ν) := by
      have ha := bI_and (decide (s'.1 = 2))
      simp (disch := first | omega | decide | with_reducible assumption) only [D53, i53_0, i53_1, i53_4, gRr2 hR, r2, b_v_s, b_i_s, b_n_s, b_r_s, b_r_n, b_m_s, b_c_s, b_c_v]
    rw [this] at e
    dsimp only
    cases hd : decide (s'.1 = 2) with
    | false =>
      rw [hd] at ea
      simp (disch := first | omega | decide | with_reducible assumption) only [D63, i63_0, i63_1, i63_2, i63_5, i63_6, i63_9, i63_12, i63_13_R, i63_16, i63_19, i63_20, i63_23, i63_24, e, gC1 hC, c1, ea, bI_0, b_v_s, b_i_s, b_n_s, b_r_s, b_r_n, b_m_s, b_c_s, b_c_v, if_true, bI_f]
    | true =>
      rw [hd] at ea
      simp (disch := first | omega | decide | with_reducible assumption) only [D63, i63_0, i63_1, i63_2, i63_5, i63_6, i63_9, i63_12, i63_13_R, i63_16, i63_19, i63_20, i63_23, i63_24, e, gC1 hC, c1, ea, bI_0, Bool.true_eq_false, b_v_s, b_i_s, b_n_s, b_r_s, b_r_n, b_m_s, b_c_s, b_c_v, if_true, if_false, bI_t, ne10]
theorem C_ruleNew {k q : Nat} (hp : RrV μ) (hN : 48 ≤ mN μ) (h1 : FI μ 9 1 = nI k) (hk : k ≤ 6) : m_D 47 [.ref (mN μ), .int (nI q), .ref 9] (ext μ 2 [m_ob 6 [.int 0, .null]]) = some (none, ext μ (2 + k) [m_ob 6 [.int (nI q), .ref (mN μ + 1)], m_ia 0 k (fun j => if j < 6 then A μ 10 j else 0)]) := by
  have p1 : m_pf (ext μ 2 [m_ob 6 [.int 0, .null]]) (mN μ) 6 0 .int (.int (nI q)) = some (ext μ 2 [m_ob 6 [.int (nI q), .null]]) := pf_ext0 (fs := [.int 0, .null]) rfl (Nat.le_of_ble_eq_true rfl) rfl rfl
  have g0 : m_gf (ext μ 2 [m_ob 6 [.int (nI q), .null]]) 9 7 0 = some (.ref 10) := by rw [gf_old (by omega)]; exact gRr0 hp
  have g1 : m_gf (ext μ 2 [m_ob 6 [.int (nI q), .null]]) 9 7 1 = some (.int (nI k)) := by rw [gf_old (by omega), ← h1]; exact gRr1 hp
  have c := copy_ext (s := 2) (es := [m_ob 6 [.int (nI q), .null]]) (k := k) (show 10 < mN μ by omega) (RrV_10 hp) (by decide) (by omega)
  have p2 : m_pf (ext μ (2 + k) ([m_ob 6 [.int (nI q), .null]] ++ [m_ia 0 k (fun j => if j < 6 then A μ 10 j else 0)])) (mN μ) 6 1 (.array .int) (.ref (mN μ + [m_ob 6 [.int (nI q), .null]].length)) = some (ext μ (2 + k) [m_ob 6 [.int (nI q), .ref (mN μ + 1)], m_ia 0 k (fun j => if j < 6 then A μ 10 j else 0)]) := pf_ext0 (fs := [.int (nI q), .null]) rfl (Nat.le_of_ble_eq_true rfl) rfl rfl
  simp only [D47, i47_0, i47_1, i47_4, i47_5, i47_6, i47_9, i47_10, i47_11, i47_14, i47_15, i47_18, i47_21, i47_24, p1, g0, g1, c, p2, b_v_s, b_i_s, b_n_s, b_r_s, b_r_n, b_m_s, b_c_s, b_c_v]
end addr
section addr2
variable {C : Nat × (Nat → Int32)}
theorem C_isSort (μ : mM) (y : Int32) : m_D 66 [.int y] μ = some (some (.int (bI (inR y 6))), μ) := by
  rw [inR_b (by decide)]
  by_cases c1 : y < 0 <;> by_cases c2 : (5 : Int32) < y
  · simp (disch := first | omega | decide) only [D66, i66_0, i66_1, i66_4, i66_5, i66_6, i66_9, i66_10, i66_13, i66_14, c1, if_true, not_true, decide_false, Bool.false_and, bI_f]
  · simp (disch := first | omega | decide) only [D66, i66_0, i66_1, i66_4, i66_5, i66_6, i66_9, i66_10, i66_13, i66_14, c1, if_true, not_true, decide_false, Bool.false_and, bI_f]
  · have c3 : ¬ y < nI 6 := by rw [Int32.lt_iff_toInt_lt] at *; rw [nI_toInt (by decide)]; have : (5 : Int32).toInt = 5 := by decide
                               omega
    simp (disch := first | omega | decide) only [D66, i66_0, i66_1, i66_4, i66_5, i66_6, i66_9, i66_10, i66_13, i66_14, c1, c2, c3, if_true, if_false, decide_false, Bool.and_false, bI_f]
  · have c3 : y < nI 6 := by rw [Int32.lt_iff_toInt_lt] at *; rw [nI_toInt (by decide)]; have : (5 : Int32).toInt = 5 := by decide
                             omega
    simp (disch := first | omega | decide) only [D66, i66_0, i66_1, i66_4, i66_5, i66_6, i66_9, i66_10, i66_13, i66_14, c1, c2, c3, if_true, if_false, not_false_eq_true, decide_true, Bool.and_self, bI_t]
theorem RV_new {fs : mM} {N rr k q : Nat} {f RT : Nat → Int32} (h : mF fs N = some (m_ob 6 [.int (nI q), .ref (N + 1)])) (h1 : mF fs (N + 1) = some (m_ia 0 k f)) (hq : q ≤ 5) (hk : k ≤ 6) (hf : ∀ j, j < k → ∃ t, t < 21 ∧ f j = nI t ∧ asC t = stp RT rr j) : RV fs N rr k q RT := by
  have f0 : FI fs N 0 = nI q := by
    unfold FI
    rw [h]
    rfl
  have a1 : A fs (N + 1) = f := by unfold A; rw [h1]
  refine ⟨?_, ?_, f0, hq, hk, by rw [a1]; exact hf⟩
  · unfold isO TRu
    rw [tm, tm, tm, tmv, tmv, f0]
    exact h
  · unfold isA
    rw [a1]; exact h1
/-- the model takes the read steps over -/
theorem E_ruleLoop {μ : mM} {nr k q : Nat} (h : MS μ) (h17 : FI μ 19 17 = nI nr) (h16 : FI μ 19 16 = nI k) (hr : nr < 10) (hk : k ≤ 6) : ∃ ν, m_G 116 75 [.ref 19, .int (nI q), .int (nI 0)] [] μ = m_G 116 109 [.ref 19, .int (nI q), .int (nI k)] [] ν ∧ K [33] [] μ ν ∧ ∀ i, A ν 33 i = if 6 * nr ≤ i ∧ i < 6 * nr + k then A μ 30 (i - 6 * nr) else A μ 33 i := by
  obtain ⟨ν, w, e, s, f⟩ := loop_inv (fun j ν (_ : Unit) => m_G 116 75 [.ref 19, .int (nI q), .int (nI j)] [] ν) (fun j ν => K [33] [] μ ν ∧ ∀ i, A ν 33 i = if 6 * nr ≤ i ∧ i < 6 * nr + j then A μ 30 (i - 6 * nr) else A μ 33 i) k (fun j ν _ hj P => by
    obtain ⟨s, f⟩ := P
    have hM := MS_K h s
    have g17 : FI ν 19 17 = nI nr := by rw [K_FI s (by simp)]; exact h17
    have g16 : FI ν 19 16 = nI k := by rw [K_FI s (by simp)]; exact h16
    refine ⟨wA ν 33 (upd (A ν 33) (6 * nr + j) (A ν 30 j)), (), ?_, s.tr (K_wA (aM33 hM) _ (by simp)), fun i => ?_⟩
    · try dsimp only
      rw [i116_75]
      simp (disch := first | omega | decide | with_reducible assumption) only [i116_76, i116_77, i116_80, i116_83, i116_84, i116_87, i116_89, i116_90, i116_93, i116_94, i116_95, i116_96, i116_97, i116_100, i116_101, i116_102, i116_103, i116_106, gM16 hM, g16, lt_t, gM20 hM, gM17 hM, g17, k6, gM15 hM, ga_A (aM30 hM), pa_A (aM33 hM), b_v_s, b_i_s, b_n_s, b_r_s, b_r_n, b_m_s, b_c_s, b_c_v, if_true, nI_add1]
    · rw [wA_A (aM33 hM), if_pos rfl, upd_at, f, K_A s (by simp)]
      by_cases z : i = 6 * nr + j
      · rw [if_pos z, if_pos (by omega), z, show 6 * nr + j - 6 * nr = j by omega]
      · rw [if_neg z]
        by_cases y : 6 * nr ≤ i ∧ i < 6 * nr + j
        · rw [if_pos y, if_pos (by omega)]
        · rw [if_neg y, if_neg (by omega)]) μ () ⟨K.rf μ, fun i => by rw [if_neg (by omega)]⟩
  refine ⟨ν, ?_, s, f⟩
  refine (show _ = _ from e).trans ?_
  try dsimp only
  have hM := MS_K h s
  have g16 : FI ν 19 16 = nI k := by rw [K_FI s (by simp)]; exact h16
  rw [i116_75]
  simp (disch := first | omega | decide | with_reducible assumption) only [i116_76, i116_77, i116_80, gM16 hM, g16, lt_f, b_v_s, b_i_s, b_n_s, b_r_s, b_r_n, b_m_s, b_c_s, b_c_v, if_false]
set_option maxHeartbeats 4000000 in
theorem call_rule (x : Int32) : CallOK C 65 116 [.int x] := by
  rintro μ ⟨np, nr, nl, ns, PA, QA, LA, sh, I⟩
  have hC := I_C I
  have hoC := CV_oc hC
  have hM := I_M I
  have hoM := oM_oc hM
  have hnl := I_nl I
  have hnp := I_np I
  have hnr := I_nr I
  have i1 : ∀ ν : mM, m_D 102 [.long x.toInt64, .long 0, .long 5] ν = some (some (.int (bI (inR x 6))), ν) := fun ν => in_R (k := 5) (by decide)
  have s1 := C_isSort μ x
  cases hx : inR x 6 with
  | false =>
    rw [hx] at i1 s1
    refine ⟨(-102), μ, μ, ?_, ?_, I_ok I⟩
    · simp (disch := first | omega | decide | with_reducible assumption) only [D65, i65_0, i65_1, i65_4, i65_7, i65_9, s1, bI_0, b_v_s, b_i_s, b_n_s, b_r_s, b_r_n, b_m_s, b_c_s, b_c_v, if_true]
    · simp (disch := first | omega | decide | with_reducible assumption) only [D116, i116_0, i116_1, i116_2, i116_3, i116_6, i116_9, i116_12, i116_14, i1 μ, bI_0, b_v_s, b_i_s, b_n_s, b_r_s, b_r_n, b_m_s, b_c_s, b_c_v, if_true]
  | true =>
    rw [hx] at i1 s1
    obtain ⟨q, hq, rfl⟩ := inR_nI hx
    obtain ⟨ν1, e1, k1, f1⟩ := C_sirR hC I.2.1.2.2.1 I.2.2.2.1.1
    have J := INV_K I k1 (by decide) (by decide)
    have hC1 := I_C J
    have hM1 := I_M J
    have hoC1 := CV_oc hC1
    have hoM1 := oM_oc hM1
    have hle := flR_le sh ns 0 iniR
    have h90 := J.2.2.2.1.1.1
    have goC : m_D 65 [.ref 0, .int (nI q)] μ = m_G 65 18 [.ref 0, .int (nI q)] [.int (bI (okR sh ns))] ν1 := by
      simp (disch := first | omega | decide | with_reducible assumption) only [D65, i65_0, i65_1, i65_4, i65_7, i65_9, i65_10, i65_11, i65_12, i65_15, s1, bI_0, Bool.true_eq_false, gC9 hC, e1, b_v_s, b_i_s, b_n_s, b_r_s, b_r_n, b_m_s, b_c_s, b_c_v, if_false]
    cases hok : okR sh ns with
    | false =>
      rw [hok] at goC
      obtain ⟨ξ1, e2, k2, f2⟩ := E_faultR hM1 J.2.2.2.1.2
      have hM2 := MS_K hM1 k2
      have g8 : FI ξ1 19 8 = nI ns := by rw [K_FI k2 (by decide)]; exact J.2.2.2.1.2.2.1
      refine ⟨(-103), ν1, ξ1, ?_, ?_, I_ok (INV_K J k2 (by decide) (by decide))⟩
      · rw [goC]
        simp (disch := first | omega | decide | with_reducible assumption) only [i65_18, i65_21, i65_23, bI_0, if_true]
      · unfold okR at hok
        cases hfl : (flR sh ns 0 iniR).2 with
        | none =>
          have : (flR sh ns 0 iniR).1 < ns := by have := hle.2.mp hfl; omega
          simp (disch := first | omega | decide | with_reducible assumption) only [D116, i116_0, i116_1, i116_2, i116_3, i116_6, i116_9, i116_12, i116_14, i116_15, i116_16, i116_17, i116_20, i116_21, i116_24, i116_27, i116_28, i116_31, i116_32, i116_35, i116_37, i1 ν1, bI_0, Bool.true_eq_false, e2, gM8 hM2, g8, lt_t, b_v_s, b_i_s, b_n_s, b_r_s, b_r_n, b_m_s, b_c_s, b_c_v, if_true, if_false]
        | some s' =>
          have h1 : (flR sh ns 0 iniR).1 = ns := by
            have z : ¬ (flR sh ns 0 iniR).2 = none := by rw [hfl]; intro q; cases q
            have z2 : ¬ (flR sh ns 0 iniR).1 < 0 + ns := fun q => z (hle.2.mpr q)
            omega
          rw [hfl] at hok
          dsimp only at hok
          have n2' := of_decide_eq_false hok
          have hr := f2 s' hfl
          have hri := flR_RI sh ns 0 iniR s' RI_ini hfl
          have h21 := hri.1
          rw [h1] at e2
          have ne : (nI s'.1 = (2 : Int32)) = False := by rw [n2, nI_eqE (by omega) (by decide)]; exact eq_false n2'
          simp (disch := first | omega | decide | with_reducible assumption) only [D116, i116_0, i116_1, i116_2, i116_3, i116_6, i116_9, i116_12, i116_14, i116_15, i116_16, i116_17, i116_20, i116_21, i116_24, i116_27, i116_28, i116_31, i116_32, i116_35, i116_37, i1 ν1, bI_0, Bool.true_eq_false, e2, gM8 hM2, g8, lt_f, gM9 hM2, hr.1, ne, b_v_s, b_i_s, b_n_s, b_r_s, b_r_n, b_m_s, b_c_s, b_c_v, if_true, if_false]
    | true =>
      rw [hok] at goC
      obtain ⟨s', hfl, hs2⟩ : ∃ s', (flR sh ns 0 iniR).2 = some s' ∧ s'.1 = 2 := by
        unfold okR at hok
        cases hfl : (flR sh ns 0 iniR).2 with
        | none => rw [hfl] at hok; cases hok
        | some s' => rw [hfl] at hok; exact ⟨s', rfl, of_decide_eq_true hok⟩
      have h1 : (flR sh ns 0 iniR).1 = ns := by
        have z : ¬ (flR sh ns 0 iniR).2 = none := by rw [hfl]; intro q; cases q
        have z2 : ¬ (flR sh ns 0 iniR).1 < 0 + ns := fun q => z (hle.2.mpr q)
        omega
      have hri := flR_RI sh ns 0 iniR s' RI_ini hfl
      have c5 : FI ν1 0 5 = nI nr := J.2.2.1.2.2.2.2.1
      have goM : ∀ ν ξ : mM, m_oc ν 19 = some 9 → MS ξ → m_D 113 [.ref 19, .int 1] ν = some (some (.int (nI (flR sh ns 0 iniR).1)), ξ) → FI ξ 19 8 = nI ns → RMr ξ s' → m_D 116 [.ref 19, .int (nI q)] ν = m_G 116 38 [.ref 19, .int (nI q), .retAddr 1] [] ξ := fun ν ξ ho hM2 e2 g8 hr => by
        have e9 := hr.1
        rw [hs2] at e9
        rw [h1] at e2
        simp (disch := first | omega | decide | with_reducible assumption) only [D116, i116_0, i116_1, i116_2, i116_3, i116_6, i116_9, i116_12, i116_14, i116_15, i116_16, i116_17, i116_20, i116_21, i116_24, i116_27, i116_28, i116_31, i116_32, i116_35, i116_37, i1 ν, bI_0, Bool.true_eq_false, e2, gM8 hM2, g8, lt_f, gM9 hM2, e9, n2, b_v_s, b_i_s, b_n_s, b_r_s, b_r_n, b_m_s, b_c_s, b_c_v, if_true, if_false]
      by_cases hfull : nr = 10
      · subst hfull
        obtain ⟨ξ1, e2, k2, f2⟩ := E_faultR hM1 J.2.2.2.1.2
        have hM2 := MS_K hM1 k2
        have g8 : FI ξ1 19 8 = nI ns := by rw [K_FI k2 (by decide)]; exact J.2.2.2.1.2.2.1
        have g17 : FI ξ1 19 17 = nI 10 := by rw [K_FI k2 (by decide)]; exact J.2.2.1.2.1
        refine ⟨(-104), ν1, ξ1, ?_, ?_, I_ok (INV_K J k2 (by decide) (by decide))⟩
        · rw [goC]
          simp (disch := first | omega | decide | with_reducible assumption) only [i65_18, i65_21, i65_23, i65_24, i65_25, i65_28, i65_30, i65_33, i65_35, bI_0, Bool.true_eq_false, gC5 hC1, c5, n10, lt_f, b_v_s, b_i_s, b_n_s, b_r_s, b_r_n, b_m_s, b_c_s, b_c_v, if_false]
        · rw [goM ν1 ξ1 hoM1 hM2 e2 g8 (f2 s' hfl)]
          simp (disch := first | omega | decide | with_reducible assumption) only [i116_38, i116_39, i116_42, i116_44, i116_47, i116_49, gM17 hM2, g17, n10, b_v_s, b_i_s, b_n_s, b_r_s, b_r_n, b_m_s, b_c_s, b_c_v, if_true]
      · have hl8 : nr < 10 := by omega
        have hNA := I_NA J
        have hmN := I_mN J
        have hRl := J.2.2.2.2.2.2.1
        have hR4 := hRl.2.1
        have hk6 := hri.2.1
        obtain ⟨r1, r2, r3, r4⟩ := f1 s' hfl
        have pr := pr_ext (s := 2 + s'.2.1) (es := [m_ob 6 [.int (nI q), .ref (mN ν1 + 1)], m_ia 0 s'.2.1 (fun j => if j < 6 then A ν1 10 j else 0)]) hR4 (by omega) rfl hl8 (by decide)
        have hnw := new_ext hNA 2 (m_ob 6 [.int 0, .null])
        have g9' : m_gf (ext ν1 2 [m_ob 6 [.int 0, .null]]) 0 8 9 = some (.ref 9) := by rw [gf_old (by omega)]; exact gC9 hC1
        have hcn := C_ruleNew (q := q) J.2.1.2.2.1 (by omega) r1 hk6
        have hNw := (wR_N hR4 nr (mN ν1)).1
        have hSw := (wR_N hR4 nr (mN ν1)).2
        have kz1 : KZ [] [] [(3, nr)] ν1 (wR ν1 3 nr (mN ν1)) := KZ_wR hR4 nr (mN ν1) (by simp)
        have kz2 : KZ [] [] [(3, nr)] (wR ν1 3 nr (mN ν1)) (ext (wR ν1 3 nr (mN ν1)) (2 + s'.2.1) [m_ob 6 [.int (nI q), .ref (mN ν1 + 1)], m_ia 0 s'.2.1 (fun j => if j < 6 then A ν1 10 j else 0)]) := KZ_ext (wR_NA hR4 nr (mN ν1) hNA) _ _
        have hF : mF (ext (wR ν1 3 nr (mN ν1)) (2 + s'.2.1) [m_ob 6 [.int (nI q), .ref (mN ν1 + 1)], m_ia 0 s'.2.1 (fun j => if j < 6 then A ν1 10 j else 0)]) (mN ν1) = some (m_ob 6 [.int (nI q), .ref (mN ν1 + 1)]) := by rw [ext_F, hNw, if_neg (by omega), Nat.sub_self]; rfl
        have hF1 : mF (ext (wR ν1 3 nr (mN ν1)) (2 + s'.2.1) [m_ob 6 [.int (nI q), .ref (mN ν1 + 1)], m_ia 0 s'.2.1 (fun j => if j < 6 then A ν1 10 j else 0)]) (mN ν1 + 1) = some (m_ia 0 s'.2.1 (fun j => if j < 6 then A ν1 10 j else 0)) := by rw [ext_F, hNw, if_neg (by omega), show mN ν1 + 1 - mN ν1 = 1 by omega]; rfl
        have hNx : mN (ext (wR ν1 3 nr (mN ν1)) (2 + s'.2.1) [m_ob 6 [.int (nI q), .ref (mN ν1 + 1)], m_ia 0 s'.2.1 (fun j => if j < 6 then A ν1 10 j else 0)]) = mN ν1 + 2 := by rw [ext_N, hNw]; rfl
        have hSx : mS (ext (wR ν1 3 nr (mN ν1)) (2 + s'.2.1) [m_ob 6 [.int (nI q), .ref (mN ν1 + 1)], m_ia 0 s'.2.1 (fun j => if j < 6 then A ν1 10 j else 0)]) = mS ν1 + (2 + s'.2.1) := by rw [ext_S, hSw]
        have hNAx : NA (ext (wR ν1 3 nr (mN ν1)) (2 + s'.2.1) [m_ob 6 [.int (nI q), .ref (mN ν1 + 1)], m_ia 0 s'.2.1 (fun j => if j < 6 then A ν1 10 j else 0)]) := NA_ext _ _ _
        have hRAx : RA (ext (wR ν1 3 nr (mN ν1)) (2 + s'.2.1) [m_ob 6 [.int (nI q), .ref (mN ν1 + 1)], m_ia 0 s'.2.1 (fun j => if j < 6 then A ν1 10 j else 0)]) 3 nr = some (mN ν1) := by
          rw [RA_F (ext_old (by rw [hNw]; omega)), wR_RA hR4, if_pos ⟨rfl, rfl⟩]
        generalize ext (wR ν1 3 nr (mN ν1)) (2 + s'.2.1) [m_ob 6 [.int (nI q), .ref (mN ν1 + 1)], m_ia 0 s'.2.1 (fun j => if j < 6 then A ν1 10 j else 0)] = ξ at *
        have kz := kz1.tr kz2
        have S1 := ShC_Z J.2.1 kz
        have hCx := S1.1
        have c5' : FI ξ 0 5 = nI nr := (Z_FI kz (by omega) (by simp)).trans c5
        have hoCx := CV_oc hCx
        have cs1 : K [] [(0, 5)] ξ (wO ξ 0 5 (.int (nI (nr + 1)))) := K_wO (k := 5) (CV_o hCx) rfl _ (by simp)
        have cp1 := pO (k := 5) (CV_o hCx) rfl (nI (nr + 1))
        have cr1 := wO_FIo (k := 5) (CV_o hCx) rfl (nI (nr + 1))
        have cu1 := wO_A (CV_o hCx) 5 (.int (nI (nr + 1)))
        generalize wO ξ 0 5 (.int (nI (nr + 1))) = cm1 at cs1 cp1 cr1 cu1
        have cV1 := CV_K hCx cs1
        have cs2 : K [] [(0, 1)] cm1 (wO cm1 0 1 (.int (0))) := K_wO (k := 1) (CV_o cV1) rfl _ (by simp)
        have cp2 := pO (k := 1) (CV_o cV1) rfl (0)
        have cr2 := wO_FIo (k := 1) (CV_o cV1) rfl (0)
        have cu2 := wO_A (CV_o cV1) 1 (.int (0))
        generalize wO cm1 0 1 (.int (0)) = cm2 at cs2 cp2 cr2 cu2
        have cV2 := CV_K cV1 cs2
        have c5e : FI cm2 0 5 = nI (nr + 1) := by rw [cr2, if_neg (by decide), cr1, if_pos ⟨rfl, rfl⟩]
        have kc : K [] [(0, 5), (0, 1)] ξ cm2 := (cs1.mono (by simp) (by simp)).tr (cs2.mono (by simp) (by simp))
        have hMc : MS cm2 := MS_K (MS_Z hM1 kz) kc
        have hoMc := oM_oc hMc
        have shm : SHm cm2 ns sh := by
          obtain ⟨o1, o2, o3, o4⟩ := J.2.2.2.1.2
          exact ⟨o1, by rw [K_FI kc (by simp), Z_FI kz (by omega) (by simp)]; exact o2, by rw [K_A kc (by simp), Z_A kz (by omega) (by simp)]; exact o3, o4⟩
        obtain ⟨ξ1, e2, k2, f2⟩ := E_faultR hMc shm
        have hM2 := MS_K hMc k2
        obtain ⟨t1, t2, t3⟩ := f2 s' hfl
        have g8 : FI ξ1 19 8 = nI ns := by rw [K_FI k2 (by decide)]; exact shm.2.1
        have g17 : FI ξ1 19 17 = nI nr := by rw [K_FI k2 (by decide), K_FI kc (by simp), Z_FI kz (by omega) (by simp)]; exact J.2.2.1.2.1
        have hoM2 := oM_oc hM2
        have ds1 : K [31] [] ξ1 (wA ξ1 31 (upd (A ξ1 31) (nr) (nI q))) := K_wA (aM31 hM2) _ (by simp)
        have dp1 := pa_A (x := nI q) (k := nr) (aM31 hM2) hl8 (by decide)
        have dr1 := wA_FI (aM31 hM2) (upd (A ξ1 31) (nr) (nI q))
        have du1 := wA_A (aM31 hM2) (upd (A ξ1 31) (nr) (nI q))
        generalize wA ξ1 31 (upd (A ξ1 31) (nr) (nI q)) = dm1 at ds1 dp1 dr1 du1
        have dV1 := MS_K hM2 ds1
        have ds2 : K [32] [] dm1 (wA dm1 32 (upd (A dm1 32) (nr) (nI s'.2.1))) := K_wA (aM32 dV1) _ (by simp)
        have dp2 := pa_A (x := nI s'.2.1) (k := nr) (aM32 dV1) hl8 (by decide)
        have dr2 := wA_FI (aM32 dV1) (upd (A dm1 32) (nr) (nI s'.2.1))
        have du2 := wA_A (aM32 dV1) (upd (A dm1 32) (nr) (nI s'.2.1))
        generalize wA dm1 32 (upd (A dm1 32) (nr) (nI s'.2.1)) = dm2 at ds2 dp2 dr2 du2
        have dV2 := MS_K dV1 ds2
        have q1 : FI dm1 19 17 = nI nr := by rw [dr1]; exact g17
        have q2 : FI dm2 19 17 = nI nr := by rw [dr2]; exact q1
        have p1 : FI dm1 19 16 = nI s'.2.1 := by rw [dr1]; exact t2
        have p2 : FI dm2 19 16 = nI s'.2.1 := by rw [dr2]; exact p1
        obtain ⟨κ1, el, kl, fl⟩ := E_ruleLoop (q := q) dV2 q2 p2 hl8 hk6
        have hMl := MS_K dV2 kl
        have l17 : FI κ1 19 17 = nI nr := by rw [K_FI kl (by simp)]; exact q2
        have es1 : K [] [(19, 17)] κ1 (wO κ1 19 17 (.int (nI (nr + 1)))) := K_wO (k := 17) (MS_O hMl) rfl _ (by simp)
        have ep1 := pO (k := 17) (MS_O hMl) rfl (nI (nr + 1))
        have er1 := wO_FIo (k := 17) (MS_O hMl) rfl (nI (nr + 1))
        have eu1 := wO_A (MS_O hMl) 17 (.int (nI (nr + 1)))
        generalize wO κ1 19 17 (.int (nI (nr + 1))) = em1 at es1 ep1 er1 eu1
        have eV1 := MS_K hMl es1
        have es2 : K [] [(19, 8)] em1 (wO em1 19 8 (.int (0))) := K_wO (k := 8) (MS_O eV1) rfl _ (by simp)
        have ep2 := pO (k := 8) (MS_O eV1) rfl (0)
        have er2 := wO_FIo (k := 8) (MS_O eV1) rfl (0)
        have eu2 := wO_A (MS_O eV1) 8 (.int (0))
        generalize wO em1 19 8 (.int (0)) = em2 at es2 ep2 er2 eu2
        have eV2 := MS_K eV1 es2
        have y1 : FI em1 19 17 = nI (nr + 1) := by rw [er1, if_pos ⟨rfl, rfl⟩]
        have y2 : FI em2 19 17 = nI (nr + 1) := by rw [er2, if_neg (by decide)]; exact y1
        have kd : K [31, 32, 33] [(19, 17), (19, 8)] ξ1 em2 := ((((ds1.mono (by simp) (by simp)).tr (ds2.mono (by simp) (by simp))).tr (kl.mono (by simp) (by simp))).tr (es1.mono (by simp) (by simp))).tr (es2.mono (by simp) (by simp))
        have kk : K [27, 28, 29, 30, 31, 32, 33] [(0, 5), (0, 1), (19, 17), (19, 8), (19, 9), (19, 10), (19, 14), (19, 16)] ξ em2 := ((kc.mono (by simp) (by simp)).tr (k2.mono (by simp) (by simp))).tr (kd.mono (by simp) (by simp))
        have kf : KZ [27, 28, 29, 30, 31, 32, 33] [(0, 5), (0, 1), (19, 17), (19, 8), (19, 9), (19, 10), (19, 14), (19, 16)] [(3, nr)] ν1 em2 := (kz.mono (by simp) (by simp) (by simp)).tr kk.Z
        have w31 : A ξ1 31 = A ν1 31 := by rw [K_A k2 (by decide), K_A kc (by simp), Z_A kz (by omega) (by simp)]
        have w32 : A ξ1 32 = A ν1 32 := by rw [K_A k2 (by decide), K_A kc (by simp), Z_A kz (by omega) (by simp)]
        have w33 : A ξ1 33 = A ν1 33 := by rw [K_A k2 (by decide), K_A kc (by simp), Z_A kz (by omega) (by simp)]
        have z31 : A em2 31 = upd (A ν1 31) nr (nI q) := by rw [eu2, eu1, K_A kl (by simp), du2, if_neg (by decide), du1, if_pos rfl, w31]
        have z32 : A em2 32 = upd (A ν1 32) nr (nI s'.2.1) := by rw [eu2, eu1, K_A kl (by simp), du2, if_pos rfl, du1, if_neg (by decide), w32]
        have z33 : ∀ i, A em2 33 i = if 6 * nr ≤ i ∧ i < 6 * nr + s'.2.1 then A ξ1 30 (i - 6 * nr) else A ν1 33 i := fun i => by rw [eu2, eu1, fl, show A dm2 30 = A ξ1 30 by rw [du2, if_neg (by decide), du1, if_neg (by decide)], show A dm2 33 = A ν1 33 by rw [du2, if_neg (by decide), du1, if_neg (by decide), w33]]
        have s33 : ∀ j, j < s'.2.1 → A em2 33 (6 * nr + j) = nI (asC (s'.2.2 j)) := fun j hj => by rw [z33, if_pos (by omega), show 6 * nr + j - 6 * nr = j by omega]; exact t3 j hj
        have hst : ∀ j, j < s'.2.1 → stp (A em2 33) nr j = asC (s'.2.2 j) := fun j hj => by
          unfold stp
          rw [s33 j hj, nI_clamp]
          have := asC_lt (hri.2.2.2 j hj)
          omega
        refine ⟨(nI nr), cm2, em2, ?_, ?_, np, nr + 1, nl, 0, PA, fun r => if r = nr then mN ν1 else QA r, LA, sh, ?_⟩
        · rw [goC]
          simp (disch := first | omega | decide | with_reducible assumption) only [i65_18, i65_21, i65_23, i65_24, i65_25, i65_28, i65_30, i65_33, i65_35, i65_36, i65_37, i65_40, i65_41, i65_44, i65_47, i65_47I, i65_48, i65_49, i65_50, i65_53, i65_56, i65_57, i65_58, i65_58I, i65_59, i65_62, i65_63, i65_64, i65_67, i65_68, i65_69, i65_72, i65_73, i65_76, i65_77, i65_78, bI_0, Bool.true_eq_false, gC4 hC1, gC5 hC1, gC9 hC1, c5, n10, lt_t, hnw, g9', hcn, pr, gC5 hCx, c5', nI_add1, cp1, cp2, gC5 cV2, c5e, b_v_s, b_i_s, b_n_s, b_r_s, b_r_n, b_m_s, b_c_s, b_c_v, if_true, if_false, nI_sub1, Nat.add_sub_cancel]
        · rw [goM cm2 ξ1 hoMc hM2 e2 g8 (f2 s' hfl)]
          simp (disch := first | omega | decide | with_reducible assumption) only [i116_38, i116_39, i116_42, i116_44, i116_47, i116_49, i116_50, i116_51, i116_54, i116_55, i116_58, i116_59, i116_60, i116_61, i116_64, i116_65, i116_68, i116_69, i116_72, i116_73, i116_74, gM17 hM2, g17, n10, nI_eqE, hfull, gM18 hM2, dp1, gM19 dV1, gM17 dV1, q1, gM16 dV1, p1, dp2, b_v_s, b_i_s, b_n_s, b_r_s, b_r_n, b_m_s, b_c_s, b_c_v, if_false]
          refine (show _ = _ from congrArg _ rfl).trans (el.trans ?_)
          simp (disch := first | omega | decide | with_reducible assumption) only [i116_109, i116_110, i116_110I, i116_111, i116_114, i116_115, i116_116, i116_119, i116_120, i116_121, i116_124, i116_125, i116_128, i116_129, i116_130, gM17 hMl, l17, nI_add1, ep1, ep2, gM17 eV2, y2, b_v_s, b_i_s, b_n_s, b_r_s, b_r_n, b_m_s, b_c_s, b_c_v, nI_sub1, Nat.add_sub_cancel]
        · have hPG := Z_pg J kf (by decide) (by decide) (by simp)
          have hRu := Z_ru J kf (by decide) (by decide) (fun r hr => by simp; omega) (fun r hr => ⟨by rw [z31, upd_at, if_neg (by omega)], by rw [z32, upd_at, if_neg (by omega)], fun j hj => by rw [z33, if_neg (by omega)]⟩)
          have hLa := Z_la J kf (by decide) (by simp) (fun l hl => ⟨by rw [Z_A kf (by omega) (by decide)], by rw [Z_A kf (by omega) (by decide)], by rw [Z_A kf (by omega) (by decide)]⟩)
          have hkN := K_mN kk
          refine ⟨MS_Z hM1 kf, ShC_Z J.2.1 kf, ⟨?_, y2, ?_, ?_, ?_, ?_⟩, ⟨⟨Nat.zero_le _, ?_, fun i hi => absurd hi (Nat.not_lt_zero i), fun i hi => absurd hi (Nat.not_lt_zero i)⟩, ⟨Nat.zero_le _, ?_, fun i hi => absurd hi (Nat.not_lt_zero i), fun i hi => absurd hi (Nat.not_lt_zero i)⟩⟩, hPG.1, hPG.2, ⟨by omega, hRu.1, fun r hr => ?_⟩, ⟨hnl, hLa⟩, Z_ft J kf (by decide) (by decide), ⟨I_A J, fun p hp => ?_, fun r hr => ?_, fun l hl => ?_⟩, ⟨K_NA kk hNAx, ?_, ?_, ?_⟩, ?_⟩
          · rw [Z_FI kf (by omega) (by decide)]; exact J.2.2.1.1
          · rw [Z_FI kf (by omega) (by decide)]; exact J.2.2.1.2.2.1
          · rw [Z_FI kf (by omega) (by decide)]; exact J.2.2.1.2.2.2.1
          · rw [er2, if_neg (by decide), er1, if_neg (by decide), K_FI kl (by simp), dr2, dr1, K_FI k2 (by decide), cr2, if_neg (by decide), cr1, if_pos ⟨rfl, rfl⟩]
          · rw [Z_FI kf (by omega) (by decide)]; exact J.2.2.1.2.2.2.2.2
          · rw [er2, if_neg (by decide), er1, if_neg (by decide), K_FI kl (by simp), dr2, dr1, K_FI k2 (by decide), cr2, if_pos ⟨rfl, rfl⟩]; rfl
          · rw [er2, if_pos ⟨rfl, rfl⟩]; rfl
          · dsimp only
            by_cases e : r = nr
            · subst e
              rw [if_pos rfl]
              refine ⟨by rw [K_RA kk]; exact hRAx, s'.2.1, q, ⟨by rw [z32, upd_at, if_pos rfl], hk6, fun j hj => ?_⟩, by rw [z31, upd_at, if_pos rfl], ?_⟩
              · rw [hst j hj]
                exact ⟨s33 j hj, asC_lt (hri.2.2.2 j hj)⟩
              · refine RV_K (RV_new hF hF1 (by omega) hk6 (fun j hj => ⟨s'.2.2 j, hri.2.2.2 j hj, ?_, (hst j hj).symm⟩)) kk (by simp; omega) (by simp)
                rw [if_pos (by omega)]; exact r4 j hj
            · rw [if_neg e]; exact hRu.2 r (by omega)
          · have := (I_Ad J).2.1 p hp; omega
          · dsimp only
            by_cases e : r = nr
            · rw [if_pos e]; omega
            · rw [if_neg e]; have := (I_Ad J).2.2.1 r (by omega); omega
          · have := (I_Ad J).2.2.2 l hl; omega
          · omega
          · have := I_mS J; omega
          · unfold Zr
            rw [Z_A kf (by omega) (by decide), Z_A kf (by omega) (by decide)]; exact I_Z J
          · rw [kf.2.1]; exact J.2.2.2.2.2.2.2.2.2.2.2
end addr2
