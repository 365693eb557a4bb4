/-! a law is added -/
theorem n99 : (99 : Int32) = nI 99 := rfl
section addl
variable {C : Nat × (Nat → Int32)} {μ ν : mM} {np nr nl ns : Nat} {PA QA LA sh : Nat → Nat} {X : List Nat} {Y R : List (Nat × Nat)}
theorem I_NA (I : INV C μ np nr nl ns PA QA LA sh) : NA μ := I.2.2.2.2.2.2.2.2.2.2.1.1
theorem I_mN (I : INV C μ np nr nl ns PA QA LA sh) : mN μ = 48 + 10 * np + 2 * nr + nl := I.2.2.2.2.2.2.2.2.2.2.1.2.1
theorem I_mS (I : INV C μ np nr nl ns PA QA LA sh) : mS μ ≤ 60000 + 5000 * np + 16 * nr + 4 * nl := I.2.2.2.2.2.2.2.2.2.2.1.2.2.1
theorem I_Ad (I : INV C μ np nr nl ns PA QA LA sh) : Adr μ np nr nl PA QA LA := I.2.2.2.2.2.2.2.2.2.1
theorem Z_pg (I : INV C μ np nr nl ns PA QA LA sh) (k : KZ X Y R μ ν) (hX : ∀ a ∈ X, a < 48 ∧ (a < 20 ∨ 25 < a)) (hY : ∀ y ∈ Y, y.1 < 48) (hR : ∀ y ∈ R, y.1 ≠ 2) : PGs (A ν 20) (A ν 23) np ∧ PGV ν np PA (A ν 20) (A ν 23) (A ν 21) (A ν 22) (A ν 24) (A ν 25) := by
  have hN := I_mN I
  have nx : ∀ a, 20 ≤ a → a ≤ 25 → A ν a = A μ a := fun a h1 h2 => Z_A k (by omega) (fun z => by have := hX a z; omega)
  rw [nx 20 (by decide) (by decide), nx 21 (by decide) (by decide), nx 22 (by decide) (by decide), nx 23 (by decide) (by decide), nx 24 (by decide) (by decide), nx 25 (by decide) (by decide)]
  refine ⟨I.2.2.2.2.1, (I_V I).1, k.1.2.2 _ _ _ (I_V I).2.1, fun p hp => ?_⟩
  obtain ⟨g1, g2, g3, g4⟩ := (I_V I).2.2 p hp
  have h1 := (I_A I p hp).1
  have h2 := (I_Ad I).2.1 p hp
  have ny : ∀ j, (PA p, j) ∉ Y := fun j z => by have : PA p < 48 := hY _ z; omega
  exact ⟨by rw [Z_RA k (by omega) (fun z => hR _ z rfl)]; exact g1, PV_Z g2 k h2 (fun j _ _ _ z => by have := (hX _ z).1; omega) ⟨ny _, ny _, ny _⟩, PMk_Z g3 k (by omega) ⟨ny _, ny _, ny _⟩, DRN_Z g4 k h2 (fun z => by have := (hX _ z).1; omega) (ny _)⟩
theorem RW_c {RM RM' RT RT' : Nat → Int32} {r k : Nat} (h : RW RM RT r k) (h1 : RM' r = RM r) (h2 : ∀ j, j < 6 → RT' (6 * r + j) = RT (6 * r + j)) : RW RM' RT' r k := ⟨by rw [h1]; exact h.1, h.2.1, fun j hj => by
  have h6 := h.2.1
  unfold stp
  rw [h2 j (by omega)]
  exact h.2.2 j hj⟩
theorem RV_c {r rr k q : Nat} {RT RT' : Nat → Int32} (h : RV μ r rr k q RT) (h2 : ∀ j, j < 6 → RT' (6 * rr + j) = RT (6 * rr + j)) : RV μ r rr k q RT' := ⟨h.1, h.2.1, h.2.2.1, h.2.2.2.1, h.2.2.2.2.1, fun j hj => by
  have h6 := h.2.2.2.2.1
  obtain ⟨t, t1, t2, t3⟩ := h.2.2.2.2.2 j hj
  refine ⟨t, t1, t2, ?_⟩
  unfold stp
  rw [h2 j (by omega)]
  exact t3⟩
theorem Z_ru (I : INV C μ np nr nl ns PA QA LA sh) (k : KZ X Y R μ ν) (hX : ∀ a ∈ X, a < 48) (hY : ∀ y ∈ Y, y.1 < 48) (hR : ∀ r, r < nr → (3, r) ∉ R) (hr : ∀ r, r < nr → A ν 31 r = A μ 31 r ∧ A ν 32 r = A μ 32 r ∧ ∀ j, j < 6 → A ν 33 (6 * r + j) = A μ 33 (6 * r + j)) : isR ν 3 6 10 ∧ ∀ r, r < nr → RA ν 3 r = some (QA r) ∧ ∃ k q, RW (A ν 32) (A ν 33) r k ∧ A ν 31 r = nI q ∧ RV ν (QA r) r k q (A ν 33) := by
  have hN := I_mN I
  have hL := I.2.2.2.2.2.2.1
  refine ⟨k.1.2.2 _ _ _ hL.2.1, fun r hr' => ?_⟩
  obtain ⟨g1, kk, q, g2, g3, g4⟩ := hL.2.2 r hr'
  obtain ⟨a1, a2, a3⟩ := hr r hr'
  have h1 := (I_Ad I).2.2.1 r hr'
  exact ⟨by rw [Z_RA k (by omega) (hR r hr')]; exact g1, kk, q, RW_c g2 a2 a3, by rw [a1]; exact g3, RV_c (RV_Z g4 k h1.2 (fun z => by have := hX _ z; omega) (fun z => by have : QA r < 48 := hY _ z; omega)) a3⟩
theorem Z_la (I : INV C μ np nr nl ns PA QA LA sh) (k : KZ X Y R μ ν) (hY : ∀ y ∈ Y, y.1 < 48) (hR : ∀ l, l < nl → (4, l) ∉ R) (hr : ∀ l, l < nl → A ν 39 l = A μ 39 l ∧ A ν 40 l = A μ 40 l ∧ A ν 41 l = A μ 41 l) : isR ν 4 1 8 ∧ ∀ l, l < nl → RA ν 4 l = some (LA l) ∧ LV ν (LA l) (fq ν l) (A ν 40 l) (A ν 41 l) ∧ A ν 39 l = nI (fq ν l) := by
  have hN := I_mN I
  have hL := I.2.2.2.2.2.2.2.1
  refine ⟨k.1.2.2 _ _ _ hL.2.1, fun l hl => ?_⟩
  obtain ⟨g1, g2, g3⟩ := hL.2.2 l hl
  obtain ⟨a1, a2, a3⟩ := hr l hl
  have h1 := (I_Ad I).2.2.2 l hl
  have ef : fq ν l = fq μ l := by unfold fq; rw [a1]
  rw [ef, a1, a2, a3]
  exact ⟨by rw [Z_RA k (by omega) (hR l hl)]; exact g1, LV_Z g2 k (by omega) (fun j _ z => by have : LA l < 48 := hY _ z; omega), g3⟩
theorem Z_ft (I : INV C μ np nr nl ns PA QA LA sh) (k : KZ X Y R μ ν) (hX : ∀ a ∈ X, a ≠ 12 ∧ (a < 20 ∨ 25 < a)) (hY : ∀ y ∈ Y, y.1 ≠ 11 ∧ y ≠ (0, 11)) : FI ν 0 11 = 0 ∨ (FI ν 0 11 = 1 ∧ FOK ν np) := by
  have hN := I_mN I
  have nx : ∀ a, 20 ≤ a → a ≤ 25 → A ν a = A μ a := fun a h1 h2 => Z_A k (by omega) (fun z => by have := hX a z; omega)
  have e20 := nx 20 (by decide) (by decide)
  have e21 := nx 21 (by decide) (by decide)
  have e22 := nx 22 (by decide) (by decide)
  have e23 := nx 23 (by decide) (by decide)
  have e24 := nx 24 (by decide) (by decide)
  have e25 := nx 25 (by decide) (by decide)
  obtain ⟨f1, f2, f3⟩ := Kp_FT (μ := μ) (ν := ν) ⟨e20, e21, e22, e23, e24, e25⟩ np
  have ny : ∀ j, FI ν 11 j = FI μ 11 j := fun j => Z_FI k (by omega) (fun z => (hY _ z).1 rfl)
  have hF := I.2.2.2.2.2.2.2.2.1
  rw [Z_FI k (by omega) (fun z => (hY _ z).2 rfl)]
  refine hF.imp id (fun z => ⟨z.1, ?_⟩)
  obtain ⟨_, ⟨b0, b1, b2, b3, b4⟩, b5⟩ := z
  unfold FOK FS
  rw [f1, f2, f3, e20, e21, e23, ny, ny, ny, ny, ny]
  exact ⟨⟨b0, b1, b2, b3, fun p hp b hb => by rw [Z_A k (by omega) (fun z => (hX _ z).1 rfl)]; exact b4 p hp b hb⟩, b5⟩
theorem K_NA {X : List Nat} {Y : List (Nat × Nat)} (k : K X Y μ ν) (h : NA μ) : NA ν := fun a ha => k.1.2.2.2 a (h a (by unfold mN at ha ⊢; rw [k.2.1.1] at ha; exact ha))
theorem K_mN {X : List Nat} {Y : List (Nat × Nat)} (k : K X Y μ ν) : mN ν = mN μ ∧ mS ν = mS μ := ⟨by unfold mN; rw [k.2.1.1], by unfold mS; rw [k.2.1.1]⟩
theorem C_lawNew (x y z : Int32) : m_D 7 [.ref (mN μ), .int x, .int y, .int z] (ext μ 3 [m_ob 1 [.int 0, .int 0, .int 0]]) = some (none, ext μ 3 [m_ob 1 [.int x, .int y, .int z]]) := by
  have p1 : m_pf (ext μ 3 [m_ob 1 [.int 0, .int 0, .int 0]]) (mN μ) 1 0 .int (.int x) = some (ext μ 3 [m_ob 1 [.int x, .int 0, .int 0]]) := pf_ext0 (fs := [.int 0, .int 0, .int 0]) rfl (by decide) rfl rfl
  have p2 : m_pf (ext μ 3 [m_ob 1 [.int x, .int 0, .int 0]]) (mN μ) 1 1 .int (.int y) = some (ext μ 3 [m_ob 1 [.int x, .int y, .int 0]]) := pf_ext0 (fs := [.int x, .int 0, .int 0]) rfl (Nat.le_of_ble_eq_true rfl) rfl rfl
  have p3 : m_pf (ext μ 3 [m_ob 1 [.int x, .int y, .int 0]]) (mN μ) 1 2 .int (.int z) = some (ext μ 3 [m_ob 1 [.int x, .int y, .int z]]) := pf_ext0 (fs := [.int x, .int y, .int 0]) rfl (Nat.le_of_ble_eq_true rfl) rfl rfl
  simp only [D7, i7_0, i7_1, i7_4, i7_5, i7_6, i7_9, i7_10, i7_11, i7_14, i7_15, i7_16, i7_19, p1, p2, p3, b_v_s, b_i_s, b_n_s, b_r_s, b_r_n, b_m_s, b_c_s, b_c_v]
theorem LV_new {fs : mM} {N q : Nat} {x y : Int32} (h : mF fs N = some (m_ob 1 [.int (nI q), .int x, .int y])) (hq : q ≤ 3) : LV fs N q x y := by
  have f : ∀ k v, [Value.int (nI q), .int x, .int y][k]? = some (.int v) → FI fs N k = v := fun k v hk => by
    unfold FI
    rw [h]
    dsimp only
    rw [hk]
  have f0 := f 0 _ rfl
  have f1 := f 1 _ rfl
  have f2 := f 2 _ rfl
  refine ⟨?_, f0, f1, f2, hq⟩
  unfold isO TLw
  rw [tm, tm, tm, tm, tmv, tmv, tmv, f0, f1, f2]
  exact h
end addl
section addl2
variable {C : Nat × (Nat → Int32)}
set_option maxHeartbeats 4000000 in
theorem call_law (x y z : Int32) : CallOK C 82 148 [.int x, .int y, .int z] := by
  rintro μ ⟨np, nr, nl, ns, PA, QA, LA, sh, I⟩
  have hC := I_C I
  have hoC := CV_oc hC
  have hM := I_M I
  have hoM := oM_oc hM
  have hnl := I_nl I
  have hnp := I_np I
  have hnr := I_nr I
  have i1 : ∀ ν : mM, m_D 102 [.long x.toInt64, .long 0, .long 3] ν = some (some (.int (bI (inR x 4))), ν) := fun ν => in_R (k := 3) (by decide)
  have i2 : ∀ ν : mM, m_D 102 [.long y.toInt64, .long 0, .long 99] ν = some (some (.int (bI (inR y 100))), ν) := fun ν => in_R (k := 99) (by decide)
  have i3 : ∀ ν : mM, m_D 102 [.long z.toInt64, .long 0, .long 99] ν = some (some (.int (bI (inR z 100))), ν) := fun ν => in_R (k := 99) (by decide)
  have i4 : ∀ ν : mM, m_D 102 [.long z.toInt64, .long y.toInt64, .long 99] ν = some (some (.int (bI (decide (y.toInt ≤ z.toInt) && decide (z.toInt ≤ 99)))), ν) := fun ν => by rw [E_in, toInt_i2l, toInt_i2l, show (99 : Int64).toInt = 99 by decide]
  cases hx : inR x 4 with
  | false =>
    rw [hx] at i1
    have b1 := inR_b (x := x) (n := 4) (by decide)
    rw [hx] at b1
    refine ⟨(-102), μ, μ, ?_, ?_, I_ok I⟩
    · by_cases d1 : x < 0
      · simp (disch := first | omega | decide | with_reducible assumption) only [D82, i82_0, i82_1, i82_4, i82_5, i82_6, i82_9, i82_10, i82_13, i82_14, i82_16, i82_19, i82_20, i82_23, i82_24, i82_26, i82_29, i82_31, d1, b_v_s, b_i_s, b_n_s, b_r_s, b_r_n, b_m_s, b_c_s, b_c_v, if_true]
      · have d2 : (3 : Int32) < x := by
          rw [decide_eq_true d1, Bool.true_and] at b1
          have := of_decide_eq_false b1.symm
          rw [Int32.lt_iff_toInt_lt] at this ⊢
          rw [show (nI 4).toInt = 4 by decide] at this
          rw [show (3 : Int32).toInt = 3 by decide]
          omega
        simp (disch := first | omega | decide | with_reducible assumption) only [D82, i82_0, i82_1, i82_4, i82_5, i82_6, i82_9, i82_10, i82_13, i82_14, i82_16, i82_19, i82_20, i82_23, i82_24, i82_26, i82_29, i82_31, d1, d2, b_v_s, b_i_s, b_n_s, b_r_s, b_r_n, b_m_s, b_c_s, b_c_v, if_true, if_false]
    · simp (disch := first | omega | decide | with_reducible assumption) only [D148, i148_0, i148_1, i148_2, i148_3, i148_6, i148_9, i148_12, i148_13, i148_14, i148_15, i148_18, i148_21, i148_24, i148_25, i148_26, i148_27, i148_28, i148_31, i148_32, i148_33, i148_36, i148_37, i148_40, i148_43, i148_46, i148_48, i1 μ, bI_0, b_v_s, b_i_s, b_n_s, b_r_s, b_r_n, b_m_s, b_c_s, b_c_v, if_true]
  | true =>
    rw [hx] at i1
    obtain ⟨q, hq, rfl⟩ := inR_nI hx
    cases hy : inR y 100 with
    | false =>
      rw [hy] at i2
      have b1 := inR_b (x := y) (n := 100) (by decide)
      rw [hy] at b1
      refine ⟨(-102), μ, μ, ?_, ?_, I_ok I⟩
      · by_cases d1 : y < 0
        · simp (disch := first | omega | decide | with_reducible assumption) only [D82, i82_0, i82_1, i82_4, i82_5, i82_6, i82_9, i82_10, i82_13, i82_14, i82_16, i82_19, i82_20, i82_23, i82_24, i82_26, i82_29, i82_31, nI_lt0, n3, lt_f, d1, b_v_s, b_i_s, b_n_s, b_r_s, b_r_n, b_m_s, b_c_s, b_c_v, if_true, if_false]
        · have d2 : (99 : Int32) < y := by
            rw [decide_eq_true d1, Bool.true_and] at b1
            have := of_decide_eq_false b1.symm
            rw [Int32.lt_iff_toInt_lt] at this ⊢
            rw [show (nI 100).toInt = 100 by decide] at this
            rw [show (99 : Int32).toInt = 99 by decide]
            omega
          simp (disch := first | omega | decide | with_reducible assumption) only [D82, i82_0, i82_1, i82_4, i82_5, i82_6, i82_9, i82_10, i82_13, i82_14, i82_16, i82_19, i82_20, i82_23, i82_24, i82_26, i82_29, i82_31, nI_lt0, n3, lt_f, d1, d2, b_v_s, b_i_s, b_n_s, b_r_s, b_r_n, b_m_s, b_c_s, b_c_v, if_true, if_false]
      · simp (disch := first | omega | decide | with_reducible assumption) only [D148, i148_0, i148_1, i148_2, i148_3, i148_6, i148_9, i148_12, i148_13, i148_14, i148_15, i148_18, i148_21, i148_24, i148_25, i148_26, i148_27, i148_28, i148_31, i148_32, i148_33, i148_36, i148_37, i148_40, i148_43, i148_46, i148_48, i1 μ, i2 μ, bI_0, Bool.true_eq_false, b_v_s, b_i_s, b_n_s, b_r_s, b_r_n, b_m_s, b_c_s, b_c_v, if_true, if_false]
    | true =>
      rw [hy] at i2
      obtain ⟨u, hu, rfl⟩ := inR_nI hy
      cases hz : inR z 100 with
      | false =>
        rw [hz] at i3
        have b1 := inR_b (x := z) (n := 100) (by decide)
        rw [hz] at b1
        refine ⟨(-102), μ, μ, ?_, ?_, I_ok I⟩
        · by_cases d1 : z < 0
          · simp (disch := first | omega | decide | with_reducible assumption) only [D82, i82_0, i82_1, i82_4, i82_5, i82_6, i82_9, i82_10, i82_13, i82_14, i82_16, i82_19, i82_20, i82_23, i82_24, i82_26, i82_29, i82_31, nI_lt0, n3, n99, lt_f, d1, b_v_s, b_i_s, b_n_s, b_r_s, b_r_n, b_m_s, b_c_s, b_c_v, if_true, if_false]
          · have d2 : nI 99 < z := by
              rw [decide_eq_true d1, Bool.true_and] at b1
              have := of_decide_eq_false b1.symm
              rw [Int32.lt_iff_toInt_lt] at this ⊢
              rw [show (nI 100).toInt = 100 by decide] at this
              rw [show (nI 99).toInt = 99 by decide]
              omega
            simp (disch := first | omega | decide | with_reducible assumption) only [D82, i82_0, i82_1, i82_4, i82_5, i82_6, i82_9, i82_10, i82_13, i82_14, i82_16, i82_19, i82_20, i82_23, i82_24, i82_26, i82_29, i82_31, nI_lt0, n3, n99, lt_f, d1, d2, b_v_s, b_i_s, b_n_s, b_r_s, b_r_n, b_m_s, b_c_s, b_c_v, if_true, if_false]
        · have i4' := i4 μ
          rw [show (decide ((nI u).toInt ≤ z.toInt) && decide (z.toInt ≤ 99)) = false by
            unfold inR at hz
            have := of_decide_eq_false hz
            rw [nI_toInt (by omega), ← Bool.decide_and]
            exact decide_eq_false (by omega)] at i4'
          by_cases d : q < 2
          · simp (disch := first | omega | decide | with_reducible assumption) only [D148, i148_0, i148_1, i148_2, i148_3, i148_6, i148_9, i148_12, i148_13, i148_14, i148_15, i148_18, i148_21, i148_24, i148_25, i148_26, i148_27, i148_28, i148_31, i148_32, i148_33, i148_36, i148_37, i148_40, i148_43, i148_46, i148_48, i1 μ, i2 μ, i4', n2, lt_t, bI_0, Bool.true_eq_false, b_v_s, b_i_s, b_n_s, b_r_s, b_r_n, b_m_s, b_c_s, b_c_v, if_true, if_false]
          · simp (disch := first | omega | decide | with_reducible assumption) only [D148, i148_0, i148_1, i148_2, i148_3, i148_6, i148_9, i148_12, i148_13, i148_14, i148_15, i148_18, i148_21, i148_24, i148_25, i148_26, i148_27, i148_28, i148_31, i148_32, i148_33, i148_36, i148_37, i148_40, i148_43, i148_46, i148_48, i1 μ, i2 μ, i3 μ, n2, lt_f, bI_0, Bool.true_eq_false, b_v_s, b_i_s, b_n_s, b_r_s, b_r_n, b_m_s, b_c_s, b_c_v, if_true, if_false]
      | true =>
        rw [hz] at i3
        obtain ⟨w, hw, rfl⟩ := inR_nI hz
        have e0 : (nI q = (0 : Int32)) = (q = 0) := nI_eqE (by omega) (by decide)
        have e1 : (nI q = (1 : Int32)) = (q = 1) := nI_eqE (by omega) (by decide)
        have j4 := fun ν => i4 ν
        rw [nI_toInt (by omega), nI_toInt (by omega)] at j4
        by_cases hbad : q < 2 ∧ w < u
        · have j5 := j4 μ
          rw [decide_eq_false (show ¬ ((u : Int) ≤ (w : Int)) by omega), Bool.false_and] at j5
          have hq2 := hbad.1
          have hwu := hbad.2
          refine ⟨(-102), μ, μ, ?_, ?_, I_ok I⟩
          · by_cases d0 : q = 0
            · simp (disch := first | omega | decide | with_reducible assumption) only [D82, i82_0, i82_1, i82_4, i82_5, i82_6, i82_9, i82_10, i82_13, i82_14, i82_16, i82_19, i82_20, i82_23, i82_24, i82_26, i82_29, i82_31, i82_32, i82_33, i82_36, i82_37, i82_38, i82_41, i82_42, i82_43, i82_46, i82_48, nI_lt0, e0.trans (eq_true d0), n3, n99, lt_f, lt_t, b_v_s, b_i_s, b_n_s, b_r_s, b_r_n, b_m_s, b_c_s, b_c_v, if_true, if_false]
            · have d1 : q = 1 := by omega
              simp (disch := first | omega | decide | with_reducible assumption) only [D82, i82_0, i82_1, i82_4, i82_5, i82_6, i82_9, i82_10, i82_13, i82_14, i82_16, i82_19, i82_20, i82_23, i82_24, i82_26, i82_29, i82_31, i82_32, i82_33, i82_36, i82_37, i82_38, i82_41, i82_42, i82_43, i82_46, i82_48, nI_lt0, e0.trans (eq_false d0), e1.trans (eq_true d1), n3, n99, lt_f, lt_t, b_v_s, b_i_s, b_n_s, b_r_s, b_r_n, b_m_s, b_c_s, b_c_v, if_true, if_false]
          · simp (disch := first | omega | decide | with_reducible assumption) only [D148, i148_0, i148_1, i148_2, i148_3, i148_6, i148_9, i148_12, i148_13, i148_14, i148_15, i148_18, i148_21, i148_24, i148_25, i148_26, i148_27, i148_28, i148_31, i148_32, i148_33, i148_36, i148_37, i148_40, i148_43, i148_46, i148_48, i1 μ, i2 μ, j5, n2, lt_t, bI_0, Bool.true_eq_false, b_v_s, b_i_s, b_n_s, b_r_s, b_r_n, b_m_s, b_c_s, b_c_v, if_true, if_false]
        · have goC : m_D 82 [.ref 0, .int (nI q), .int (nI u), .int (nI w)] μ = m_G 82 49 [.ref 0, .int (nI q), .int (nI u), .int (nI w)] [] μ := by
            by_cases d0 : q = 0
            · simp (disch := first | omega | decide | with_reducible assumption) only [D82, i82_0, i82_1, i82_4, i82_5, i82_6, i82_9, i82_10, i82_13, i82_14, i82_16, i82_19, i82_20, i82_23, i82_24, i82_26, i82_29, i82_31, i82_32, i82_33, i82_36, i82_37, i82_38, i82_41, i82_42, i82_43, i82_46, i82_48, nI_lt0, e0.trans (eq_true d0), n3, n99, lt_f, lt_t, b_v_s, b_i_s, b_n_s, b_r_s, b_r_n, b_m_s, b_c_s, b_c_v, if_true, if_false]
            · by_cases d1 : q = 1
              · simp (disch := first | omega | decide | with_reducible assumption) only [D82, i82_0, i82_1, i82_4, i82_5, i82_6, i82_9, i82_10, i82_13, i82_14, i82_16, i82_19, i82_20, i82_23, i82_24, i82_26, i82_29, i82_31, i82_32, i82_33, i82_36, i82_37, i82_38, i82_41, i82_42, i82_43, i82_46, i82_48, nI_lt0, e0.trans (eq_false d0), e1.trans (eq_true d1), n3, n99, lt_f, lt_t, b_v_s, b_i_s, b_n_s, b_r_s, b_r_n, b_m_s, b_c_s, b_c_v, if_true, if_false]
              · simp (disch := first | omega | decide | with_reducible assumption) only [D82, i82_0, i82_1, i82_4, i82_5, i82_6, i82_9, i82_10, i82_13, i82_14, i82_16, i82_19, i82_20, i82_23, i82_24, i82_26, i82_29, i82_31, i82_32, i82_33, i82_36, i82_37, i82_38, i82_41, i82_42, i82_43, i82_46, i82_48, nI_lt0, e0.trans (eq_false d0), e1.trans (eq_false d1), n3, n99, lt_f, lt_t, b_v_s, b_i_s, b_n_s, b_r_s, b_r_n, b_m_s, b_c_s, b_c_v, if_true, if_false]
          have goM : ∀ ν, m_D 148 [.ref 19, .int (nI q), .int (nI u), .int (nI w)] ν = m_G 148 49 [.ref 19, .int (nI q), .int (nI u), .int (nI w)] [] ν := fun ν => by
            by_cases d : q < 2
            · have j5 := j4 ν
              rw [decide_eq_true (show ((u : Int) ≤ (w : Int)) by omega), decide_eq_true (show ((w : Int) ≤ 99) by omega), Bool.true_and] at j5
              simp (disch := first | omega | decide | with_reducible assumption) only [D148, i148_0, i148_1, i148_2, i148_3, i148_6, i148_9, i148_12, i148_13, i148_14, i148_15, i148_18, i148_21, i148_24, i148_25, i148_26, i148_27, i148_28, i148_31, i148_32, i148_33, i148_36, i148_37, i148_40, i148_43, i148_46, i148_48, i1 ν, i2 ν, j5, n2, lt_t, bI_0, Bool.true_eq_false, b_v_s, b_i_s, b_n_s, b_r_s, b_r_n, b_m_s, b_c_s, b_c_v, if_true, if_false]
            · simp (disch := first | omega | decide | with_reducible assumption) only [D148, i148_0, i148_1, i148_2, i148_3, i148_6, i148_9, i148_12, i148_13, i148_14, i148_15, i148_18, i148_21, i148_24, i148_25, i148_26, i148_27, i148_28, i148_31, i148_32, i148_33, i148_36, i148_37, i148_40, i148_43, i148_46, i148_48, i1 ν, i2 ν, i3 ν, n2, lt_f, bI_0, Bool.true_eq_false, b_v_s, b_i_s, b_n_s, b_r_s, b_r_n, b_m_s, b_c_s, b_c_v, if_true, if_false]
          have c7 : FI μ 0 7 = nI nl := I.2.2.1.2.2.2.2.2
          have m27 : FI μ 19 27 = nI nl := I.2.2.1.2.2.1
          by_cases hfull : nl = 8
          · subst hfull
            refine ⟨(-104), μ, μ, ?_, ?_, I_ok I⟩
            · rw [goC]
              simp (disch := first | omega | decide | with_reducible assumption) only [i82_49, i82_50, i82_53, i82_55, i82_58, i82_60, gC7 hC, c7, n8', lt_f, b_v_s, b_i_s, b_n_s, b_r_s, b_r_n, b_m_s, b_c_s, b_c_v, if_false]
            · rw [goM]
              simp (disch := first | omega | decide | with_reducible assumption) only [i148_49, i148_50, i148_53, i148_55, i148_58, i148_60, gM27 hM, m27, n8', b_v_s, b_i_s, b_n_s, b_r_s, b_r_n, b_m_s, b_c_s, b_c_v, if_true]
          · have hl8 : nl < 8 := by omega
            have hNA := I_NA I
            have hmN := I_mN I
            have hLw := I.2.2.2.2.2.2.2.1
            have hR4 := hLw.2.1
            have pr := pr_ext (s := 3) (es := [m_ob 1 [.int (nI q), .int (nI u), .int (nI w)]]) hR4 (by omega) rfl hl8 (by decide)
            have hnw := new_ext hNA 3 (m_ob 1 [.int 0, .int 0, .int 0])
            have hNw := (wR_N hR4 nl (mN μ)).1
            have hSw := (wR_N hR4 nl (mN μ)).2
            have kz1 : KZ [] [] [(4, nl)] μ (wR μ 4 nl (mN μ)) := KZ_wR hR4 nl (mN μ) (by simp)
            have kz2 : KZ [] [] [(4, nl)] (wR μ 4 nl (mN μ)) (ext (wR μ 4 nl (mN μ)) 3 [m_ob 1 [.int (nI q), .int (nI u), .int (nI w)]]) := KZ_ext (wR_NA hR4 nl (mN μ) hNA) 3 _
            have hF : mF (ext (wR μ 4 nl (mN μ)) 3 [m_ob 1 [.int (nI q), .int (nI u), .int (nI w)]]) (mN μ) = some (m_ob 1 [.int (nI q), .int (nI u), .int (nI w)]) := by rw [ext_F, hNw, if_neg (by omega), Nat.sub_self]; rfl
            have hNx : mN (ext (wR μ 4 nl (mN μ)) 3 [m_ob 1 [.int (nI q), .int (nI u), .int (nI w)]]) = mN μ + 1 := by rw [ext_N, hNw]; rfl
            have hSx : mS (ext (wR μ 4 nl (mN μ)) 3 [m_ob 1 [.int (nI q), .int (nI u), .int (nI w)]]) = mS μ + 3 := by rw [ext_S, hSw]
            have hNAx : NA (ext (wR μ 4 nl (mN μ)) 3 [m_ob 1 [.int (nI q), .int (nI u), .int (nI w)]]) := NA_ext _ _ _
            have hRAx : RA (ext (wR μ 4 nl (mN μ)) 3 [m_ob 1 [.int (nI q), .int (nI u), .int (nI w)]]) 4 nl = some (mN μ) := by
              rw [RA_F (ext_old (by rw [hNw]; omega)), wR_RA hR4, if_pos ⟨rfl, rfl⟩]
            generalize ext (wR μ 4 nl (mN μ)) 3 [m_ob 1 [.int (nI q), .int (nI u), .int (nI w)]] = ξ at *
            have kz := kz1.tr kz2
            have S1 := ShC_Z I.2.1 kz
            have hC1 := S1.1
            have c7' : FI ξ 0 7 = nI nl := (Z_FI kz (by omega) (by simp)).trans c7
            have m27' : FI ξ 19 27 = nI nl := (Z_FI kz (by omega) (by simp)).trans m27
            have hoC1 := CV_oc hC1
            have cs1 : K [] [(0, 7)] ξ (wO ξ 0 7 (.int (nI (nl + 1)))) := K_wO (k := 7) (CV_o hC1) rfl _ (by simp)
            have cp1 := pO (k := 7) (CV_o hC1) rfl (nI (nl + 1))
            have cr1 := wO_FIo (k := 7) (CV_o hC1) rfl (nI (nl + 1))
            have cu1 := wO_A (CV_o hC1) 7 (.int (nI (nl + 1)))
            generalize wO ξ 0 7 (.int (nI (nl + 1))) = cm1 at cs1 cp1 cr1 cu1
            have cV1 := CV_K hC1 cs1
            have hM1 : MS cm1 := MS_K (MS_Z hM kz) cs1
            have hoM1 := oM_oc hM1
            have m27c : FI cm1 19 27 = nI nl := by rw [cr1, if_neg (by decide)]; exact m27'
            have ds1 : K [39] [] cm1 (wA cm1 39 (upd (A cm1 39) (nl) (nI q))) := K_wA (aM39 hM1) _ (by simp)
            have dp1 := pa_A (x := nI q) (k := nl) (aM39 hM1) hl8 (by decide)
            have dr1 := wA_FI (aM39 hM1) (upd (A cm1 39) (nl) (nI q))
            have du1 := wA_A (aM39 hM1) (upd (A cm1 39) (nl) (nI q))
            generalize wA cm1 39 (upd (A cm1 39) (nl) (nI q)) = dm1 at ds1 dp1 dr1 du1
            have dV1 := MS_K hM1 ds1
            have ds2 : K [40] [] dm1 (wA dm1 40 (upd (A dm1 40) (nl) (nI u))) := K_wA (aM40 dV1) _ (by simp)
            have dp2 := pa_A (x := nI u) (k := nl) (aM40 dV1) hl8 (by decide)
            have dr2 := wA_FI (aM40 dV1) (upd (A dm1 40) (nl) (nI u))
            have du2 := wA_A (aM40 dV1) (upd (A dm1 40) (nl) (nI u))
            generalize wA dm1 40 (upd (A dm1 40) (nl) (nI u)) = dm2 at ds2 dp2 dr2 du2
            have dV2 := MS_K dV1 ds2
            have ds3 : K [41] [] dm2 (wA dm2 41 (upd (A dm2 41) (nl) (nI w))) := K_wA (aM41 dV2) _ (by simp)
            have dp3 := pa_A (x := nI w) (k := nl) (aM41 dV2) hl8 (by decide)
            have dr3 := wA_FI (aM41 dV2) (upd (A dm2 41) (nl) (nI w))
            have du3 := wA_A (aM41 dV2) (upd (A dm2 41) (nl) (nI w))
            generalize wA dm2 41 (upd (A dm2 41) (nl) (nI w)) = dm3 at ds3 dp3 dr3 du3
            have dV3 := MS_K dV2 ds3
            have ds4 : K [] [(19, 27)] dm3 (wO dm3 19 27 (.int (nI (nl + 1)))) := K_wO (k := 27) (MS_O dV3) rfl _ (by simp)
            have dp4 := pO (k := 27) (MS_O dV3) rfl (nI (nl + 1))
            have dr4 := wO_FIo (k := 27) (MS_O dV3) rfl (nI (nl + 1))
            have du4 := wO_A (MS_O dV3) 27 (.int (nI (nl + 1)))
            generalize wO dm3 19 27 (.int (nI (nl + 1))) = dm4 at ds4 dp4 dr4 du4
            have dV4 := MS_K dV3 ds4
            have q1 : FI dm1 19 27 = nI nl := by rw [dr1]; exact m27c
            have q2 : FI dm2 19 27 = nI nl := by rw [dr2]; exact q1
            have q3 : FI dm3 19 27 = nI nl := by rw [dr3]; exact q2
            have q4 : FI dm4 19 27 = nI (nl + 1) := by rw [dr4, if_pos ⟨rfl, rfl⟩]
            have kk : K [39, 40, 41] [(0, 7), (19, 27)] ξ dm4 := ((((cs1.mono (by simp) (by simp)).tr (ds1.mono (by simp) (by simp))).tr (ds2.mono (by simp) (by simp))).tr (ds3.mono (by simp) (by simp))).tr (ds4.mono (by simp) (by simp))
            have kf : KZ [39, 40, 41] [(0, 7), (19, 27)] [(4, nl)] μ dm4 := (kz.mono (by simp) (by simp) (by simp)).tr kk.Z
            have z39 : A dm4 39 = upd (A μ 39) nl (nI q) := by rw [du4, du3, if_neg (by decide), du2, if_neg (by decide), du1, if_pos rfl, cu1, Z_A kz (by omega) (by simp)]
            have z40 : A dm4 40 = upd (A μ 40) nl (nI u) := by rw [du4, du3, if_neg (by decide), du2, if_pos rfl, du1, if_neg (by decide), cu1, Z_A kz (by omega) (by simp)]
            have z41 : A dm4 41 = upd (A μ 41) nl (nI w) := by rw [du4, du3, if_pos rfl, du2, if_neg (by decide), du1, if_neg (by decide), cu1, Z_A kz (by omega) (by simp)]
            refine ⟨(nI nl), cm1, dm4, ?_, ?_, np, nr, nl + 1, ns, PA, QA, fun l => if l = nl then mN μ else LA l, sh, ?_⟩
            · rw [goC]
              simp (disch := first | omega | decide | with_reducible assumption) only [i82_49, i82_50, i82_53, i82_55, i82_58, i82_60, i82_61, i82_62, i82_65, i82_66, i82_69, i82_72, i82_72I, i82_73, i82_74, i82_75, i82_76, i82_79, i82_80, i82_81, i82_81I, i82_82, i82_85, i82_86, i82_87, i82_90, i82_91, i82_94, i82_95, i82_96, gC6 hC, gC7 hC, gC7 hC1, gC7 cV1, c7, c7', n8', lt_t, hnw, C_lawNew, pr, cr1, nI_add1, cp1, b_v_s, b_i_s, b_n_s, b_r_s, b_r_n, b_m_s, b_c_s, b_c_v, if_true, true_and, and_self, nI_sub1, Nat.add_sub_cancel]
            · rw [goM]
              simp (disch := first | omega | decide | with_reducible assumption) only [i148_49, i148_50, i148_53, i148_55, i148_58, i148_60, i148_61, i148_62, i148_65, i148_66, i148_69, i148_70, i148_71, i148_72, i148_75, i148_76, i148_79, i148_80, i148_81, i148_82, i148_85, i148_86, i148_89, i148_90, i148_91, i148_92, i148_92I, i148_93, i148_96, i148_97, i148_98, i148_101, i148_102, i148_105, i148_106, i148_107, gM27 hM1, m27c, n8', nI_eqE, hfull, gM28 hM1, dp1, gM29 dV1, gM27 dV1, q1, dp2, gM30 dV2, gM27 dV2, q2, dp3, gM27 dV3, q3, nI_add1, dp4, gM27 dV4, q4, b_v_s, b_i_s, b_n_s, b_r_s, b_r_n, b_m_s, b_c_s, b_c_v, if_false, nI_sub1, Nat.add_sub_cancel]
            · have hPG := Z_pg I kf (by decide) (by decide) (by simp)
              have hRu := Z_ru I kf (by decide) (by decide) (by simp) (fun r _ => ⟨by rw [Z_A kf (by omega) (by decide)], by rw [Z_A kf (by omega) (by decide)], fun j _ => by rw [Z_A kf (by omega) (by decide)]⟩)
              have hLa := Z_la I kf (by decide) (fun l hl => by simp; omega) (fun l hl => ⟨by rw [z39, upd_at, if_neg (by omega)], by rw [z40, upd_at, if_neg (by omega)], by rw [z41, upd_at, if_neg (by omega)]⟩)
              have hkN := K_mN kk
              refine ⟨MS_Z hM kf, ShC_Z I.2.1 kf, ⟨?_, ?_, q4, ?_, ?_, ?_⟩, ⟨?_, ?_⟩, hPG.1, hPG.2, ⟨hnr, hRu⟩, ⟨by omega, hLa.1, fun l hl => ?_⟩, Z_ft I kf (by decide) (by decide), ⟨I_A I, fun p hp => ?_, fun r hr => ?_, fun l hl => ?_⟩, ⟨K_NA kk hNAx, ?_, ?_, ?_⟩, ?_⟩
              · rw [Z_FI kf (by omega) (by decide)]; exact I.2.2.1.1
              · rw [Z_FI kf (by omega) (by decide)]; exact I.2.2.1.2.1
              · rw [Z_FI kf (by omega) (by decide)]; exact I.2.2.1.2.2.2.1
              · rw [Z_FI kf (by omega) (by decide)]; exact I.2.2.1.2.2.2.2.1
              · rw [dr4, if_neg (by decide), dr3, dr2, dr1, cr1, if_pos ⟨rfl, rfl⟩]
              · obtain ⟨o1, o2, o3, o4⟩ := I.2.2.2.1.1
                exact ⟨o1, by rw [Z_FI kf (by omega) (by decide)]; exact o2, by rw [Z_A kf (by omega) (by decide)]; exact o3, o4⟩
              · obtain ⟨o1, o2, o3, o4⟩ := I.2.2.2.1.2
                exact ⟨o1, by rw [Z_FI kf (by omega) (by decide)]; exact o2, by rw [Z_A kf (by omega) (by decide)]; exact o3, o4⟩
              · dsimp only
                by_cases e : l = nl
                · subst e
                  have ef : fq dm4 l = q := by unfold fq; rw [z39, upd_at, if_pos rfl, nI_clamp (by omega)]
                  rw [if_pos rfl, ef, z39, z40, z41, upd_at, upd_at, upd_at, if_pos rfl, if_pos rfl, if_pos rfl]
                  refine ⟨by rw [K_RA kk]; exact hRAx, LV_K (LV_new hF (by omega)) kk (fun j _ => by simp; omega), rfl⟩
                · rw [if_neg e]; exact hLa.2 l (by omega)
              · have := (I_Ad I).2.1 p hp; omega
              · have := (I_Ad I).2.2.1 r hr; omega
              · dsimp only
                by_cases e : l = nl
                · rw [if_pos e]; omega
                · rw [if_neg e]; have := (I_Ad I).2.2.2 l (by omega); omega
              · omega
              · have := I_mS I; omega
              · unfold Zr
                rw [Z_A kf (by omega) (by decide), Z_A kf (by omega) (by decide)]; exact I_Z I
              · rw [kf.2.1]; exact I.2.2.2.2.2.2.2.2.2.2.2
end addl2
