/-! marks; whole pages; a new law -/
theorem wO_RAs {μ : mM} {a c k : Nat} {T : Tm} (h : isO μ a c T) (v : Value) (j : Nat) : RA (wO μ a k v) j = RA μ j := wO_RA h k v j
section mark
variable {C : Nat × (Nat → Int32)} {μ : mM} {np nr nl ns : Nat} {PA QA LA sh : Nat → Nat}
theorem C_setMark {a p n b : Nat} {as : Int32} {PR KD WD : Nat → Int32} (h : PV μ a p n PR KD WD) (hb : b < n) : ∃ ν, m_D 19 [.ref a, .int (nI b), .int as] μ = some (none, ν) ∧ K [] [(a, 11), (a, 12)] μ ν ∧ FI ν a 11 = (if as = 1 then FI μ a 11 ||| sb b else FI μ a 11 &&& (sb b ^^^ -1)) ∧ FI ν a 12 = (if as = 2 then FI μ a 12 ||| sb b else FI μ a 12 &&& (sb b ^^^ -1)) := by
  have hO := h.1.1
  generalize hY : (if as = 1 then FI μ a 11 ||| sb b else FI μ a 11 &&& (sb b ^^^ -1)) = Y
  generalize hN : (if as = 2 then FI μ a 12 ||| sb b else FI μ a 12 &&& (sb b ^^^ -1)) = N
  have s1 : K [] [(a, 11), (a, 12)] μ (wO μ a 11 (.int Y)) := K_wO (k := 11) hO rfl _ (by simp)
  have p1 := pO (k := 11) hO rfl Y
  have r1 := wO_FIo (k := 11) hO rfl Y
  generalize wO μ a 11 (.int Y) = ν1 at *
  have hO1 := K_isO s1 hO
  have h1 : PV ν1 a p n PR KD WD := PV_K h s1 (fun j _ _ _ => by simp) (by simp)
  have s2 : K [] [(a, 11), (a, 12)] ν1 (wO ν1 a 12 (.int N)) := K_wO (k := 12) hO1 rfl _ (by simp)
  have p2 := pO (k := 12) hO1 rfl N
  have r2 := wO_FIo (k := 12) hO1 rfl N
  generalize wO ν1 a 12 (.int N) = ν2 at *
  have g12 : FI ν1 a 12 = FI μ a 12 := by rw [r1, if_neg (by omega)]
  refine ⟨ν2, ?_, s1.tr s2, by rw [r2, if_neg (by omega), r1, if_pos ⟨rfl, rfl⟩], by rw [r2, if_pos ⟨rfl, rfl⟩]⟩
  by_cases c1 : as = 1
  · have c2 : ¬ as = 2 := by rw [c1]; decide
    rw [if_pos c1] at hY
    rw [if_neg c2] at hN
    simp (disch := first | omega | decide | with_reducible assumption) only [D19, i19_0, i19_1, i19_2, i19_3, i19_4, i19_5, i19_6, i19_7, i19_10, i19_11, i19_14, i19_15, i19_16, i19_19, i19_20, i19_23, i19_24, i19_25, i19_26, i19_27, i19_30, i19_31, i19_32, i19_33, i19_36, i19_37, i19_40, i19_41, i19_42, i19_45, i19_46, i19_49, i19_50, i19_51, i19_52, i19_53, i19_56, sb_def, c1, show ((1 : Int32) = 2) = False from eq_false (by decide), P_fyes h, P_fno h1, g12, hY, hN, p1, p2, b_v_s, b_i_s, b_n_s, b_r_s, b_r_n, b_m_s, b_c_s, b_c_v, if_true, if_false]
  · rw [if_neg c1] at hY
    by_cases c2 : as = 2
    · rw [if_pos c2] at hN
      simp (disch := first | omega | decide | with_reducible assumption) only [D19, i19_0, i19_1, i19_2, i19_3, i19_4, i19_5, i19_6, i19_7, i19_10, i19_11, i19_14, i19_15, i19_16, i19_19, i19_20, i19_23, i19_24, i19_25, i19_26, i19_27, i19_30, i19_31, i19_32, i19_33, i19_36, i19_37, i19_40, i19_41, i19_42, i19_45, i19_46, i19_49, i19_50, i19_51, i19_52, i19_53, i19_56, sb_def, c2, show ((2 : Int32) = 1) = False from eq_false (by decide), P_fyes h, P_fno h1, g12, hY, hN, p1, p2, b_v_s, b_i_s, b_n_s, b_r_s, b_r_n, b_m_s, b_c_s, b_c_v, if_true, if_false]
    · rw [if_neg c2] at hN
      simp (disch := first | omega | decide | with_reducible assumption) only [D19, i19_0, i19_1, i19_2, i19_3, i19_4, i19_5, i19_6, i19_7, i19_10, i19_11, i19_14, i19_15, i19_16, i19_19, i19_20, i19_23, i19_24, i19_25, i19_26, i19_27, i19_30, i19_31, i19_32, i19_33, i19_36, i19_37, i19_40, i19_41, i19_42, i19_45, i19_46, i19_49, i19_50, i19_51, i19_52, i19_53, i19_56, sb_def, c1, c2, P_fyes h, P_fno h1, g12, hY, hN, p1, p2, b_v_s, b_i_s, b_n_s, b_r_s, b_r_n, b_m_s, b_c_s, b_c_v, if_true, if_false]
theorem I_Z (I : INV C μ np nr nl ns PA QA LA sh) : Zr μ np := I.2.2.2.2.2.2.2.2.2.2.1.2.2.2
/-- a set of marks after one box was marked -/
theorem mk_upd {MK : Nat → Int32} {p n b : Nat} {as v : Int32} (hb : b < n) (hn : n ≤ 24) : (if as = v then mk (fun c => decide (MK (24 * p + c) = v)) n ||| sb b else mk (fun c => decide (MK (24 * p + c) = v)) n &&& (sb b ^^^ -1)) = mk (fun c => decide (upd MK (24 * p + b) as (24 * p + c) = v)) n := by
  refine b_ext' fun i hi => ?_
  have hR : bt (mk (fun c => decide (upd MK (24 * p + b) as (24 * p + c) = v)) n) i = true ↔ (i < n ∧ upd MK (24 * p + b) as (24 * p + i) = v) := by
    rw [b_mk _ (by omega), Bool.and_eq_true, decide_eq_true_eq, decide_eq_true_eq]
  rw [hR, upd_at]
  by_cases c : as = v
  · rw [if_pos c, b_or, Bool.or_eq_true, b_mk _ (by omega), Bool.and_eq_true, decide_eq_true_eq, decide_eq_true_eq, bt_sb (by omega)]
    by_cases e : i = b
    · subst e
      rw [if_pos rfl]
      exact ⟨fun _ => ⟨hb, c⟩, fun _ => Or.inr rfl⟩
    · rw [if_neg (by omega)]
      exact ⟨fun z => z.elim id (fun z => absurd z e), fun z => Or.inl z⟩
  · rw [if_neg c, b_and, Bool.and_eq_true, b_mk _ (by omega), Bool.and_eq_true, decide_eq_true_eq, decide_eq_true_eq, b_xor, b_m1 i hi, b_sb (by omega)]
    by_cases e : i = b
    · subst e
      rw [if_pos rfl, decide_eq_true rfl]
      exact ⟨fun z => absurd z.2 (by decide), fun z => absurd z.2 c⟩
    · rw [if_neg (by omega), decide_eq_false e]
      exact ⟨fun z => z.1, fun z => ⟨z, rfl⟩⟩
/-- the state after marks of page p, or its being whole, have changed on both sides -/
theorem INV_marks {ν : mM} {p : Nat} {Y : List (Nat × Nat)} (I : INV C μ np nr nl ns PA QA LA sh) (hp : p < np) (k : K [24, 25] Y μ ν) (hY : ∀ y ∈ Y, y = (PA p, 11) ∨ y = (PA p, 12) ∨ y = (PA p, 13) ∨ y = (0, 11)) (h0 : FI ν 0 11 = 0) (hm : PMk ν (PA p) p (bnn (A μ 20) p) (A ν 24) (A ν 25)) (ho : ∀ q, q < np → q ≠ p → (∀ b, b < 24 → A ν 24 (24 * q + b) = A μ 24 (24 * q + b)) ∧ A ν 25 q = A μ 25 q) (hZ : Zr ν np) : INV C ν np nr nl ns PA QA LA sh := by
  have hA := I_A I
  have e20 := K_A k (a := 20) (by decide)
  have e21 := K_A k (a := 21) (by decide)
  have e22 := K_A k (a := 22) (by decide)
  have e23 := K_A k (a := 23) (by decide)
  refine INV_K3 I k (fun a ha => ?_) (fun y hy => ?_) ?_ (Or.inl h0) hZ
  · simp only [List.mem_cons, List.mem_nil_iff, or_false] at ha
    exact ha.elim (fun z => Or.inr (Or.inr (Or.inl z))) (fun z => Or.inr (Or.inr (Or.inr (Or.inl z))))
  · rcases hY y hy with z | z | z | z
    · rw [z]; exact Or.inr (Or.inr (Or.inr ⟨p, hp, rfl, Nat.le_of_ble_eq_true rfl⟩))
    · rw [z]; exact Or.inr (Or.inr (Or.inr ⟨p, hp, rfl, Nat.le_of_ble_eq_true rfl⟩))
    · rw [z]; exact Or.inr (Or.inr (Or.inr ⟨p, hp, rfl, Nat.le_of_ble_eq_true rfl⟩))
    · exact Or.inr (Or.inr (Or.inl z))
  · rw [e20, e21, e22, e23]
    have V := I_V I
    refine ⟨V.1, K_isR k V.2.1, fun q hq => ?_⟩
    obtain ⟨g1, g2, g3, g4⟩ := V.2.2 q hq
    have hq48 := (hA q hq).1
    have ny : ∀ j, j ≠ 11 → j ≠ 12 → j ≠ 13 → (PA q, j) ∉ Y := fun j h1 h2 h3 z => by
      rcases hY _ z with z | z | z | z <;> injection z with z1 z2
      · exact h1 z2
      · exact h2 z2
      · exact h3 z2
      · omega
    refine ⟨by rw [K_RA k]; exact g1, PV_K g2 k (fun j _ _ _ => by simp; omega) ⟨ny 0 (by decide) (by decide) (by decide), ny 9 (by decide) (by decide) (by decide), ny 10 (by decide) (by decide) (by decide)⟩, ?_, DRN_K g4 k (by simp; omega) (ny 15 (by decide) (by decide) (by decide))⟩
    by_cases e : q = p
    · subst e; exact hm
    · obtain ⟨o1, o2⟩ := ho q hq e
      have hd := (hA q hq).2 p hp e
      have nY : ∀ j, (PA q, j) ∉ Y := fun j z => by
        rcases hY _ z with z | z | z | z <;> injection z with z1 z2 <;> omega
      obtain ⟨m1, m2, m3, m4, m5⟩ := g3
      have hn := PV_n g2
      unfold PMk
      rw [K_FI k (nY 11), K_FI k (nY 12), K_FI k (nY 13), o2]
      refine ⟨m1.trans (mk_congr fun i hi => by rw [o1 i (by omega)]), m2.trans (mk_congr fun i hi => by rw [o1 i (by omega)]), m3, m4, fun b hb => by rw [o1 b (by omega)]; exact m5 b hb⟩
set_option maxHeartbeats 2000000 in
theorem call_mark (x y z : Int32) : CallOK C 75 132 [.int x, .int y, .int z] := by
  rintro μ ⟨np, nr, nl, ns, PA, QA, LA, sh, I⟩
  have hC := I_C I
  have hoC := CV_oc hC
  have hM := I_M I
  have hoM := oM_oc hM
  cases hx : inR x np with
  | false =>
    refine ⟨(-101), μ, μ, ?_, ?_, I_ok I⟩
    · simp (disch := first | omega | decide | with_reducible assumption) only [D75, i75_0, i75_1, i75_2, i75_5, i75_5N, i75_7, i75_7N, i75_9, i75_9N, i75_12, i75_12N, i75_14, i75_15, i75_18, i75_21, i75_23, C_pageAtN I hx, b_v_s, b_i_s, b_n_s, b_r_s, b_r_n, b_m_s, b_c_s, b_c_v]
    · simp (disch := first | omega | decide | with_reducible assumption) only [D132, i132_0, i132_1, i132_2, i132_3, i132_6, i132_9, i132_11, E_isBoxN I hx, b_v_s, b_i_s, b_n_s, b_r_s, b_r_n, b_m_s, b_c_s, b_c_v, if_true]
  | true =>
    obtain ⟨p, hp, rfl⟩ := inR_nI hx
    obtain ⟨h8, hb, h1, h24, hw, hww, hv, hPA⟩ := I_pg I hp
    have hoP := P_oc hv
    have hhas := C_has (x := y) hv
    have hib := E_isBox (b := y) I hp
    cases hy : inR y (bnn (A μ 20) p) with
    | false =>
      rw [hy] at hib hhas
      refine ⟨(-101), μ, μ, ?_, ?_, I_ok I⟩
      · simp (disch := first | omega | decide | with_reducible assumption) only [D75, i75_0, i75_1, i75_2, i75_5, i75_5N, i75_7, i75_7N, i75_9, i75_9N, i75_12, i75_12N, i75_14, i75_15, i75_18, i75_21, i75_23, C_pageAt I hp, hhas, bI_0, b_v_s, b_i_s, b_n_s, b_r_s, b_r_n, b_m_s, b_c_s, b_c_v, if_true]
      · simp (disch := first | omega | decide | with_reducible assumption) only [D132, i132_0, i132_1, i132_2, i132_3, i132_6, i132_9, i132_11, hib, bI_0, b_v_s, b_i_s, b_n_s, b_r_s, b_r_n, b_m_s, b_c_s, b_c_v, if_true]
    | true =>
      rw [hy] at hib hhas
      obtain ⟨b, hbn, rfl⟩ := inR_nI hy
      have i2 : ∀ ν : mM, m_D 102 [.long z.toInt64, .long 0, .long 2] ν = some (some (.int (bI (inR z 3))), ν) := fun ν => in_R (k := 2) (by decide)
      cases hz : inR z 3 with
      | false =>
        rw [hz] at i2
        refine ⟨(-102), μ, μ, ?_, ?_, I_ok I⟩
        · by_cases d1 : z < 0
          · simp (disch := first | omega | decide | with_reducible assumption) only [D75, i75_0, i75_1, i75_2, i75_5, i75_5N, i75_7, i75_7N, i75_9, i75_9N, i75_12, i75_12N, i75_14, i75_15, i75_18, i75_21, i75_23, i75_24, i75_25, i75_28, i75_29, i75_30, i75_33, i75_35, C_pageAt I hp, hhas, bI_0, Bool.true_eq_false, d1, b_v_s, b_i_s, b_n_s, b_r_s, b_r_n, b_m_s, b_c_s, b_c_v, if_true, if_false]
          · have d2 : (2 : Int32) < z := by
              unfold inR at hz
              rw [decide_eq_false_iff_not] at hz
              rw [Int32.lt_iff_toInt_lt, show (0 : Int32).toInt = 0 by decide] at d1
              rw [Int32.lt_iff_toInt_lt, show (2 : Int32).toInt = 2 by decide]
              omega
            simp (disch := first | omega | decide | with_reducible assumption) only [D75, i75_0, i75_1, i75_2, i75_5, i75_5N, i75_7, i75_7N, i75_9, i75_9N, i75_12, i75_12N, i75_14, i75_15, i75_18, i75_21, i75_23, i75_24, i75_25, i75_28, i75_29, i75_30, i75_33, i75_35, C_pageAt I hp, hhas, bI_0, Bool.true_eq_false, d1, d2, b_v_s, b_i_s, b_n_s, b_r_s, b_r_n, b_m_s, b_c_s, b_c_v, if_true, if_false]
        · simp (disch := first | omega | decide | with_reducible assumption) only [D132, i132_0, i132_1, i132_2, i132_3, i132_6, i132_9, i132_11, i132_12, i132_13, i132_14, i132_15, i132_18, i132_21, i132_24, i132_26, hib, i2 μ, bI_0, Bool.true_eq_false, b_v_s, b_i_s, b_n_s, b_r_s, b_r_n, b_m_s, b_c_s, b_c_v, if_true, if_false]
      | true =>
        rw [hz] at i2
        obtain ⟨t, ht, rfl⟩ := inR_nI hz
        have pm := ((I_V I).2.2 p hp).2.2.1
        have hmk := C_markOf hv pm hbn
        obtain ⟨ν1, e1, s1, f11, f12⟩ := C_setMark (as := nI t) hv hbn
        have hC1 := CV_K hC s1
        have cs1 : K [] [(0, 11)] ν1 (wO ν1 0 11 (.int (bI false))) := K_wO (k := 11) (CV_o hC1) rfl _ (by simp)
        have cp1 := pOb (k := 11) (CV_o hC1) rfl false
        have cr1 := wO_FIo (k := 11) (CV_o hC1) rfl (bI false)
        have cu1 := wO_A (CV_o hC1) 11 (.int (bI false))
        generalize wO ν1 0 11 (.int (bI false)) = cm1 at cs1 cp1 cr1 cu1
        rw [bI_f] at cp1 cr1
        have cV1 := CV_K hC1 cs1
        have k1 : K [24, 25] [(PA p, 11), (PA p, 12), (0, 11)] μ cm1 := (s1.mono (by simp) (by simp)).tr (cs1.mono (by simp) (by simp))
        have hM1 := MS_K hM k1
        have hbox : m_D 106 [.ref 19, .int (nI p), .int (nI b)] cm1 = some (some (.int 1), cm1) := by
          have ho1 := oM_oc hM1
          have m0 : FI cm1 19 0 = nI np := by rw [K_FI k1 (by simp)]; exact I.2.2.1.1
          have e1 := E_isPage (x := nI p) hM1 m0 (by have := I_np I; omega)
          rw [inR_of hp (by have := I_np I; omega)] at e1
          have b20 : A cm1 20 p = nI (bnn (A μ 20) p) := by rw [K_A k1 (by decide)]; exact hb
          have e2 : m_D 102 [.long (nI b).toInt64, .long 0, .long (nI (bnn (A μ 20) p - 1)).toInt64] cm1 = some (some (.int (bI (inR (nI b) (bnn (A μ 20) p - 1 + 1)))), cm1) := in_R (by rw [toInt_i2l, nI_toInt (by omega)])
          rw [show bnn (A μ 20) p - 1 + 1 = bnn (A μ 20) p by omega, hy] at e2
          simp (disch := first | omega | decide | with_reducible assumption) only [D106, i106_0, i106_1, i106_2, i106_5, i106_8, i106_9, i106_10, i106_11, i106_12, i106_15, i106_16, i106_17, i106_18, i106_19, i106_20, i106_23, i106_26, i106_27, i106_30, i106_31, e1, bI_0, Bool.true_eq_false, gM1 hM1, ga_A (aM20 hM1), b20, nI_sub1, e2, b_v_s, b_i_s, b_n_s, b_r_s, b_r_n, b_m_s, b_c_s, b_c_v, if_false, ne10, bI_t]
        have e24 : A cm1 24 = A μ 24 := by rw [cu1, K_A s1 (by simp)]
        have e25 : A cm1 25 = A μ 25 := by rw [cu1, K_A s1 (by simp)]
        have hidx : 24 * p + b < 192 := by omega
        have ho1 := oM_oc hM1
        have ds1 : K [24] [] cm1 (wA cm1 24 (upd (A cm1 24) (24 * p + b) (nI t))) := K_wA (aM24 hM1) _ (by simp)
        have dp1 := pa_A (x := nI t) (k := 24 * p + b) (aM24 hM1) hidx (by decide)
        have dr1 := wA_FI (aM24 hM1) (upd (A cm1 24) (24 * p + b) (nI t))
        have du1 := wA_A (aM24 hM1) (upd (A cm1 24) (24 * p + b) (nI t))
        generalize wA cm1 24 (upd (A cm1 24) (24 * p + b) (nI t)) = dm1 at ds1 dp1 dr1 du1
        have dV1 := MS_K hM1 ds1
        have g24 := ga_A (k := 24 * p + b) (aM24 hM1) hidx (by decide)
        rw [e24] at g24
        have kk : K [24, 25] [(PA p, 11), (PA p, 12), (0, 11)] μ dm1 := k1.tr (ds1.mono (by simp) (by simp))
        have m24 : A dm1 24 = upd (A μ 24) (24 * p + b) (nI t) := by rw [du1, if_pos rfl, e24]
        have m25 : A dm1 25 = A μ 25 := by rw [du1, if_neg (by decide), e25]
        refine ⟨(A μ 24 (24 * p + b)), cm1, dm1, ?_, ?_, I_ok (INV_marks I hp kk (fun y hy => ?_) ?_ ?_ (fun q hq hqp => ?_) ⟨fun i h1 h2 => ?_, fun q h1 h2 => ?_⟩)⟩
        · simp (disch := first | omega | decide | with_reducible assumption) only [D75, i75_0, i75_1, i75_2, i75_5, i75_5N, i75_7, i75_7N, i75_9, i75_9N, i75_12, i75_12N, i75_14, i75_15, i75_18, i75_21, i75_23, i75_24, i75_25, i75_28, i75_29, i75_30, i75_33, i75_35, i75_36, i75_36N, i75_38, i75_39, i75_42, i75_44, i75_44N, i75_46, i75_47, i75_48, i75_51, i75_52, i75_53, i75_56, i75_58, C_pageAt I hp, hhas, bI_0, Bool.true_eq_false, nI_lt0, n2, lt_f, hmk, e1, cp1, b_v_s, b_i_s, b_n_s, b_r_s, b_r_n, b_m_s, b_c_s, b_c_v, if_true, if_false]
        · simp (disch := first | omega | decide | with_reducible assumption) only [D132, i132_0, i132_1, i132_2, i132_3, i132_6, i132_9, i132_11, i132_12, i132_13, i132_14, i132_15, i132_18, i132_21, i132_24, i132_26, i132_27, i132_28, i132_31, i132_33, i132_34, i132_35, i132_36, i132_37, i132_38, i132_40, i132_41, i132_44, i132_46, i132_47, i132_48, i132_49, i132_50, i132_51, i132_52, i132_54, hbox, i2 cm1, bI_0, Bool.true_eq_false, ne10, gM5 hM1, k24, g24, dp1, b_v_s, b_i_s, b_n_s, b_r_s, b_r_n, b_m_s, b_c_s, b_c_v, if_true, if_false]
        · simp only [List.mem_cons, List.mem_nil_iff, or_false] at hy
          exact hy.elim Or.inl (fun z => z.elim (fun z => Or.inr (Or.inl z)) (fun z => Or.inr (Or.inr (Or.inr z))))
        · rw [dr1, cr1, if_pos ⟨rfl, rfl⟩]
        · have n0 : ∀ j, FI dm1 (PA p) j = FI ν1 (PA p) j := fun j => by rw [dr1, cr1, if_neg (by omega)]
          obtain ⟨q1, q2, q3, q4, q5⟩ := pm
          unfold PMk
          rw [n0 11, n0 12, n0 13, f11, f12, q1, q2, m24, m25]
          refine ⟨mk_upd hbn h24, mk_upd hbn h24, ?_, q4, fun c hc => ?_⟩
          · rw [K_FI s1 (by simp)]; exact q3
          · rw [upd_at]
            by_cases e : 24 * p + c = 24 * p + b
            · rw [if_pos e]
              rcases (show t = 0 ∨ t = 1 ∨ t = 2 by omega) with rfl | rfl | rfl
              · exact Or.inl rfl
              · exact Or.inr (Or.inl rfl)
              · exact Or.inr (Or.inr rfl)
            · rw [if_neg e]; exact q5 c hc
        · refine ⟨fun c hc => ?_, by rw [m25]⟩
          rw [m24, upd_at, if_neg (by omega)]
        · rw [m24, upd_at, if_neg (by omega)]; exact (I_Z I).1 i h1 h2
        · rw [m25]; exact (I_Z I).2 q h1 h2
theorem call_whole (x : Int32) (bb : Bool) : CallOK C 76 133 [.int x, .int (bI bb)] := by
  rintro μ ⟨np, nr, nl, ns, PA, QA, LA, sh, I⟩
  have hC := I_C I
  have hoC := CV_oc hC
  have hM := I_M I
  have hoM := oM_oc hM
  have hx' := I_isPage I x
  cases hx : inR x np with
  | false =>
    rw [hx] at hx'
    refine ⟨(-101), μ, μ, ?_, ?_, I_ok I⟩
    · simp (disch := first | omega | decide | with_reducible assumption) only [D76, i76_0, i76_1, i76_2, i76_5, i76_5N, i76_6, i76_6N, i76_7, i76_7N, i76_10, i76_12, C_pageAtN I hx, b_v_s, b_i_s, b_n_s, b_r_s, b_r_n, b_m_s, b_c_s, b_c_v]
    · simp (disch := first | omega | decide | with_reducible assumption) only [D133, i133_0, i133_1, i133_2, i133_5, i133_8, i133_10, hx', bI_0, b_v_s, b_i_s, b_n_s, b_r_s, b_r_n, b_m_s, b_c_s, b_c_v, if_true]
  | true =>
    obtain ⟨p, hp, rfl⟩ := inR_nI hx
    obtain ⟨h8, hb, h1, h24, hw, hww, hv, hPA⟩ := I_pg I hp
    obtain ⟨q1, q2, q3, q4, q5⟩ := ((I_V I).2.2 p hp).2.2.1
    have hO := hv.1.1
    have s1 : K [] [(PA p, 13)] μ (wO μ (PA p) 13 (.int (bI bb))) := K_wO (k := 13) hO rfl _ (by simp)
    have p1 := pOb (k := 13) hO rfl bb
    have r1 := wO_FIo (k := 13) hO rfl (bI bb)
    have u1 := wO_A hO 13 (.int (bI bb))
    generalize wO μ (PA p) 13 (.int (bI bb)) = ν1 at *
    have hC1 := CV_K hC s1
    have cs1 : K [] [(0, 11)] ν1 (wO ν1 0 11 (.int (bI false))) := K_wO (k := 11) (CV_o hC1) rfl _ (by simp)
    have cp1 := pOb (k := 11) (CV_o hC1) rfl false
    have cr1 := wO_FIo (k := 11) (CV_o hC1) rfl (bI false)
    have cu1 := wO_A (CV_o hC1) 11 (.int (bI false))
    generalize wO ν1 0 11 (.int (bI false)) = cm1 at cs1 cp1 cr1 cu1
    rw [bI_f] at cp1 cr1
    have cV1 := CV_K hC1 cs1
    have k1 : K [24, 25] [(PA p, 13), (0, 11)] μ cm1 := (s1.mono (by simp) (by simp)).tr (cs1.mono (by simp) (by simp))
    have hM1 := MS_K hM k1
    have ho1 := oM_oc hM1
    have m0 : FI cm1 19 0 = nI np := by rw [K_FI k1 (by simp)]; exact I.2.2.1.1
    have ep := E_isPage (x := nI p) hM1 m0 (by have := I_np I; omega)
    rw [hx] at ep
    have e24 : A cm1 24 = A μ 24 := by rw [cu1, u1]
    have e25 : A cm1 25 = A μ 25 := by rw [cu1, u1]
    have g25 := gb_A (k := p) (aM25 hM1) (Or.inl rfl) h8 (by decide)
    rw [e25] at g25
    have pb := pb_A (k := p) (x := bI bb) (aM25 hM1) h8 (by decide)
    rw [bI_and, e25] at pb
    have s2 : K [24, 25] [(PA p, 13), (0, 11)] cm1 (wA cm1 25 (upd (A μ 25) p (bI bb))) := K_wA (aM25 hM1) _ (by simp)
    have u2 := wA_A (aM25 hM1) (upd (A μ 25) p (bI bb))
    have r2 := wA_FI (aM25 hM1) (upd (A μ 25) p (bI bb))
    generalize wA cm1 25 (upd (A μ 25) p (bI bb)) = ν2 at *
    have m24 : A ν2 24 = A μ 24 := by rw [u2, if_neg (by decide), e24]
    have m25 : A ν2 25 = upd (A μ 25) p (bI bb) := by rw [u2, if_pos rfl]
    have n0 : ∀ j, j ≠ 13 → FI ν2 (PA p) j = FI μ (PA p) j := fun j hj => by rw [r2, cr1, if_neg (by omega), r1, if_neg (by omega)]
    have fin : INV C ν2 np nr nl ns PA QA LA sh := INV_marks I hp (k1.tr s2) (fun y hy => by
        simp only [List.mem_cons, List.mem_nil_iff, or_false] at hy
        exact hy.elim (fun z => Or.inr (Or.inr (Or.inl z))) (fun z => Or.inr (Or.inr (Or.inr z)))) (by rw [r2, cr1, if_pos ⟨rfl, rfl⟩]) (by
        unfold PMk
        rw [n0 11 (by decide), n0 12 (by decide), m24, m25]
        refine ⟨q1, q2, by rw [r2, cr1, if_neg (by omega), r1, if_pos ⟨rfl, rfl⟩, upd_at, if_pos rfl], ?_, q5⟩
        rw [upd_at, if_pos rfl]
        cases bb
        · exact Or.inl rfl
        · exact Or.inr rfl) (fun q hq hqp => ⟨fun c _ => by rw [m24], by rw [m25, upd_at, if_neg hqp]⟩) ⟨fun i h1 h2 => by rw [m24]; exact (I_Z I).1 i h1 h2, fun q h1 h2 => by rw [m25, upd_at, if_neg (by omega)]; exact (I_Z I).2 q h1 h2⟩
    have f13 : FI μ (PA p) 13 = A μ 25 p := q3
    rcases q4 with w0 | w1
    · refine ⟨0, cm1, ν2, ?_, ?_, I_ok fin⟩
      · rw [w0] at f13
        simp (disch := first | omega | decide | with_reducible assumption) only [D76, i76_0, i76_1, i76_2, i76_5, i76_5N, i76_6, i76_6N, i76_7, i76_7N, i76_10, i76_12, i76_13, i76_13N, i76_14, i76_17, i76_20, i76_21, i76_24, i76_25, i76_27, i76_27N, i76_28, i76_29, i76_32, i76_33, i76_34, i76_37, i76_39, C_pageAt I hp, P_fisWhole hv, f13, p1, cp1, b_v_s, b_i_s, b_n_s, b_r_s, b_r_n, b_m_s, b_c_s, b_c_v, if_true]
      · rw [w0] at g25
        simp (disch := first | omega | decide | with_reducible assumption) only [D133, i133_0, i133_1, i133_2, i133_5, i133_8, i133_10, i133_11, i133_12, i133_15, i133_16, i133_17, i133_20, i133_21, i133_24, i133_25, i133_26, i133_27, i133_30, i133_31, i133_32, i133_33, i133_34, ep, bI_0, Bool.true_eq_false, gM6 hM1, g25, pb, b_v_s, b_i_s, b_n_s, b_r_s, b_r_n, b_m_s, b_c_s, b_c_v, if_true, if_false]
    · refine ⟨1, cm1, ν2, ?_, ?_, I_ok fin⟩
      · rw [w1] at f13
        simp (disch := first | omega | decide | with_reducible assumption) only [D76, i76_0, i76_1, i76_2, i76_5, i76_5N, i76_6, i76_6N, i76_7, i76_7N, i76_10, i76_12, i76_13, i76_13N, i76_14, i76_17, i76_20, i76_21, i76_24, i76_25, i76_27, i76_27N, i76_28, i76_29, i76_32, i76_33, i76_34, i76_37, i76_39, C_pageAt I hp, P_fisWhole hv, f13, ne10, p1, cp1, b_v_s, b_i_s, b_n_s, b_r_s, b_r_n, b_m_s, b_c_s, b_c_v, if_false]
      · rw [w1] at g25
        simp (disch := first | omega | decide | with_reducible assumption) only [D133, i133_0, i133_1, i133_2, i133_5, i133_8, i133_10, i133_11, i133_12, i133_15, i133_16, i133_17, i133_20, i133_21, i133_24, i133_25, i133_26, i133_27, i133_30, i133_31, i133_32, i133_33, i133_34, ep, bI_0, Bool.true_eq_false, ne10, gM6 hM1, g25, pb, b_v_s, b_i_s, b_n_s, b_r_s, b_r_n, b_m_s, b_c_s, b_c_v, if_false]
end mark
