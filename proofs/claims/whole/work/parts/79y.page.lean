section addp2
variable {C : Nat × (Nat → Int32)}
set_option maxHeartbeats 8000000 in
theorem call_page : CallOK C 64 115 [] := by
  rintro μ ⟨np, nr, nl, ns, PA, QA, LA, sh, I⟩
  have hC := I_C I
  have hoC := CV_oc hC
  have hM := I_M I
  have hoM := oM_oc hM
  have hnl := I_nl I
  have hnp := I_np I
  have hnr := I_nr I
  obtain ⟨ν1, e1, k1, f1⟩ := C_sirP hC I.2.1.2.1 I.2.2.2.1.1
  have J := INV_K I k1 (by decide) (by decide)
  have hC1 := I_C J
  have hM1 := I_M J
  have hoC1 := CV_oc hC1
  have hoM1 := oM_oc hM1
  have hle := flP_le sh ns 0 iniP
  have h90 := J.2.2.2.1.1.1
  have goC : m_D 64 [.ref 0] μ = m_G 64 8 [.ref 0] [.int (bI (okP sh ns))] ν1 := by
    simp (disch := first | omega | decide | with_reducible assumption) only [D64, i64_0, i64_1, i64_2, i64_5, gC8 hC, e1, b_v_s, b_i_s, b_n_s, b_r_s, b_r_n, b_m_s, b_c_s, b_c_v]
  have goM : ∀ ν ξ : mM, ∀ s', (flP sh ns 0 iniP).2 = some s' → m_oc ν 19 = some 9 → MS ξ → m_D 113 [.ref 19, .int 0] ν = some (some (.int (nI (flP sh ns 0 iniP).1)), ξ) → FI ξ 19 8 = nI ns → RM ξ s' → m_D 115 [.ref 19] ν = if okP sh ns = true then m_G 115 30 [.ref 19, .retAddr 1] [] ξ else some (some (.int (-103)), ξ) := fun ν ξ s' hfl ho hM2 e2 g8 hr => by
    have h1 : (flP sh ns 0 iniP).1 = ns := by
      have z : ¬ (flP sh ns 0 iniP).2 = none := by rw [hfl]; intro q; cases q
      have z2 : ¬ (flP sh ns 0 iniP).1 < 0 + ns := fun q => z (hle.2.mpr q)
      omega
    have pi := flP_PI sh ns 0 iniP s' PI_ini hfl
    have h24 := pi.2.1
    have h4 := pi.1
    obtain ⟨t1, t2, t3, t4⟩ := hr
    rw [h1] at e2
    have r2' := cI_mz (o := s'.2.2.1) (fun k hk => by have := pi.2.2.2.2.2.1 k hk; omega)
    have z9 : (nI s'.1 = (0 : Int32)) = (s'.1 = 0) := nI_eqE (by omega) (by decide)
    unfold okP
    rw [hfl]
    dsimp only
    by_cases d0 : s'.1 = 0
    · have nok : ¬ (decide (0 < s'.2.1) && decide (s'.2.2.1 = none)) = true := by
        rw [Bool.and_eq_true, decide_eq_true_eq, decide_eq_true_eq]
        rintro ⟨q1, q2⟩
        have := (pi.2.2.2.1 d0 q1).1
        rw [q2] at this
        cases this
      rw [if_neg nok]
      simp (disch := first | omega | decide | with_reducible assumption) only [D115, i115_0, i115_1, i115_2, i115_5, i115_6, i115_9, i115_12, i115_13, i115_16, i115_19, i115_20, i115_23, i115_24, i115_27, i115_29, e2, gM8 hM2, g8, lt_f, gM9 hM2, t1, z9, eq_true d0, b_v_s, b_i_s, b_n_s, b_r_s, b_r_n, b_m_s, b_c_s, b_c_v, if_true, if_false]
    · have q0 := pi.2.2.1 d0
      by_cases d2 : s'.2.2.1 = none
      · rw [if_pos (by rw [Bool.and_eq_true, decide_eq_true_eq, decide_eq_true_eq]; exact ⟨q0, d2⟩)]
        simp (disch := first | omega | decide | with_reducible assumption) only [D115, i115_0, i115_1, i115_2, i115_5, i115_6, i115_9, i115_12, i115_13, i115_16, i115_19, i115_20, i115_23, i115_24, i115_27, i115_29, e2, gM8 hM2, g8, lt_f, gM9 hM2, t1, z9, eq_false d0, gM14 hM2, t3, r2', eq_true d2, b_v_s, b_i_s, b_n_s, b_r_s, b_r_n, b_m_s, b_c_s, b_c_v, if_true, if_false]
      · rw [if_neg (by rw [Bool.and_eq_true, decide_eq_true_eq, decide_eq_true_eq]; exact fun z => d2 z.2)]
        simp (disch := first | omega | decide | with_reducible assumption) only [D115, i115_0, i115_1, i115_2, i115_5, i115_6, i115_9, i115_12, i115_13, i115_16, i115_19, i115_20, i115_23, i115_24, i115_27, i115_29, e2, gM8 hM2, g8, lt_f, gM9 hM2, t1, z9, eq_false d0, gM14 hM2, t3, r2', eq_false d2, b_v_s, b_i_s, b_n_s, b_r_s, b_r_n, b_m_s, b_c_s, b_c_v, if_false]
  cases hok : okP sh ns with
  | false =>
    rw [hok] at goC
    obtain ⟨ξ1, e2, k2, f2⟩ := E_faultP hM1 J.2.2.2.1.2
    have hM2 := MS_K hM1 k2
    have g8 : FI ξ1 19 8 = nI ns := by rw [K_FI k2 (by decide)]; exact J.2.2.2.1.2.2.1
    refine ⟨(-103), ν1, ξ1, ?_, ?_, I_ok (INV_K J k2 (by decide) (by decide))⟩
    · rw [goC]
      simp (disch := first | omega | decide | with_reducible assumption) only [i64_8, i64_11, i64_13, bI_0, if_true]
    · cases hfl : (flP sh ns 0 iniP).2 with
      | none =>
        have : (flP sh ns 0 iniP).1 < ns := by have := hle.2.mp hfl; omega
        simp (disch := first | omega | decide | with_reducible assumption) only [D115, i115_0, i115_1, i115_2, i115_5, i115_6, i115_9, i115_12, i115_13, i115_16, i115_19, i115_20, i115_23, i115_24, i115_27, i115_29, e2, gM8 hM2, g8, lt_t, b_v_s, b_i_s, b_n_s, b_r_s, b_r_n, b_m_s, b_c_s, b_c_v, if_true]
      | some s' =>
        rw [goM ν1 ξ1 s' hfl hoM1 hM2 e2 g8 (f2 s' hfl), hok, if_neg (by decide)]
  | true =>
    rw [hok] at goC
    obtain ⟨s', hfl, hs0, hs2⟩ : ∃ s', (flP sh ns 0 iniP).2 = some s' ∧ 0 < s'.2.1 ∧ s'.2.2.1 = none := by
      unfold okP at hok
      cases hfl : (flP sh ns 0 iniP).2 with
      | none => rw [hfl] at hok; cases hok
      | some s' =>
        rw [hfl] at hok
        dsimp only at hok
        rw [Bool.and_eq_true, decide_eq_true_eq, decide_eq_true_eq] at hok
        exact ⟨s', rfl, hok.1, hok.2⟩
    have pi := flP_PI sh ns 0 iniP s' PI_ini hfl
    have hn := pi.2.1
    have c3 : FI ν1 0 3 = nI np := J.2.2.1.2.2.2.1
    by_cases hfull : np = 8
    · subst hfull
      obtain ⟨ξ1, e2, k2, f2⟩ := E_faultP hM1 J.2.2.2.1.2
      have hM2 := MS_K hM1 k2
      have g8 : FI ξ1 19 8 = nI ns := by rw [K_FI k2 (by decide)]; exact J.2.2.2.1.2.2.1
      have g0 : FI ξ1 19 0 = nI 8 := by rw [K_FI k2 (by decide)]; exact J.2.2.1.1
      refine ⟨(-104), ν1, ξ1, ?_, ?_, I_ok (INV_K J k2 (by decide) (by decide))⟩
      · rw [goC]
        simp (disch := first | omega | decide | with_reducible assumption) only [i64_8, i64_11, i64_13, i64_14, i64_15, i64_18, i64_20, i64_23, i64_25, bI_0, Bool.true_eq_false, gC3 hC1, c3, n8', lt_f, b_v_s, b_i_s, b_n_s, b_r_s, b_r_n, b_m_s, b_c_s, b_c_v, if_false]
      · rw [goM ν1 ξ1 s' hfl hoM1 hM2 e2 g8 (f2 s' hfl), hok, if_pos rfl]
        simp (disch := first | omega | decide | with_reducible assumption) only [i115_30, i115_31, i115_34, i115_36, i115_39, i115_41, gM0 hM2, g0, n8', b_v_s, b_i_s, b_n_s, b_r_s, b_r_n, b_m_s, b_c_s, b_c_v, if_true]
    · have hl8 : np < 8 := by omega
      have hNA := I_NA J
      have hmN := I_mN J
      obtain ⟨r1, r2, r3, r4, r5, r6⟩ := f1 s' hfl
      obtain ⟨_, _, _, _, _, _, pk, pw, _, _, pp0, pp⟩ := pi
      -- the rows as they will be
      have ov : ∀ (f g : Nat → Int32) c, c < s'.2.1 → ovl f g (24 * np) s'.2.1 (24 * np + c) = g c := fun f g c hc => by
        unfold ovl
        rw [if_pos (by omega), show 24 * np + c - 24 * np = c by omega]
      have oo : ∀ (f g : Nat → Int32) q c, q < np → c < 24 → ovl f g (24 * np) s'.2.1 (24 * q + c) = f (24 * q + c) := fun f g q c hq hc => by
        unfold ovl
        rw [if_neg (by omega)]
      have uP : ∀ c, 0 < c → c < s'.2.1 → ovl (A ν1 23) s'.2.2.2.2.2 (24 * np) s'.2.1 (24 * np + c) = nI (up (ovl (A ν1 23) s'.2.2.2.2.2 (24 * np) s'.2.1) np c) ∧ up (ovl (A ν1 23) s'.2.2.2.2.2 (24 * np) s'.2.1) np c < c := fun c h0 hc => by
        obtain ⟨u, u1, u2⟩ := pp c h0 hc
        unfold up
        rw [ov _ _ c hc, u2, nI_clamp (by omega)]
        exact ⟨rfl, u1⟩
      have hw : PW (ovl (A ν1 23) s'.2.2.2.2.2 (24 * np) s'.2.1) np s'.2.1 := ⟨by have := ov (A ν1 23) s'.2.2.2.2.2 0 hs0; rw [Nat.add_zero] at this; rw [this]; exact pp0 hs0, uP⟩
      have hww : WW (ovl (A ν1 22) s'.2.2.2.2.1 (24 * np) s'.2.1) np s'.2.1 := fun b hb => by rw [ov _ _ b hb]; exact pw b hb
      have hkw : KW (ovl (A ν1 21) s'.2.2.2.1 (24 * np) s'.2.1) np s'.2.1 := fun b hb => by rw [ov _ _ b hb]; exact pk b hb
      have hnw := new_ext hNA 16 (m_ob 3 [.int 0, .null, .null, .null, .null, .null, .null, .null, .null, .int 0, .int 0, .int 0, .int 0, .int 0, .null, .int 0])
      have g8' : m_gf (ext ν1 16 [m_ob 3 [.int 0, .null, .null, .null, .null, .null, .null, .null, .null, .int 0, .int 0, .int 0, .int 0, .int 0, .null, .int 0]]) 0 8 8 = some (.ref 5) := by rw [gf_old (by omega)]; exact gC8 hC1
      obtain ⟨ν2, e2, kz2, hV2, ⟨F11, F12, F13, F15⟩, hNA2, hN2, hS2⟩ := P_new (p := np) hNA J.2.1.2.1 (by omega) r1 hs0 hn hw hww hkw (fun b hb => by rw [ov _ _ b hb, ov _ _ b hb, ov _ _ b hb]; exact r6 b hb)
      have hR2 : isR ν2 2 3 8 := kz2.1.2.2 _ _ _ (I_V J).2.1
      have pr := pr_any (i := np) (v := mN ν1) hR2 hV2.1.1 hl8 (by decide)
      have kz3 : KZ [] [] [(2, np)] ν2 (wR ν2 2 np (mN ν1)) := KZ_wR hR2 np (mN ν1) (by simp)
      have hNw := wR_N hR2 np (mN ν1)
      have hNA3 := wR_NA hR2 np (mN ν1) hNA2
      have hRA3 : RA (wR ν2 2 np (mN ν1)) 2 np = some (mN ν1) := by rw [wR_RA hR2, if_pos ⟨rfl, rfl⟩]
      generalize wR ν2 2 np (mN ν1) = ξ at *
      have kz : KZ [] [] [(2, np)] ν1 ξ := (kz2.mono (by simp) (by simp) (by simp)).tr kz3
      have S1 := ShC_Z J.2.1 kz
      have hCx := S1.1
      have hoCx := CV_oc hCx
      have c3' : FI ξ 0 3 = nI np := (Z_FI kz (by omega) (by simp)).trans c3
      have cs1 : K [] [(0, 3)] ξ (wO ξ 0 3 (.int (nI (np + 1)))) := K_wO (k := 3) (CV_o hCx) rfl _ (by simp)
      have cp1 := pO (k := 3) (CV_o hCx) rfl (nI (np + 1))
      have cr1 := wO_FIo (k := 3) (CV_o hCx) rfl (nI (np + 1))
      have cu1 := wO_A (CV_o hCx) 3 (.int (nI (np + 1)))
      generalize wO ξ 0 3 (.int (nI (np + 1))) = cm1 at cs1 cp1 cr1 cu1
      have cV1 := CV_K hCx cs1
      have cs2 : K [] [(0, 1)] cm1 (wO cm1 0 1 (.int (0))) := K_wO (k := 1) (CV_o cV1) rfl _ (by simp)
      have cp2 := pO (k := 1) (CV_o cV1) rfl (0)
      have cr2 := wO_FIo (k := 1) (CV_o cV1) rfl (0)
      have cu2 := wO_A (CV_o cV1) 1 (.int (0))
      generalize wO cm1 0 1 (.int (0)) = cm2 at cs2 cp2 cr2 cu2
      have cV2 := CV_K cV1 cs2
      have cs3 : K [] [(0, 11)] cm2 (wO cm2 0 11 (.int (bI false))) := K_wO (k := 11) (CV_o cV2) rfl _ (by simp)
      have cp3 := pOb (k := 11) (CV_o cV2) rfl false
      have cr3 := wO_FIo (k := 11) (CV_o cV2) rfl (bI false)
      have cu3 := wO_A (CV_o cV2) 11 (.int (bI false))
      generalize wO cm2 0 11 (.int (bI false)) = cm3 at cs3 cp3 cr3 cu3
      rw [bI_f] at cp3 cr3
      have cV3 := CV_K cV2 cs3
      have c3e : FI cm3 0 3 = nI (np + 1) := by rw [cr3, if_neg (by decide), cr2, if_neg (by decide), cr1, if_pos ⟨rfl, rfl⟩]
      have kc : K [] [(0, 3), (0, 1), (0, 11)] ξ cm3 := ((cs1.mono (by simp) (by simp)).tr (cs2.mono (by simp) (by simp))).tr (cs3.mono (by simp) (by simp))
      have hMc : MS cm3 := MS_K (MS_Z hM1 kz) kc
      have hoMc := oM_oc hMc
      have shm : SHm cm3 ns sh := by
        obtain ⟨o1, o2, o3, o4⟩ := J.2.2.2.1.2
        exact ⟨o1, by rw [K_FI kc (by simp), Z_FI kz (by omega) (by simp)]; exact o2, by rw [K_A kc (by simp), Z_A kz (by omega) (by simp)]; exact o3, o4⟩
      obtain ⟨ξ1, e3, k3, f3⟩ := E_faultP hMc shm
      have hM2 := MS_K hMc k3
      obtain ⟨t1, t2, t3, t4⟩ := f3 s' hfl
      have g8 : FI ξ1 19 8 = nI ns := by rw [K_FI k3 (by decide)]; exact shm.2.1
      have g0 : FI ξ1 19 0 = nI np := by rw [K_FI k3 (by decide), K_FI kc (by simp), Z_FI kz (by omega) (by simp)]; exact J.2.2.1.1
      have ds1 : K [20] [] ξ1 (wA ξ1 20 (upd (A ξ1 20) (np) (nI s'.2.1))) := K_wA (aM20 hM2) _ (by simp)
      have dp1 := pa_A (x := nI s'.2.1) (k := np) (aM20 hM2) hl8 (by decide)
      have dr1 := wA_FI (aM20 hM2) (upd (A ξ1 20) (np) (nI s'.2.1))
      have du1 := wA_A (aM20 hM2) (upd (A ξ1 20) (np) (nI s'.2.1))
      generalize wA ξ1 20 (upd (A ξ1 20) (np) (nI s'.2.1)) = dm1 at ds1 dp1 dr1 du1
      have dV1 := MS_K hM2 ds1
      have q1 : FI dm1 19 0 = nI np := by rw [dr1]; exact g0
      have q2 : FI dm1 19 10 = nI s'.2.1 := by rw [dr1]; exact t2
      obtain ⟨κ1, el, kl, l21, l22, l23⟩ := E_pageLoop dV1 q1 q2 hl8 hn
      have hMl := MS_K dV1 kl
      have l0 : FI κ1 19 0 = nI np := by rw [K_FI kl (by simp)]; exact q1
      have es1 : K [] [(19, 0)] κ1 (wO κ1 19 0 (.int (nI (np + 1)))) := K_wO (k := 0) (MS_O hMl) rfl _ (by simp)
      have ep1 := pO (k := 0) (MS_O hMl) rfl (nI (np + 1))
      have er1 := wO_FIo (k := 0) (MS_O hMl) rfl (nI (np + 1))
      have eu1 := wO_A (MS_O hMl) 0 (.int (nI (np + 1)))
      generalize wO κ1 19 0 (.int (nI (np + 1))) = em1 at es1 ep1 er1 eu1
      have eV1 := MS_K hMl es1
      have es2 : K [] [(19, 8)] em1 (wO em1 19 8 (.int (0))) := K_wO (k := 8) (MS_O eV1) rfl _ (by simp)
      have ep2 := pO (k := 8) (MS_O eV1) rfl (0)
      have er2 := wO_FIo (k := 8) (MS_O eV1) rfl (0)
      have eu2 := wO_A (MS_O eV1) 8 (.int (0))
      generalize wO em1 19 8 (.int (0)) = em2 at es2 ep2 er2 eu2
      have eV2 := MS_K eV1 es2
      have y2 : FI em2 19 0 = nI (np + 1) := by rw [er2, if_neg (by decide), er1, if_pos ⟨rfl, rfl⟩]
      have kd : K [20, 21, 22, 23] [(19, 0), (19, 8)] ξ1 em2 := (((ds1.mono (by simp) (by simp)).tr (kl.mono (by simp) (by simp))).tr (es1.mono (by simp) (by simp))).tr (es2.mono (by simp) (by simp))
      have kk : K [20, 21, 22, 23, 27, 28, 29, 30] [(0, 3), (0, 1), (0, 11), (19, 0), (19, 8), (19, 9), (19, 10), (19, 14), (19, 16)] ξ em2 := ((kc.mono (by simp) (by simp)).tr (k3.mono (by simp) (by simp))).tr (kd.mono (by simp) (by simp))
      have kf : KZ [20, 21, 22, 23, 27, 28, 29, 30] [(0, 3), (0, 1), (0, 11), (19, 0), (19, 8), (19, 9), (19, 10), (19, 14), (19, 16)] [(2, np)] ν1 em2 := (kz.mono (by simp) (by simp) (by simp)).tr kk.Z
      have w : ∀ a, a < 48 → a ∉ [27, 28, 29, 30] → A ξ1 a = A ν1 a := fun a h1 h2 => by rw [K_A k3 h2, K_A kc (by simp), Z_A kz (by omega) (by simp)]
      have ovc : ∀ (f g h : Nat → Int32), (∀ b, b < s'.2.1 → g b = h b) → ovl f g (24 * np) s'.2.1 = ovl f h (24 * np) s'.2.1 := fun f g h q => by
        funext i
        unfold ovl
        by_cases z : 24 * np ≤ i ∧ i < 24 * np + s'.2.1
        · rw [if_pos z, if_pos z, q _ (by omega)]
        · rw [if_neg z, if_neg z]
      have d27 : ∀ a, a ≠ 20 → A dm1 a = A ξ1 a := fun a ha => by rw [du1, if_neg ha]
      have z20 : A em2 20 = upd (A ν1 20) np (nI s'.2.1) := by rw [eu2, eu1, K_A kl (by simp), du1, if_pos rfl, w 20 (by decide) (by decide)]
      have z21 : A em2 21 = ovl (A ν1 21) s'.2.2.2.1 (24 * np) s'.2.1 := by rw [eu2, eu1, l21, d27 21 (by decide), d27 27 (by decide), w 21 (by decide) (by decide)]; exact ovc _ _ _ (fun b hb => (t4 b hb).1)
      have z22 : A em2 22 = ovl (A ν1 22) s'.2.2.2.2.1 (24 * np) s'.2.1 := by rw [eu2, eu1, l22, d27 22 (by decide), d27 28 (by decide), w 22 (by decide) (by decide)]; exact ovc _ _ _ (fun b hb => (t4 b hb).2.1)
      have z23 : A em2 23 = ovl (A ν1 23) s'.2.2.2.2.2 (24 * np) s'.2.1 := by rw [eu2, eu1, l23, d27 23 (by decide), d27 29 (by decide), w 23 (by decide) (by decide)]; exact ovc _ _ _ (fun b hb => (t4 b hb).2.2)
      have z24 : A em2 24 = A ν1 24 := Z_A kf (by omega) (by decide)
      have z25 : A em2 25 = A ν1 25 := Z_A kf (by omega) (by decide)
      have bq : ∀ q, q < np → bnn (A em2 20) q = bnn (A ν1 20) q := fun q hq => by unfold bnn; rw [z20, upd_at, if_neg (by omega)]
      have bn : bnn (A em2 20) np = s'.2.1 := by unfold bnn; rw [z20, upd_at, if_pos rfl, nI_clamp (by omega)]
      have Zv := I_Z J
      refine ⟨nI np, cm3, em2, ?_, ?_, np + 1, nr, nl, 0, (fun q => if q = np then mN ν1 else PA q), QA, LA, sh, ?_⟩
      · rw [goC]
        simp (disch := first | omega | decide | with_reducible assumption) only [i64_8, i64_11, i64_13, i64_14, i64_15, i64_18, i64_20, i64_23, i64_25, i64_26, i64_27, i64_30, i64_31, i64_34, i64_37, i64_37I, i64_38, i64_39, i64_42, i64_45, i64_46, i64_47, i64_47I, i64_48, i64_51, i64_52, i64_53, i64_56, i64_57, i64_58, i64_61, i64_62, i64_63, i64_66, i64_67, i64_70, i64_71, i64_72, bI_0, Bool.true_eq_false, gC2 hC1, gC3 hC1, c3, n8', lt_t, hnw, g8', e2, pr, gC3 hCx, c3', nI_add1, cp1, cp2, cp3, gC3 cV3, c3e, b_v_s, b_i_s, b_n_s, b_r_s, b_r_n, b_m_s, b_c_s, b_c_v, if_true, if_false, nI_sub1, Nat.add_sub_cancel]
      · rw [goM cm3 ξ1 s' hfl hoMc hM2 e3 g8 (f3 s' hfl), hok, if_pos rfl]
        simp (disch := first | omega | decide | with_reducible assumption) only [i115_30, i115_31, i115_34, i115_36, i115_39, i115_41, i115_42, i115_43, i115_46, i115_47, i115_50, i115_51, i115_54, i115_55, i115_56, gM0 hM2, g0, n8', nI_eqE, hfull, gM1 hM2, gM10 hM2, t2, dp1, b_v_s, b_i_s, b_n_s, b_r_s, b_r_n, b_m_s, b_c_s, b_c_v, if_false]
        refine (show _ = _ from el).trans ?_
        simp (disch := first | omega | decide | with_reducible assumption) only [i115_131, i115_132, i115_132I, i115_133, i115_136, i115_137, i115_138, i115_141, i115_142, i115_143, i115_146, i115_147, i115_150, i115_151, i115_152, gM0 hMl, l0, nI_add1, ep1, ep2, gM0 eV2, y2, b_v_s, b_i_s, b_n_s, b_r_s, b_r_n, b_m_s, b_c_s, b_c_v, nI_sub1, Nat.add_sub_cancel]
      · have hRu := Z_ru J kf (by decide) (by decide) (by simp) (fun r hr => ⟨by rw [Z_A kf (by omega) (by decide)], by rw [Z_A kf (by omega) (by decide)], fun j hj => by rw [Z_A kf (by omega) (by decide)]⟩)
        have hLa := Z_la J kf (by decide) (by simp) (fun l hl => ⟨by rw [Z_A kf (by omega) (by decide)], by rw [Z_A kf (by omega) (by decide)], by rw [Z_A kf (by omega) (by decide)]⟩)
        have hkN := K_mN kk
        have hmN2 : mN em2 = mN ν1 + 10 := by rw [hkN.1, hNw.1, hN2]
        have hmS2 : mS em2 ≤ mS ν1 + 3804 := by rw [hkN.2, hNw.2]; exact hS2
        have f11 : FI em2 0 11 = 0 := by rw [er2, if_neg (by decide), er1, if_neg (by decide), K_FI kl (by simp), dr1, K_FI k3 (by decide), cr3, if_pos ⟨rfl, rfl⟩]
        have PG := J.2.2.2.2.1
        refine ⟨MS_Z hM1 kf, ShC_Z J.2.1 kf, ⟨y2, ?_, ?_, ?_, ?_, ?_⟩, ⟨⟨Nat.zero_le _, ?_, fun i hi => absurd hi (Nat.not_lt_zero i), fun i hi => absurd hi (Nat.not_lt_zero i)⟩, ⟨Nat.zero_le _, ?_, fun i hi => absurd hi (Nat.not_lt_zero i), fun i hi => absurd hi (Nat.not_lt_zero i)⟩⟩, ⟨by omega, fun q hq => ?_⟩, ⟨by omega, kf.1.2.2 _ _ _ (I_V J).2.1, fun q hq => ?_⟩, ⟨hnr, hRu⟩, ⟨hnl, hLa⟩, Or.inl f11, ⟨fun q hq => ?_, fun q hq => ?_, fun r hr => ?_, fun l hl => ?_⟩, ⟨K_NA kk hNA3, by omega, by have := I_mS J; omega, fun i h1 h2 => by rw [z24]; exact Zv.1 i (by omega) h2, fun q h1 h2 => by rw [z25]; exact Zv.2 q (by omega) h2⟩, ?_⟩
        · rw [Z_FI kf (by omega) (by decide)]; exact J.2.2.1.2.1
        · rw [Z_FI kf (by omega) (by decide)]; exact J.2.2.1.2.2.1
        · rw [er2, if_neg (by decide), er1, if_neg (by decide), K_FI kl (by simp), dr1, K_FI k3 (by decide)]; exact c3e
        · rw [Z_FI kf (by omega) (by decide)]; exact J.2.2.1.2.2.2.2.1
        · rw [Z_FI kf (by omega) (by decide)]; exact J.2.2.1.2.2.2.2.2
        · rw [er2, if_neg (by decide), er1, if_neg (by decide), K_FI kl (by simp), dr1, K_FI k3 (by decide), cr3, if_neg (by decide), cr2, if_pos ⟨rfl, rfl⟩]; rfl
        · rw [er2, if_pos ⟨rfl, rfl⟩]; rfl
        · by_cases e : q = np
          · subst e
            rw [bn, z23]
            exact ⟨by rw [z20, upd_at, if_pos rfl], hs0, hn, hw⟩
          · obtain ⟨a1, a2, a3, a4⟩ := PG.2 q (by omega)
            rw [bq q (by omega), z23]
            exact ⟨by rw [z20, upd_at, if_neg e]; exact a1, a2, a3, PW_c (fun c hc => oo _ _ q c (by omega) hc) a3 a4⟩
        · dsimp only
          by_cases e : q = np
          · subst e
            rw [if_pos rfl, bn, z21, z22, z23, z24, z25]
            have hV3 : PV em2 (mN ν1) q s'.2.1 (ovl (A ν1 23) s'.2.2.2.2.2 (24 * q) s'.2.1) (ovl (A ν1 21) s'.2.2.2.1 (24 * q) s'.2.1) (ovl (A ν1 22) s'.2.2.2.2.1 (24 * q) s'.2.1) := PV_K (PV_Z hV2 kz3 (by omega) (fun j _ _ _ => by simp) ⟨by simp, by simp, by simp⟩) kk (fun j _ _ _ => by simp; omega) ⟨by simp; omega, by simp; omega, by simp; omega⟩
            have fz : ∀ j, FI em2 (mN ν1) j = FI ν2 (mN ν1) j := fun j => by rw [K_FI kk (by simp; omega), Z_FI kz3 (by omega) (by simp)]
            refine ⟨by rw [K_RA kk]; exact hRA3, hV3, ?_, Or.inl (by rw [fz]; exact F15)⟩
            have mz : ∀ b, b < s'.2.1 → A ν1 24 (24 * q + b) = 0 := fun b hb => Zv.1 _ (by omega) (by omega)
            unfold PMk
            rw [fz, fz, fz, F11, F12, F13, Zv.2 q (by omega) hl8]
            refine ⟨(mk_none fun b hb => ?_).symm, (mk_none fun b hb => ?_).symm, rfl, Or.inl rfl, fun b hb => Or.inl (mz b hb)⟩
            · rw [mz b hb]; decide
            · rw [mz b hb]; decide
          · have hq' : q < np := by omega
            obtain ⟨g1, g2, g3, g4⟩ := (I_V J).2.2 q hq'
            have x1 := (I_A J q hq').1
            have x2 := (I_Ad J).2.1 q hq'
            have h24 := (PG.2 q hq').2.2.1
            have ny : ∀ j, (PA q, j) ∉ [(0, 3), (0, 1), (0, 11), (19, 0), (19, 8), (19, 9), (19, 10), (19, 14), (19, 16)] := fun j => by simp; omega
            rw [if_neg e, bq q hq', z21, z22, z23, z24, z25]
            refine ⟨by rw [Z_RA kf (by omega) (by simp; omega)]; exact g1, PV_c (fun c hc => oo _ _ q c hq' hc) (fun c hc => oo _ _ q c hq' hc) (fun c hc => oo _ _ q c hq' hc) (PV_Z g2 kf x2 (fun j _ _ _ => by simp; omega) ⟨ny _, ny _, ny _⟩), PMk_Z g3 kf (by omega) ⟨ny _, ny _, ny _⟩, DRN_c (fun c hc => oo _ _ q c hq' hc) (fun c hc => oo _ _ q c hq' hc) h24 (DRN_Z g4 kf x2 (by simp; omega) (ny _))⟩
        · dsimp only
          have ad := I_Ad J
          by_cases e : q = np
          · rw [if_pos e]
            refine ⟨by omega, fun r hr hqr => ?_⟩
            rw [if_neg (by omega)]
            have := ad.2.1 r (by omega)
            omega
          · rw [if_neg e]
            refine ⟨(ad.1 q (by omega)).1, fun r hr hqr => ?_⟩
            by_cases e2 : r = np
            · rw [if_pos e2]
              have := ad.2.1 q (by omega)
              omega
            · rw [if_neg e2]; exact (ad.1 q (by omega)).2 r (by omega) hqr
        · dsimp only
          by_cases e : q = np
          · rw [if_pos e]; omega
          · rw [if_neg e]; have := (I_Ad J).2.1 q (by omega); omega
        · have := (I_Ad J).2.2.1 r hr; omega
        · have := (I_Ad J).2.2.2 l hl; omega
        · rw [kf.2.1]; exact J.2.2.2.2.2.2.2.2.2.2.2
end addp2
