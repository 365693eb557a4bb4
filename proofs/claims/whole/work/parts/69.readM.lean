/-! the model reads a page's text -/
def RM (μ : mM) (s : PS) : Prop := FI μ 19 9 = nI s.1 ∧ FI μ 19 10 = nI s.2.1 ∧ FI μ 19 14 = cI s.2.2.1 ∧ ∀ b, b < s.2.1 → A μ 27 b = s.2.2.2.1 b ∧ A μ 28 b = s.2.2.2.2.1 b ∧ A μ 29 b = s.2.2.2.2.2 b
section readM
variable {μ : mM}
theorem in_kd {c : Nat} (hc : c < 200) : m_D 102 [.long (nI c).toInt64, .long 97, .long 101] μ = some (some (.int (bI (kdC c))), μ) := by
  rw [E_in, toInt_i2l, nI_toInt (by omega), show (97 : Int64).toInt = 97 by decide, show (101 : Int64).toInt = 101 by decide, ← Bool.decide_and]
  have : decide ((97 : Int) ≤ (c : Int) ∧ (c : Int) ≤ 101) = kdC c := by unfold kdC; congr 1; exact propext ⟨fun q => by omega, fun q => by omega⟩
  rw [this]
theorem in_dg {c : Nat} (hc : c < 200) : m_D 102 [.long (nI c).toInt64, .long 48, .long 57] μ = some (some (.int (bI (dgC c))), μ) := by
  rw [E_in, toInt_i2l, nI_toInt (by omega), show (48 : Int64).toInt = 48 by decide, show (57 : Int64).toInt = 57 by decide, ← Bool.decide_and]
  have : decide ((48 : Int) ≤ (c : Int) ∧ (c : Int) ≤ 57) = dgC c := by unfold dgC; congr 1; exact propext ⟨fun q => by omega, fun q => by omega⟩
  rw [this]
set_option maxHeartbeats 2000000 in
theorem E_beginBox {s : PS} {c : Nat} (h : MS μ) (hR : RM μ s) (h24 : s.2.1 ≤ 24) (hc : c < 127) : ∃ ν, m_D 109 [.ref 19, .int (nI c)] μ = some (some (.int (bI (decide (kdC c = true ∧ s.2.1 < 24)))), ν) ∧ K [27, 28, 29] [(19, 9), (19, 10), (19, 14)] μ ν ∧ (kdC c = true ∧ s.2.1 < 24 → RM ν (psh s c)) := by
  have hin := in_kd (μ := μ) (c := c) (by omega)
  obtain ⟨st, sz, ins, kd, wd, pr⟩ := s
  obtain ⟨r1, r2, r3, r4⟩ := hR
  dsimp only at *
  cases hk : kdC c with
  | false =>
    rw [hk] at hin
    refine ⟨μ, ?_, K.rf μ, fun q => absurd q.1 (by decide)⟩
    rw [decide_eq_false (fun q => absurd q.1 (by decide)), bI_f]
    simp (disch := first | omega | decide | with_reducible assumption) only [D109, i109_0, i109_1, i109_2, i109_5, i109_8, i109_11, i109_14, i109_15, i109_18, i109_20, i109_23, i109_24, hin, b_v_s, b_i_s, b_n_s, b_r_s, b_r_n, b_m_s, b_c_s, b_c_v, bI_0, if_true]
  | true =>
    rw [hk] at hin
    have hcc := kd_of hk
    by_cases z : sz < 24
    · have cs1 : K [27] [] μ (wA μ 27 (upd (A μ 27) (sz) (nI (c - 97)))) := K_wA (aM27 h) _ (by simp)
      have cp1 := pa_A (x := nI (c - 97)) (k := sz) (aM27 h) z (by decide)
      have cr1 := wA_FI (aM27 h) (upd (A μ 27) (sz) (nI (c - 97)))
      have cu1 := wA_A (aM27 h) (upd (A μ 27) (sz) (nI (c - 97)))
      generalize wA μ 27 (upd (A μ 27) (sz) (nI (c - 97))) = cm1 at cs1 cp1 cr1 cu1
      have cV1 := MS_K h cs1
      have cs2 : K [28] [] cm1 (wA cm1 28 (upd (A cm1 28) (sz) (-1))) := K_wA (aM28 cV1) _ (by simp)
      have cp2 := pa_A (x := -1) (k := sz) (aM28 cV1) z (by decide)
      have cr2 := wA_FI (aM28 cV1) (upd (A cm1 28) (sz) (-1))
      have cu2 := wA_A (aM28 cV1) (upd (A cm1 28) (sz) (-1))
      generalize wA cm1 28 (upd (A cm1 28) (sz) (-1)) = cm2 at cs2 cp2 cr2 cu2
      have cV2 := MS_K cV1 cs2
      have cs3 : K [29] [] cm2 (wA cm2 29 (upd (A cm2 29) (sz) (cI ins))) := K_wA (aM29 cV2) _ (by simp)
      have cp3 := pa_A (x := cI ins) (k := sz) (aM29 cV2) z (by decide)
      have cr3 := wA_FI (aM29 cV2) (upd (A cm2 29) (sz) (cI ins))
      have cu3 := wA_A (aM29 cV2) (upd (A cm2 29) (sz) (cI ins))
      generalize wA cm2 29 (upd (A cm2 29) (sz) (cI ins)) = cm3 at cs3 cp3 cr3 cu3
      have cV3 := MS_K cV2 cs3
      have cs4 : K [] [(19, 10)] cm3 (wO cm3 19 10 (.int (nI (sz + 1)))) := K_wO (k := 10) (MS_O cV3) rfl _ (by simp)
      have cp4 := pO (k := 10) (MS_O cV3) rfl (nI (sz + 1))
      have cr4 := wO_FIo (k := 10) (MS_O cV3) rfl (nI (sz + 1))
      have cu4 := wO_A (MS_O cV3) 10 (.int (nI (sz + 1)))
      generalize wO cm3 19 10 (.int (nI (sz + 1))) = cm4 at cs4 cp4 cr4 cu4
      have cV4 := MS_K cV3 cs4
      have cs5 : K [] [(19, 9)] cm4 (wO cm4 19 9 (.int (1))) := K_wO (k := 9) (MS_O cV4) rfl _ (by simp)
      have cp5 := pO (k := 9) (MS_O cV4) rfl (1)
      have cr5 := wO_FIo (k := 9) (MS_O cV4) rfl (1)
      have cu5 := wO_A (MS_O cV4) 9 (.int (1))
      generalize wO cm4 19 9 (.int (1)) = cm5 at cs5 cp5 cr5 cu5
      have cV5 := MS_K cV4 cs5
      refine ⟨cm5, ?_, ?_, fun _ => ?_⟩
      · rw [decide_eq_true ⟨rfl, z⟩, bI_t]
        simp (disch := first | omega | decide | with_reducible assumption) only [D109, i109_0, i109_1, i109_2, i109_5, i109_8, i109_11, i109_14, i109_15, i109_18, i109_20, i109_23, i109_24, i109_25, i109_26, i109_29, i109_30, i109_33, i109_34, i109_36, i109_37, i109_38, i109_39, i109_42, i109_43, i109_46, i109_47, i109_48, i109_49, i109_52, i109_53, i109_56, i109_57, i109_60, i109_61, i109_62, i109_62I, i109_63, i109_66, i109_67, i109_68, i109_71, i109_72, i109_73, i109_76, i109_77, hin, b_v_s, b_i_s, b_n_s, b_r_s, b_r_n, b_m_s, b_c_s, b_c_v, bI_0, Bool.true_eq_false, if_false, gM10 h, gM11 h, gM10 cV1, gM12 cV1, gM10 cV2, gM13 cV2, gM14 cV2, gM10 cV3, cr1, cr2, cr3, r2, r3, n24, eq_f, n97, nI_minus, nI_add1, cp1, cp2, cp3, cp4, cp5]
      · exact (cs1.mono (by simp) (by simp)).tr ((cs2.mono (by simp) (by simp)).tr ((cs3.mono (by simp) (by simp)).tr ((cs4.mono (by simp) (by simp)).tr (cs5.mono (by simp) (by simp)))))
      · unfold psh
        refine ⟨by simp [cr5]; rfl, by simp [cr5, cr4], by simp [cr5, cr4, cr3, cr2, cr1, r3], fun b hb => ?_⟩
        have e6 : A cm5 27 = upd (A μ 27) sz (nI (c - 97)) := by simp [cu5, cu4, cu3, cu2, cu1]
        have e7 : A cm5 28 = upd (A μ 28) sz (-1) := by simp [cu5, cu4, cu3, cu2, cu1]
        have e8 : A cm5 29 = upd (A μ 29) sz (cI ins) := by simp [cu5, cu4, cu3, cu2, cu1]
        dsimp only at hb ⊢
        rw [e6, e7, e8, upd_at, upd_at, upd_at, upd_at, upd_at, upd_at]
        by_cases q : b = sz
        · rw [if_pos q, if_pos q, if_pos q, if_pos q, if_pos q, if_pos q]; exact ⟨rfl, rfl, rfl⟩
        · rw [if_neg q, if_neg q, if_neg q, if_neg q, if_neg q, if_neg q]; exact r4 b (by omega)
    · have z4 : sz = 24 := by omega
      refine ⟨μ, ?_, K.rf μ, fun q => absurd q.2 z⟩
      rw [decide_eq_false (fun q => z q.2), bI_f]
      simp (disch := first | omega | decide | with_reducible assumption) only [D109, i109_0, i109_1, i109_2, i109_5, i109_8, i109_11, i109_14, i109_15, i109_18, i109_20, i109_23, i109_24, hin, b_v_s, b_i_s, b_n_s, b_r_s, b_r_n, b_m_s, b_c_s, b_c_v, bI_0, Bool.true_eq_false, if_false, gM10 h, r2, n24, eq_t, if_true]
theorem RM_K {X : List Nat} {Y : List (Nat × Nat)} {μ ν : mM} {s : PS} (h : RM μ s) (k : K X Y μ ν) (hX : 27 ∉ X ∧ 28 ∉ X ∧ 29 ∉ X) (hY : (19, 9) ∉ Y ∧ (19, 10) ∉ Y ∧ (19, 14) ∉ Y) : RM ν s := by
  unfold RM
  rw [K_FI k hY.1, K_FI k hY.2.1, K_FI k hY.2.2, K_A k hX.1, K_A k hX.2.1, K_A k hX.2.2]
  exact h
theorem n3c : (3 : Int32) = nI 3 := rfl
theorem n4c : (4 : Int32) = nI 4 := rfl
set_option maxHeartbeats 4000000 in
theorem E_goPage {s : PS} {c : Nat} (h : MS μ) (hR : RM μ s) (hP : PI s) (hc : c < 127) : ∃ ν, m_D 110 [.ref 19, .int (nI c)] μ = some (some (.int (bI (pgS s c).isSome)), ν) ∧ K [27, 28, 29] [(19, 9), (19, 10), (19, 14)] μ ν ∧ ∀ s', pgS s c = some s' → RM ν s' := by
  have ho := oM_oc h
  have hdg := in_dg (μ := μ) (c := c) (by omega)
  obtain ⟨νb, eb, sb', fb⟩ := E_beginBox (c := c) h hR hP.2.1 hc
  obtain ⟨st, sz, ins, kd, wd, pr⟩ := s
  obtain ⟨r1, r2, r3, r4⟩ := id hR
  obtain ⟨h1, h2, h3, h4, h5, h6, h7, h8, h9, h10, h11, h12⟩ := id hP
  unfold pgS
  dsimp only at *
  have hcI : (cI ins = -1) = (ins = none) := cI_m1 (fun k hk => by have := h6 k hk; omega)
  by_cases e : st = 0
  · rw [if_pos e]
    refine ⟨νb, ?_, sb', fun s' hs => ?_⟩
    · rw [e] at r1
      have e2 : (if kdC c = true ∧ sz < 24 then some (psh (st, sz, ins, kd, wd, pr) c) else none).isSome = decide (kdC c = true ∧ sz < 24) := by
        by_cases q : kdC c = true ∧ sz < 24
        · rw [if_pos q, decide_eq_true q]; rfl
        · rw [if_neg q, decide_eq_false q]; rfl
      rw [e2]
      simp (disch := first | omega | exact bI_and _ | decide | with_reducible assumption) only [D110, i110_0, i110_1, i110_4, i110_7, i110_8, i110_9, i110_12, gM9 h, r1, nI00, b_v_s, b_i_s, b_n_s, b_r_s, b_r_n, b_m_s, b_c_s, b_c_v, if_true, eb]
    · split at hs
      · rename_i q; injection hs with hs; rw [← hs]; exact fb q
      · cases hs
  · rw [if_neg e]
    have hz := h3 e
    have hz24 : sz - 1 < 24 := by omega
    have r1n : (nI st = 0) = False := by rw [nI_is0 (by omega)]; exact eq_false e
    by_cases q1 : st < 3 ∧ dgC c = true
    · rw [if_pos q1]
      rw [q1.2] at hdg
      have hcc := dg_of q1.2
      have w28 := (r4 (sz - 1) (by omega)).2.1
      have f28 := ga_A (k := sz - 1) (aM28 h) hz24 (by decide)
      rw [w28] at f28
      have cs1 : K [28] [] μ (wA μ 28 (upd (A μ 28) (sz - 1) ((if st = 1 then 0 else 10 * wd (sz - 1)) + nI (c - 48)))) := K_wA (aM28 h) _ (by simp)
      have cp1 := pa_A (x := (if st = 1 then 0 else 10 * wd (sz - 1)) + nI (c - 48)) (k := sz - 1) (aM28 h) hz24 (by decide)
      have cr1 := wA_FI (aM28 h) (upd (A μ 28) (sz - 1) ((if st = 1 then 0 else 10 * wd (sz - 1)) + nI (c - 48)))
      have cu1 := wA_A (aM28 h) (upd (A μ 28) (sz - 1) ((if st = 1 then 0 else 10 * wd (sz - 1)) + nI (c - 48)))
      generalize wA μ 28 (upd (A μ 28) (sz - 1) ((if st = 1 then 0 else 10 * wd (sz - 1)) + nI (c - 48))) = cm1 at cs1 cp1 cr1 cu1
      have cV1 := MS_K h cs1
      have cs2 : K [] [(19, 9)] cm1 (wO cm1 19 9 (.int (nI (st + 1)))) := K_wO (k := 9) (MS_O cV1) rfl _ (by simp)
      have cp2 := pO (k := 9) (MS_O cV1) rfl (nI (st + 1))
      have cr2 := wO_FIo (k := 9) (MS_O cV1) rfl (nI (st + 1))
      have cu2 := wO_A (MS_O cV1) 9 (.int (nI (st + 1)))
      generalize wO cm1 19 9 (.int (nI (st + 1))) = cm2 at cs2 cp2 cr2 cu2
      have cV2 := MS_K cV1 cs2
      refine ⟨cm2, ?_, (cs1.mono (by simp) (by simp)).tr (cs2.mono (by simp) (by simp)), fun s' hs => ?_⟩
      · by_cases y : st = 1
        · have w1 := h9 y
          rw [if_pos y] at cp1
          have e0 : (0 : Int32) + nI c - 48 = 0 + nI (c - 48) := by rw [Int32.zero_add, Int32.zero_add, n48, nI_minus hcc.1]
          rw [w1] at f28
          simp (disch := first | omega | decide | with_reducible assumption) only [D110, i110_0, i110_1, i110_4, i110_13, i110_14, i110_17, i110_18, i110_21, i110_22, i110_23, i110_26, i110_29, i110_32, i110_35, i110_36, i110_39, i110_40, i110_43, i110_44, i110_45, i110_46, i110_47, i110_48, i110_51, i110_52, i110_55, i110_56, i110_57, i110_58, i110_59, i110_62, i110_63, i110_66, i110_68, i110_69, i110_70, i110_71, i110_72, i110_74, i110_75, i110_76, i110_77, i110_77I, i110_78, i110_81, i110_82, i110_83, i110_86, i110_87, gM9 h, gM10 h, gM12 h, gM9 cV1, cr1, r1, r1n, r2, n3c, lt_t, hdg, bI_0, Bool.true_eq_false, nI_sub1, f28, b_v_s, b_i_s, b_n_s, b_r_s, b_r_n, b_m_s, b_c_s, b_c_v, if_true, if_false, e0, cp1, nI_add1, cp2, Option.isSome, ne10, bI_t]
        · obtain ⟨w, w1, w2⟩ := h10 (by omega)
          rw [if_neg y] at cp1
          have e0 : (10 : Int32) * wd (sz - 1) + nI c - 48 = 10 * wd (sz - 1) + nI (c - 48) := by rw [w2, n10, nI_times, nI_plus, nI_plus, n48, nI_minus (by omega)]; congr 1; omega
          have nw : (wd (sz - 1) = -1) = False := by rw [w2, nI_ne1 (by omega)]
          simp (disch := first | omega | decide | with_reducible assumption) only [D110, i110_0, i110_1, i110_4, i110_13, i110_14, i110_17, i110_18, i110_21, i110_22, i110_23, i110_26, i110_29, i110_32, i110_35, i110_36, i110_39, i110_40, i110_43, i110_44, i110_45, i110_46, i110_47, i110_48, i110_51, i110_52, i110_55, i110_56, i110_57, i110_58, i110_59, i110_62, i110_63, i110_66, i110_68, i110_69, i110_70, i110_71, i110_72, i110_74, i110_75, i110_76, i110_77, i110_77I, i110_78, i110_81, i110_82, i110_83, i110_86, i110_87, gM9 h, gM10 h, gM12 h, gM9 cV1, cr1, r1, r1n, r2, n3c, lt_t, hdg, bI_0, Bool.true_eq_false, nI_sub1, f28, nw, b_v_s, b_i_s, b_n_s, b_r_s, b_r_n, b_m_s, b_c_s, b_c_v, if_true, if_false, e0, cp1, nI_add1, cp2, Option.isSome, ne10, bI_t]
      · injection hs with hs
        subst hs
        refine ⟨by simp [cr2], by simp [cr2, cr1, r2], by simp [cr2, cr1, r3], fun b hb => ?_⟩
        have e6 : A cm2 27 = A μ 27 := by simp [cu2, cu1]
        have e7 : A cm2 28 = upd (A μ 28) (sz - 1) ((if st = 1 then 0 else 10 * wd (sz - 1)) + nI (c - 48)) := by simp [cu2, cu1]
        have e8 : A cm2 29 = A μ 29 := by simp [cu2, cu1]
        dsimp only at hb ⊢
        rw [e6, e7, e8, upd_at, upd_at]
        obtain ⟨a1, a2, a3⟩ := r4 b hb
        refine ⟨a1, ?_, a3⟩
        by_cases q : b = sz - 1
        · rw [if_pos q, if_pos q]
        · rw [if_neg q, if_neg q]; exact a2
    · rw [if_neg q1]
      have go : m_D 110 [.ref 19, .int (nI c)] μ = m_G 110 88 [.ref 19, .int (nI c), m_d] [] μ := by
        by_cases q2 : st < 3
        · have q3 : dgC c = false := by
            cases hd : dgC c with
            | false => rfl
            | true => exact absurd ⟨q2, hd⟩ q1
          rw [q3] at hdg
          simp (disch := first | omega | decide | with_reducible assumption) only [D110, i110_0, i110_1, i110_4, i110_13, i110_14, i110_17, i110_18, i110_21, i110_22, i110_23, i110_26, i110_29, i110_32, gM9 h, r1, r1n, n3c, lt_t, hdg, bI_0, b_v_s, b_i_s, b_n_s, b_r_s, b_r_n, b_m_s, b_c_s, b_c_v, if_true, if_false]
        · simp (disch := first | omega | decide | with_reducible assumption) only [D110, i110_0, i110_1, i110_4, i110_13, i110_14, i110_17, i110_18, gM9 h, r1, r1n, n3c, lt_f, b_v_s, b_i_s, b_n_s, b_r_s, b_r_n, b_m_s, b_c_s, b_c_v, if_false]
      rw [go]
      by_cases q2 : st < 4 ∧ c = 40
      · rw [if_pos q2]
        obtain ⟨q2, rfl⟩ := q2
        have cs1 : K [] [(19, 14)] μ (wO μ 19 14 (.int (nI (sz - 1)))) := K_wO (k := 14) (MS_O h) rfl _ (by simp)
        have cp1 := pO (k := 14) (MS_O h) rfl (nI (sz - 1))
        have cr1 := wO_FIo (k := 14) (MS_O h) rfl (nI (sz - 1))
        have cu1 := wO_A (MS_O h) 14 (.int (nI (sz - 1)))
        generalize wO μ 19 14 (.int (nI (sz - 1))) = cm1 at cs1 cp1 cr1 cu1
        have cV1 := MS_K h cs1
        have cs2 : K [] [(19, 9)] cm1 (wO cm1 19 9 (.int (0))) := K_wO (k := 9) (MS_O cV1) rfl _ (by simp)
        have cp2 := pO (k := 9) (MS_O cV1) rfl (0)
        have cr2 := wO_FIo (k := 9) (MS_O cV1) rfl (0)
        have cu2 := wO_A (MS_O cV1) 9 (.int (0))
        generalize wO cm1 19 9 (.int (0)) = cm2 at cs2 cp2 cr2 cu2
        have cV2 := MS_K cV1 cs2
        by_cases z : sz < 24
        · rw [if_pos z]
          refine ⟨cm2, ?_, (cs1.mono (by simp) (by simp)).tr (cs2.mono (by simp) (by simp)), fun s' hs => ?_⟩
          · have g2 : FI cm2 19 10 = nI sz := by simp [cr2, cr1, r2]
            simp (disch := first | omega | decide | with_reducible assumption) only [i110_88, i110_89, i110_92, i110_93, i110_96, i110_97, i110_99, i110_102, i110_103, i110_104, i110_107, i110_108, i110_109, i110_112, i110_113, i110_114, i110_117, i110_118, i110_121, i110_123, i110_126, i110_127, i110_130, i110_131, gM9 h, gM10 h, gM10 cV2, g2, r1, r2, n4c, n40, lt_t, n24, nI_sub1, b_v_s, b_i_s, b_n_s, b_r_s, b_r_n, b_m_s, b_c_s, b_c_v, if_true, cp1, cp2, Option.isSome, bI_t]
          · injection hs with hs
            subst hs
            refine ⟨by simp [cr2]; rfl, by simp [cr2, cr1, r2], by simp [cr2, cr1]; rfl, fun b hb => ?_⟩
            rw [cu2, cu2, cu2, cu1, cu1, cu1]; exact r4 b hb
        · rw [if_neg z]
          refine ⟨cm2, ?_, (cs1.mono (by simp) (by simp)).tr (cs2.mono (by simp) (by simp)), fun s' hs => by cases hs⟩
          have g2 : FI cm2 19 10 = nI sz := by simp [cr2, cr1, r2]
          simp (disch := first | omega | decide | with_reducible assumption) only [i110_88, i110_89, i110_92, i110_93, i110_96, i110_97, i110_99, i110_102, i110_103, i110_104, i110_107, i110_108, i110_109, i110_112, i110_113, i110_114, i110_117, i110_118, i110_121, i110_123, i110_126, i110_127, i110_130, i110_131, gM9 h, gM10 h, gM10 cV2, g2, r1, r2, n4c, n40, lt_t, lt_f, n24, nI_sub1, b_v_s, b_i_s, b_n_s, b_r_s, b_r_n, b_m_s, b_c_s, b_c_v, if_true, if_false, cp1, cp2, Option.isSome, bI_f]
      · rw [if_neg q2]
        have go2 : m_G 110 88 [.ref 19, .int (nI c), m_d] [] μ = m_G 110 132 [.ref 19, .int (nI c), m_d] [] μ := by
          by_cases q3 : st < 4
          · have q4 : c ≠ 40 := fun q => q2 ⟨q3, q⟩
            simp (disch := first | omega | decide | with_reducible assumption) only [i110_88, i110_89, i110_92, i110_93, i110_96, i110_97, i110_99, gM9 h, r1, n4c, n40, lt_t, eq_f, b_v_s, b_i_s, b_n_s, b_r_s, b_r_n, b_m_s, b_c_s, b_c_v, if_true, if_false]
          · simp (disch := first | omega | decide | with_reducible assumption) only [i110_88, i110_89, i110_92, i110_93, gM9 h, r1, n4c, lt_f, b_v_s, b_i_s, b_n_s, b_r_s, b_r_n, b_m_s, b_c_s, b_c_v, if_false]
        rw [go2]
        cases ins with
        | none =>
          dsimp only
          refine ⟨μ, ?_, K.rf μ, fun s' hs => by cases hs⟩
          simp (disch := first | omega | decide | with_reducible assumption) only [i110_132, i110_133, i110_136, i110_137, i110_140, i110_141, gM14 h, r3, cI_n1, b_v_s, b_i_s, b_n_s, b_r_s, b_r_n, b_m_s, b_c_s, b_c_v, if_true, Option.isSome, bI_f]
        | some k =>
          dsimp only
          have hk := h6 k rfl
          have kn : (cI (some k) = -1) = False := by rw [cI_s, nI_ne1 (by omega)]
          by_cases c41 : c = 41
          · rw [if_pos c41]
            subst c41
            have hup : pr k = cI (if k = 0 then none else some (pr k).toNatClampNeg) := by
              by_cases k0 : k = 0
              · rw [if_pos k0, k0]; exact h11 (by omega)
              · obtain ⟨u, u1, u2⟩ := h12 k (by omega) hk
                rw [if_neg k0, u2, nI_clamp (by omega)]; rfl
            have f8 := ga_A (k := k) (aM29 h) (by omega) (by decide)
            rw [(r4 k hk).2.2, hup] at f8
            generalize (if k = 0 then none else some (pr k).toNatClampNeg) = IN at f8 ⊢
            have cs1 : K [] [(19, 14)] μ (wO μ 19 14 (.int (cI IN))) := K_wO (k := 14) (MS_O h) rfl _ (by simp)
            have cp1 := pO (k := 14) (MS_O h) rfl (cI IN)
            have cr1 := wO_FIo (k := 14) (MS_O h) rfl (cI IN)
            have cu1 := wO_A (MS_O h) 14 (.int (cI IN))
            generalize wO μ 19 14 (.int (cI IN)) = cm1 at cs1 cp1 cr1 cu1
            have cV1 := MS_K h cs1
            have cs2 : K [] [(19, 9)] cm1 (wO cm1 19 9 (.int (4))) := K_wO (k := 9) (MS_O cV1) rfl _ (by simp)
            have cp2 := pO (k := 9) (MS_O cV1) rfl (4)
            have cr2 := wO_FIo (k := 9) (MS_O cV1) rfl (4)
            have cu2 := wO_A (MS_O cV1) 9 (.int (4))
            generalize wO cm1 19 9 (.int (4)) = cm2 at cs2 cp2 cr2 cu2
            have cV2 := MS_K cV1 cs2
            refine ⟨cm2, ?_, (cs1.mono (by simp) (by simp)).tr (cs2.mono (by simp) (by simp)), fun s' hs => ?_⟩
            · simp (disch := first | omega | decide | with_reducible assumption) only [i110_132, i110_133, i110_136, i110_137, i110_140, i110_141, i110_142, i110_143, i110_145, gM14 h, r3, kn, n41, b_v_s, b_i_s, b_n_s, b_r_s, b_r_n, b_m_s, b_c_s, b_c_v, if_true, if_false]
              rw [cI_s] at r3
              simp (disch := first | omega | decide | with_reducible assumption) only [i110_148, i110_149, i110_150, i110_153, i110_154, i110_157, i110_158, i110_161, i110_162, i110_163, i110_166, i110_167, gM14 h, gM13 h, r3, f8, b_v_s, b_i_s, b_n_s, b_r_s, b_r_n, b_m_s, b_c_s, b_c_v, cp1, cp2, Option.isSome, bI_t]
            · injection hs with hs
              subst hs
              refine ⟨by simp [cr2]; rfl, by simp [cr2, cr1, r2], by simp [cr2, cr1], fun b hb => ?_⟩
              rw [cu2, cu2, cu2, cu1, cu1, cu1]; exact r4 b hb
          · rw [if_neg c41]
            refine ⟨νb, ?_, sb', fun s' hs => ?_⟩
            · have e2 : (if kdC c = true ∧ sz < 24 then some (psh (st, sz, some k, kd, wd, pr) c) else none).isSome = decide (kdC c = true ∧ sz < 24) := by
                by_cases q : kdC c = true ∧ sz < 24
                · rw [if_pos q, decide_eq_true q]; rfl
                · rw [if_neg q, decide_eq_false q]; rfl
              rw [e2]
              simp (disch := first | omega | exact bI_and _ | decide | with_reducible assumption) only [i110_132, i110_133, i110_136, i110_137, i110_140, i110_141, i110_142, i110_143, i110_145, i110_168, i110_169, i110_170, i110_173, gM14 h, r3, kn, n41, eq_f, b_v_s, b_i_s, b_n_s, b_r_s, b_r_n, b_m_s, b_c_s, b_c_v, if_false, eb]
            · split at hs
              · rename_i q; injection hs with hs; rw [← hs]; exact fb q
              · cases hs
end readM
