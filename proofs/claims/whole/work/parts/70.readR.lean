/-! texts of rules are read, by both -/
def TRr : Tm := [some (some 10), none, none, none]
def RrV (μ : mM) : Prop := isO μ 9 7 TRr ∧ isA μ 10 0 6
theorem RrV_K {X : List Nat} {Y : List (Nat × Nat)} {μ ν : mM} (h : RrV μ) (k : K X Y μ ν) : RrV ν := ⟨K_isO k h.1, K_isA k h.2⟩
theorem RrV_o {μ : mM} (h : RrV μ) : isO μ 9 7 TRr := h.1
theorem RrV_10 {μ : mM} (h : RrV μ) : isA μ 10 0 6 := h.2
theorem gRr0 {μ : mM} (h : RrV μ) : m_gf μ 9 7 0 = some (.ref 10) := gO (e := some (some 10)) h.1 rfl
theorem gRr1 {μ : mM} (h : RrV μ) : m_gf μ 9 7 1 = some (.int (FI μ 9 1)) := gO (e := none) h.1 rfl
theorem gRr2 {μ : mM} (h : RrV μ) : m_gf μ 9 7 2 = some (.int (FI μ 9 2)) := gO (e := none) h.1 rfl
theorem gRr3 {μ : mM} (h : RrV μ) : m_gf μ 9 7 3 = some (.int (FI μ 9 3)) := gO (e := none) h.1 rfl
theorem RrV_oc {μ : mM} (h : RrV μ) : m_oc μ 9 = some 7 := gO_oc h.1
def RCr (μ : mM) (s : RS) : Prop := FI μ 9 1 = nI s.2.1 ∧ FI μ 9 2 = bI (decide (s.1 = 2)) ∧ FI μ 9 3 = bI (decide (s.1 = 1)) ∧ ∀ j, j < s.2.1 → A μ 10 j = nI (s.2.2 j)
def RMr (μ : mM) (s : RS) : Prop := FI μ 19 9 = nI s.1 ∧ FI μ 19 16 = nI s.2.1 ∧ ∀ j, j < s.2.1 → A μ 30 j = nI (asC (s.2.2 j))
theorem n47 : (47 : Int32) = nI 47 := rfl
theorem n42 : (42 : Int32) = nI 42 := rfl
theorem n62 : (62 : Int32) = nI 62 := rfl
section readR
variable {μ : mM}
set_option maxHeartbeats 2000000 in
theorem C_takesStep {s : RS} {t : Nat} (h : RrV μ) (h1 : FI μ 9 1 = nI s.2.1) (h3 : FI μ 9 3 = 0) (hj : ∀ j, j < s.2.1 → A μ 10 j = nI (s.2.2 j)) (h6 : s.2.1 < 6) : ∃ ν, m_D 56 [.ref 9, .int (nI t)] μ = some (some (.int 1), ν) ∧ K [10] [(9, 1), (9, 2), (9, 3)] μ ν ∧ RCr ν (adS s t) := by
  obtain ⟨st, sz, f⟩ := s
  dsimp only at *
  have cs1 : K [10] [] μ (wA μ 10 (upd (A μ 10) (sz) (nI t))) := K_wA (RrV_10 h) _ (by simp)
  have cp1 := pa_A (x := nI t) (k := sz) (RrV_10 h) h6 (by decide)
  have cr1 := wA_FI (RrV_10 h) (upd (A μ 10) (sz) (nI t))
  have cu1 := wA_A (RrV_10 h) (upd (A μ 10) (sz) (nI t))
  generalize wA μ 10 (upd (A μ 10) (sz) (nI t)) = cm1 at cs1 cp1 cr1 cu1
  have cV1 := RrV_K h cs1
  have cs2 : K [] [(9, 1)] cm1 (wO cm1 9 1 (.int (nI (sz + 1)))) := K_wO (k := 1) (RrV_o cV1) rfl _ (by simp)
  have cp2 := pO (k := 1) (RrV_o cV1) rfl (nI (sz + 1))
  have cr2 := wO_FIo (k := 1) (RrV_o cV1) rfl (nI (sz + 1))
  have cu2 := wO_A (RrV_o cV1) 1 (.int (nI (sz + 1)))
  generalize wO cm1 9 1 (.int (nI (sz + 1))) = cm2 at cs2 cp2 cr2 cu2
  have cV2 := RrV_K cV1 cs2
  have cs3 : K [] [(9, 2)] cm2 (wO cm2 9 2 (.int (bI true))) := K_wO (k := 2) (RrV_o cV2) rfl _ (by simp)
  have cp3 := pOb (k := 2) (RrV_o cV2) rfl true
  have cr3 := wO_FIo (k := 2) (RrV_o cV2) rfl (bI true)
  have cu3 := wO_A (RrV_o cV2) 2 (.int (bI true))
  generalize wO cm2 9 2 (.int (bI true)) = cm3 at cs3 cp3 cr3 cu3
  rw [bI_t] at cp3 cr3
  have cV3 := RrV_K cV2 cs3
  refine ⟨cm3, ?_, (cs1.mono (by simp) (by simp)).tr ((cs2.mono (by simp) (by simp)).tr (cs3.mono (by simp) (by simp))), ?_⟩
  · simp (disch := first | omega | decide | with_reducible assumption) only [D56, i56_0, i56_1, i56_4, i56_6, i56_9, i56_10, i56_11, i56_12, i56_15, i56_16, i56_19, i56_20, i56_21, i56_22, i56_22I, i56_23, i56_26, i56_27, i56_28, i56_31, i56_32, i56_33, i56_36, i56_37, gRr1 h, gRr0 h, gRr1 cV1, cr1, h1, n6, lt_t, b_v_s, b_i_s, b_n_s, b_r_s, b_r_n, b_m_s, b_c_s, b_c_v, if_true, nI_add1, cp1, cp2, cp3]
  · unfold adS
    refine ⟨by simp [cr3, cr2], by simp [cr3]; rfl, by simp [cr3, cr2, cr1, h3]; rfl, fun j hj' => ?_⟩
    have e : A cm3 10 = upd (A μ 10) sz (nI t) := by simp [cu3, cu2, cu1]
    dsimp only at hj' ⊢
    unfold updN
    rw [e, upd_at]
    by_cases q : j = sz
    · rw [if_pos q, if_pos q]
    · rw [if_neg q, if_neg q]; exact hj j (by omega)
theorem C_stepOfDigit {d : Nat} (hd : d < 10) : m_D 55 [.int (nI d)] μ = some (some (.int (nI (if d < 4 then 5 + d else 11 + d))), μ) := by
  by_cases q : d < 4
  · rw [if_pos q]
    simp (disch := first | omega | decide) only [D55, i55_0, i55_1, i55_2, i55_5, i55_6, i55_7, i55_8, i55_11, i55_13, i55_14, i55_15, i55_16, i55_17, n4, n5, lt_t, if_true, nI_plus]
  · rw [if_neg q, show 11 + d = 15 + d - 4 by omega]
    simp (disch := first | omega | decide) only [D55, i55_0, i55_1, i55_2, i55_5, i55_6, i55_7, i55_8, i55_11, i55_13, i55_14, i55_15, i55_16, i55_17, n4, n5, n15, lt_f, if_false, nI_plus, nI_minus]
set_option maxHeartbeats 4000000 in
theorem C_takesR {s : RS} {c : Nat} (h : RrV μ) (hR : RCr μ s) (hP : RI s) (hc : c < 127) : ∃ ν, m_D 54 [.ref 9, .int (nI c)] μ = some (some (.int (bI (rgS s c).isSome)), ν) ∧ K [10] [(9, 1), (9, 2), (9, 3)] μ ν ∧ ∀ s', rgS s c = some s' → RCr ν s' := by
  have ho := RrV_oc h
  have k1 : ∀ ξ : mM, m_D 45 [.int (nI c)] ξ = some (some (.int (bI (kdC c))), ξ) := fun ξ => C_isKind (by omega)
  have k2 := C_isDigit (μ := μ) (c := c) (by omega)
  obtain ⟨st, sz, f⟩ := s
  obtain ⟨r1, r2, r3, r4⟩ := hR
  obtain ⟨p1, p2, p3, p4⟩ := hP
  unfold rgS
  dsimp only at *
  by_cases e2 : st = 2
  · rw [if_pos e2]
    rw [decide_eq_true e2, bI_t] at r2
    rw [decide_eq_false (by omega), bI_f] at r3
    have cs1 : K [] [(9, 2)] μ (wO μ 9 2 (.int (bI false))) := K_wO (k := 2) (RrV_o h) rfl _ (by simp)
    have cp1 := pOb (k := 2) (RrV_o h) rfl false
    have cr1 := wO_FIo (k := 2) (RrV_o h) rfl (bI false)
    have cu1 := wO_A (RrV_o h) 2 (.int (bI false))
    generalize wO μ 9 2 (.int (bI false)) = cm1 at cs1 cp1 cr1 cu1
    rw [bI_f] at cp1 cr1
    have cV1 := RrV_K h cs1
    have g1 : FI cm1 9 1 = nI sz := by simp [cr1, r1]
    by_cases q : c = 47 ∧ sz < 6
    · rw [if_pos q]
      obtain ⟨rfl, q⟩ := q
      refine ⟨cm1, ?_, cs1.mono (by simp) (by simp), fun s' hs => ?_⟩
      · simp (disch := first | omega | decide | with_reducible assumption) only [D54, i54_0, i54_1, i54_4, i54_7, i54_8, i54_9, i54_12, i54_13, i54_15, i54_18, i54_19, i54_22, i54_24, i54_27, i54_28, i54_31, i54_32, gRr2 h, r2, ne10, b_v_s, b_i_s, b_n_s, b_r_s, b_r_n, b_m_s, b_c_s, b_c_v, if_false, cp1, n47, if_true, gRr1 cV1, g1, n6, lt_t, Option.isSome, ne10, bI_t]
      · injection hs with hs
        subst hs
        exact ⟨g1, by simp [cr1]; rfl, by simp [cr1, r3]; rfl, fun j hj => by rw [cu1]; exact r4 j hj⟩
    · rw [if_neg q]
      refine ⟨cm1, ?_, cs1.mono (by simp) (by simp), fun s' hs => by cases hs⟩
      by_cases q1 : c = 47
      · subst q1
        simp (disch := first | omega | decide | with_reducible assumption) only [D54, i54_0, i54_1, i54_4, i54_7, i54_8, i54_9, i54_12, i54_13, i54_15, i54_18, i54_19, i54_22, i54_24, i54_27, i54_28, i54_31, i54_32, gRr2 h, r2, ne10, b_v_s, b_i_s, b_n_s, b_r_s, b_r_n, b_m_s, b_c_s, b_c_v, if_false, cp1, n47, if_true, gRr1 cV1, g1, n6, lt_f, Option.isSome, bI_f]
      · simp (disch := first | omega | decide | with_reducible assumption) only [D54, i54_0, i54_1, i54_4, i54_7, i54_8, i54_9, i54_12, i54_13, i54_15, i54_18, i54_19, i54_22, i54_24, i54_27, i54_28, i54_31, i54_32, gRr2 h, r2, ne10, b_v_s, b_i_s, b_n_s, b_r_s, b_r_n, b_m_s, b_c_s, b_c_v, if_false, cp1, n47, eq_f, Option.isSome, bI_f]
  · rw [if_neg e2]
    rw [decide_eq_false e2, bI_f] at r2
    have h6 := p3 e2
    by_cases e1 : st = 1
    · rw [if_pos e1]
      rw [decide_eq_true e1, bI_t] at r3
      have cs1 : K [] [(9, 3)] μ (wO μ 9 3 (.int (bI false))) := K_wO (k := 3) (RrV_o h) rfl _ (by simp)
      have cp1 := pOb (k := 3) (RrV_o h) rfl false
      have cr1 := wO_FIo (k := 3) (RrV_o h) rfl (bI false)
      have cu1 := wO_A (RrV_o h) 3 (.int (bI false))
      generalize wO μ 9 3 (.int (bI false)) = cm1 at cs1 cp1 cr1 cu1
      rw [bI_f] at cp1 cr1
      have cV1 := RrV_K h cs1
      have g1 : FI cm1 9 1 = nI sz := by simp [cr1, r1]
      have g3 : FI cm1 9 3 = 0 := by simp [cr1]
      have k1' := k1 cm1
      have ho1 := RrV_oc cV1
      cases hk : kdC c with
      | false =>
        rw [hk] at k1'
        rw [if_neg (by decide)]
        refine ⟨cm1, ?_, cs1.mono (by simp) (by simp), fun s' hs => by cases hs⟩
        simp (disch := first | omega | decide | with_reducible assumption) only [D54, i54_0, i54_1, i54_4, i54_33, i54_34, i54_37, i54_40, i54_41, i54_42, i54_45, i54_46, i54_49, i54_52, i54_53, i54_55, i54_56, i54_57, i54_59, i54_60, i54_63, i54_66, i54_67, i54_70, i54_71, gRr2 h, gRr3 h, r2, r3, ne10, b_v_s, b_i_s, b_n_s, b_r_s, b_r_n, b_m_s, b_c_s, b_c_v, if_true, if_false, cp1, k1', bI_0, Option.isSome, bI_f]
      | true =>
        rw [hk] at k1'
        rw [if_pos rfl]
        have hcc := kd_of hk
        obtain ⟨ν, e, sx, fx⟩ := C_takesStep (s := (st, sz, f)) (t := 9 + (c - 97)) cV1 g1 g3 (fun j hj => by rw [cu1]; exact r4 j hj) h6
        have e9 : (9 : Int32) + nI c - 97 = nI (9 + (c - 97)) := by rw [n9, nI_plus, n97, nI_minus (by omega)]; congr 1; omega
        refine ⟨ν, ?_, (cs1.mono (by simp) (by simp)).tr sx, fun s' hs => by injection hs with hs; subst hs; exact fx⟩
        simp (disch := first | omega | decide | with_reducible assumption) only [D54, i54_0, i54_1, i54_4, i54_33, i54_34, i54_37, i54_40, i54_41, i54_42, i54_45, i54_46, i54_49, i54_52, i54_53, i54_55, i54_56, i54_57, i54_59, i54_60, i54_63, i54_66, i54_67, i54_70, i54_71, gRr2 h, gRr3 h, r2, r3, ne10, b_v_s, b_i_s, b_n_s, b_r_s, b_r_n, b_m_s, b_c_s, b_c_v, if_true, if_false, cp1, k1', bI_0, Bool.true_eq_false, e9, e, Option.isSome, ne10, bI_t]
    · rw [if_neg e1]
      rw [decide_eq_false e1, bI_f] at r3
      have k1' := k1 μ
      have stp : ∀ t, ∃ ν, m_D 56 [.ref 9, .int (nI t)] μ = some (some (.int 1), ν) ∧ K [10] [(9, 1), (9, 2), (9, 3)] μ ν ∧ RCr ν (adS (st, sz, f) t) := fun t => C_takesStep (s := (st, sz, f)) (t := t) h r1 r3 r4 h6
      by_cases c42 : c = 42
      · rw [if_pos c42]
        subst c42
        have cs1 : K [] [(9, 3)] μ (wO μ 9 3 (.int (bI true))) := K_wO (k := 3) (RrV_o h) rfl _ (by simp)
        have cp1 := pOb (k := 3) (RrV_o h) rfl true
        have cr1 := wO_FIo (k := 3) (RrV_o h) rfl (bI true)
        have cu1 := wO_A (RrV_o h) 3 (.int (bI true))
        generalize wO μ 9 3 (.int (bI true)) = cm1 at cs1 cp1 cr1 cu1
        rw [bI_t] at cp1 cr1
        have cV1 := RrV_K h cs1
        refine ⟨cm1, ?_, cs1.mono (by simp) (by simp), fun s' hs => ?_⟩
        · simp (disch := first | omega | decide | with_reducible assumption) only [D54, i54_0, i54_1, i54_4, i54_33, i54_34, i54_37, i54_72, i54_73, i54_75, i54_78, i54_79, i54_80, i54_83, i54_84, gRr2 h, gRr3 h, r2, r3, b_v_s, b_i_s, b_n_s, b_r_s, b_r_n, b_m_s, b_c_s, b_c_v, if_true, n42, cp1, Option.isSome, ne10, bI_t]
        · injection hs with hs
          subst hs
          exact ⟨by simp [cr1, r1], by simp [cr1, r2]; rfl, by simp [cr1]; rfl, fun j hj => by rw [cu1]; exact r4 j hj⟩
      · rw [if_neg c42]
        cases hk : kdC c with
        | true =>
          rw [hk] at k1'
          rw [if_pos rfl]
          have hcc := kd_of hk
          obtain ⟨ν, e, sx, fx⟩ := stp (c - 97)
          have e9 : (0 : Int32) + nI c - 97 = nI (c - 97) := by rw [Int32.zero_add, n97, nI_minus (by omega)]
          refine ⟨ν, ?_, sx, fun s' hs => by injection hs with hs; subst hs; exact fx⟩
          simp (disch := first | omega | decide | with_reducible assumption) only [D54, i54_0, i54_1, i54_4, i54_33, i54_34, i54_37, i54_72, i54_73, i54_75, i54_85, i54_86, i54_89, i54_92, i54_93, i54_94, i54_95, i54_96, i54_98, i54_99, i54_102, gRr2 h, gRr3 h, r2, r3, b_v_s, b_i_s, b_n_s, b_r_s, b_r_n, b_m_s, b_c_s, b_c_v, if_true, if_false, n42, eq_f, k1', bI_0, Bool.true_eq_false, e9, e, Option.isSome, ne10, bI_t]
        | false =>
          rw [hk] at k1'
          rw [if_neg (by decide)]
          cases hd : dgC c with
          | true =>
            rw [hd] at k2
            rw [if_pos rfl]
            have hcc := dg_of hd
            obtain ⟨ν, e, sx, fx⟩ := stp (if c - 48 < 4 then 5 + (c - 48) else 11 + (c - 48))
            have hsd := C_stepOfDigit (μ := μ) (d := c - 48) (by omega)
            refine ⟨ν, ?_, sx, fun s' hs => by injection hs with hs; subst hs; exact fx⟩
            simp (disch := first | omega | decide | with_reducible assumption) only [D54, i54_0, i54_1, i54_4, i54_33, i54_34, i54_37, i54_72, i54_73, i54_75, i54_85, i54_86, i54_89, i54_103, i54_104, i54_107, i54_110, i54_111, i54_112, i54_114, i54_115, i54_118, i54_121, gRr2 h, gRr3 h, r2, r3, b_v_s, b_i_s, b_n_s, b_r_s, b_r_n, b_m_s, b_c_s, b_c_v, if_true, if_false, n42, eq_f, k1', k2, bI_0, Bool.true_eq_false, n48, nI_minus, hsd, e, Option.isSome, ne10, bI_t]
          | false =>
            rw [hd] at k2
            rw [if_neg (by decide)]
            by_cases c62 : c = 62
            · rw [if_pos c62]
              subst c62
              obtain ⟨ν, e, sx, fx⟩ := stp 14
              refine ⟨ν, ?_, sx, fun s' hs => by injection hs with hs; subst hs; exact fx⟩
              simp (disch := first | omega | decide | with_reducible assumption) only [D54, i54_0, i54_1, i54_4, i54_33, i54_34, i54_37, i54_72, i54_73, i54_75, i54_85, i54_86, i54_89, i54_103, i54_104, i54_107, i54_122, i54_123, i54_125, i54_128, i54_129, i54_131, i54_134, i54_137, i54_138, i54_141, i54_142, gRr2 h, gRr3 h, r2, r3, b_v_s, b_i_s, b_n_s, b_r_s, b_r_n, b_m_s, b_c_s, b_c_v, if_true, if_false, n42, eq_f, k1', k2, bI_0, n62, n14, e, ne10, Option.isSome, ne10, bI_t]
            · rw [if_neg c62]
              refine ⟨μ, ?_, K.rf μ, fun s' hs => by cases hs⟩
              simp (disch := first | omega | decide | with_reducible assumption) only [D54, i54_0, i54_1, i54_4, i54_33, i54_34, i54_37, i54_72, i54_73, i54_75, i54_85, i54_86, i54_89, i54_103, i54_104, i54_107, i54_122, i54_123, i54_125, i54_128, i54_129, i54_131, i54_134, i54_137, i54_138, i54_141, i54_142, gRr2 h, gRr3 h, r2, r3, b_v_s, b_i_s, b_n_s, b_r_s, b_r_n, b_m_s, b_c_s, b_c_v, if_true, if_false, n42, eq_f, k1', k2, bI_0, n62, Option.isSome, bI_f]
set_option maxHeartbeats 2000000 in
theorem E_addStep {s : RS} {t : Nat} (h : MS μ) (h1 : FI μ 19 16 = nI s.2.1) (hj : ∀ j, j < s.2.1 → A μ 30 j = nI (asC (s.2.2 j))) (h6 : s.2.1 < 6) : ∃ ν, m_D 111 [.ref 19, .int (nI (asC t))] μ = some (none, ν) ∧ K [30] [(19, 9), (19, 16)] μ ν ∧ RMr ν (adS s t) := by
  obtain ⟨st, sz, f⟩ := s
  dsimp only at *
  have cs1 : K [30] [] μ (wA μ 30 (upd (A μ 30) (sz) (nI (asC t)))) := K_wA (aM30 h) _ (by simp)
  have cp1 := pa_A (x := nI (asC t)) (k := sz) (aM30 h) h6 (by decide)
  have cr1 := wA_FI (aM30 h) (upd (A μ 30) (sz) (nI (asC t)))
  have cu1 := wA_A (aM30 h) (upd (A μ 30) (sz) (nI (asC t)))
  generalize wA μ 30 (upd (A μ 30) (sz) (nI (asC t))) = cm1 at cs1 cp1 cr1 cu1
  have cV1 := MS_K h cs1
  have cs2 : K [] [(19, 16)] cm1 (wO cm1 19 16 (.int (nI (sz + 1)))) := K_wO (k := 16) (MS_O cV1) rfl _ (by simp)
  have cp2 := pO (k := 16) (MS_O cV1) rfl (nI (sz + 1))
  have cr2 := wO_FIo (k := 16) (MS_O cV1) rfl (nI (sz + 1))
  have cu2 := wO_A (MS_O cV1) 16 (.int (nI (sz + 1)))
  generalize wO cm1 19 16 (.int (nI (sz + 1))) = cm2 at cs2 cp2 cr2 cu2
  have cV2 := MS_K cV1 cs2
  have cs3 : K [] [(19, 9)] cm2 (wO cm2 19 9 (.int (2))) := K_wO (k := 9) (MS_O cV2) rfl _ (by simp)
  have cp3 := pO (k := 9) (MS_O cV2) rfl (2)
  have cr3 := wO_FIo (k := 9) (MS_O cV2) rfl (2)
  have cu3 := wO_A (MS_O cV2) 9 (.int (2))
  generalize wO cm2 19 9 (.int (2)) = cm3 at cs3 cp3 cr3 cu3
  have cV3 := MS_K cV2 cs3
  refine ⟨cm3, ?_, (cs1.mono (by simp) (by simp)).tr ((cs2.mono (by simp) (by simp)).tr (cs3.mono (by simp) (by simp))), ?_⟩
  · simp (disch := first | omega | decide | with_reducible assumption) only [D111, i111_0, i111_1, i111_4, i111_5, i111_8, i111_9, i111_10, i111_11, i111_11I, i111_12, i111_15, i111_16, i111_17, i111_20, i111_21, i111_22, i111_25, gM15 h, gM16 h, gM16 cV1, cr1, h1, b_v_s, b_i_s, b_n_s, b_r_s, b_r_n, b_m_s, b_c_s, b_c_v, nI_add1, cp1, cp2, cp3]
  · unfold adS
    refine ⟨by simp [cr3]; rfl, by simp [cr3, cr2], fun j hj' => ?_⟩
    have e : A cm3 30 = upd (A μ 30) sz (nI (asC t)) := by simp [cu3, cu2, cu1]
    dsimp only at hj' ⊢
    unfold updN
    rw [e, upd_at]
    by_cases q : j = sz
    · rw [if_pos q, if_pos q]
    · rw [if_neg q, if_neg q]; exact hj j (by omega)
set_option maxHeartbeats 4000000 in
theorem E_goRule {s : RS} {c : Nat} (h : MS μ) (hR : RMr μ s) (hP : RI s) (hc : c < 127) : ∃ ν, m_D 112 [.ref 19, .int (nI c)] μ = some (some (.int (bI (rgS s c).isSome)), ν) ∧ K [30] [(19, 9), (19, 16)] μ ν ∧ ∀ s', rgS s c = some s' → RMr ν s' := by
  have ho := oM_oc h
  have k1 := in_kd (μ := μ) (c := c) (by omega)
  have k2 := in_dg (μ := μ) (c := c) (by omega)
  obtain ⟨st, sz, f⟩ := s
  obtain ⟨r1, r2, r4⟩ := hR
  obtain ⟨p1, p2, p3, p4⟩ := hP
  unfold rgS
  dsimp only at *
  by_cases e2 : st = 2
  · rw [if_pos e2]
    subst e2
    have cs1 : K [] [(19, 9)] μ (wO μ 19 9 (.int (0))) := K_wO (k := 9) (MS_O h) rfl _ (by simp)
    have cp1 := pO (k := 9) (MS_O h) rfl (0)
    have cr1 := wO_FIo (k := 9) (MS_O h) rfl (0)
    have cu1 := wO_A (MS_O h) 9 (.int (0))
    generalize wO μ 19 9 (.int (0)) = cm1 at cs1 cp1 cr1 cu1
    have cV1 := MS_K h cs1
    have g1 : FI cm1 19 16 = nI sz := by simp [cr1, r2]
    by_cases q : c = 47 ∧ sz < 6
    · rw [if_pos q]
      obtain ⟨rfl, q⟩ := q
      refine ⟨cm1, ?_, cs1.mono (by simp) (by simp), fun s' hs => ?_⟩
      · simp (disch := first | omega | decide | with_reducible assumption) only [D112, i112_0, i112_1, i112_4, i112_5, i112_8, i112_9, i112_10, i112_13, i112_14, i112_16, i112_19, i112_20, i112_23, i112_25, i112_28, i112_29, i112_32, i112_33, gM9 h, r1, n2, b_v_s, b_i_s, b_n_s, b_r_s, b_r_n, b_m_s, b_c_s, b_c_v, if_true, cp1, n47, gM16 cV1, g1, n6, lt_t, Option.isSome, ne10, bI_t]
      · injection hs with hs
        subst hs
        exact ⟨by simp [cr1]; rfl, g1, fun j hj => by rw [cu1]; exact r4 j hj⟩
    · rw [if_neg q]
      refine ⟨cm1, ?_, cs1.mono (by simp) (by simp), fun s' hs => by cases hs⟩
      by_cases q1 : c = 47
      · subst q1
        simp (disch := first | omega | decide | with_reducible assumption) only [D112, i112_0, i112_1, i112_4, i112_5, i112_8, i112_9, i112_10, i112_13, i112_14, i112_16, i112_19, i112_20, i112_23, i112_25, i112_28, i112_29, i112_32, i112_33, gM9 h, r1, n2, b_v_s, b_i_s, b_n_s, b_r_s, b_r_n, b_m_s, b_c_s, b_c_v, if_true, if_false, cp1, n47, gM16 cV1, g1, n6, lt_f, Option.isSome, bI_f]
      · simp (disch := first | omega | decide | with_reducible assumption) only [D112, i112_0, i112_1, i112_4, i112_5, i112_8, i112_9, i112_10, i112_13, i112_14, i112_16, i112_19, i112_20, i112_23, i112_25, i112_28, i112_29, i112_32, i112_33, gM9 h, r1, n2, b_v_s, b_i_s, b_n_s, b_r_s, b_r_n, b_m_s, b_c_s, b_c_v, if_true, if_false, cp1, n47, eq_f, Option.isSome, bI_f]
  · rw [if_neg e2]
    have h6 := p3 e2
    have stp : ∀ t, ∃ ν, m_D 111 [.ref 19, .int (nI (asC t))] μ = some (none, ν) ∧ K [30] [(19, 9), (19, 16)] μ ν ∧ RMr ν (adS (st, sz, f) t) := fun t => E_addStep (s := (st, sz, f)) (t := t) h r2 r4 h6
    have go : m_D 112 [.ref 19, .int (nI c)] μ = m_G 112 34 [.ref 19, .int (nI c)] [] μ := by
      simp (disch := first | omega | decide | with_reducible assumption) only [D112, i112_0, i112_1, i112_4, i112_5, gM9 h, r1, n2, eq_f, b_v_s, b_i_s, b_n_s, b_r_s, b_r_n, b_m_s, b_c_s, b_c_v, if_false]
    rw [go]
    by_cases e1 : st = 1
    · rw [if_pos e1]
      subst e1
      cases hk : kdC c with
      | false =>
        rw [hk] at k1
        rw [if_neg (by decide)]
        refine ⟨μ, ?_, K.rf μ, fun s' hs => by cases hs⟩
        simp (disch := first | omega | decide | with_reducible assumption) only [i112_34, i112_35, i112_36, i112_39, i112_42, i112_45, i112_76, i112_77, i112_80, i112_81, i112_84, i112_85, k1, bI_0, gM9 h, r1, show (nI 1 = 1) = True from eq_true rfl, b_v_s, b_i_s, b_n_s, b_r_s, b_r_n, b_m_s, b_c_s, b_c_v, if_true, Option.isSome, bI_f]
      | true =>
        rw [hk] at k1
        rw [if_pos rfl]
        have hcc := kd_of hk
        obtain ⟨ν, e, sx, fx⟩ := stp (9 + (c - 97))
        have ea : asC (9 + (c - 97)) = 15 + (c - 97) := by unfold asC; rw [if_neg (by omega), if_pos (by omega)]; omega
        have e9 : (15 : Int32) + nI c - 97 = nI (asC (9 + (c - 97))) := by rw [ea, n15, nI_plus, n97, nI_minus (by omega)]; congr 1; omega
        refine ⟨ν, ?_, sx, fun s' hs => by injection hs with hs; subst hs; exact fx⟩
        simp (disch := first | omega | decide | with_reducible assumption) only [i112_34, i112_35, i112_36, i112_39, i112_42, i112_45, i112_48, i112_49, i112_50, i112_53, i112_54, i112_57, i112_59, i112_60, i112_61, i112_63, i112_64, i112_67, i112_68, i112_70, i112_71, i112_74, i112_75, k1, bI_0, Bool.true_eq_false, gM9 h, r1, show (nI 1 = 1) = True from eq_true rfl, b_v_s, b_i_s, b_n_s, b_r_s, b_r_n, b_m_s, b_c_s, b_c_v, if_true, if_false, e9, e, Option.isSome, ne10, bI_t]
    · rw [if_neg e1]
      have e0 : st = 0 := by omega
      have rn : (FI μ 19 9 = 1) = False := by rw [r1, e0]; exact eq_false (by decide)
      by_cases c42 : c = 42
      · rw [if_pos c42]
        subst c42
        have cs1 : K [] [(19, 9)] μ (wO μ 19 9 (.int (1))) := K_wO (k := 9) (MS_O h) rfl _ (by simp)
        have cp1 := pO (k := 9) (MS_O h) rfl (1)
        have cr1 := wO_FIo (k := 9) (MS_O h) rfl (1)
        have cu1 := wO_A (MS_O h) 9 (.int (1))
        generalize wO μ 19 9 (.int (1)) = cm1 at cs1 cp1 cr1 cu1
        have cV1 := MS_K h cs1
        have k42 : kdC 42 = false := by decide
        rw [k42] at k1
        refine ⟨cm1, ?_, cs1.mono (by simp) (by simp), fun s' hs => ?_⟩
        · simp (disch := first | omega | decide | with_reducible assumption) only [i112_34, i112_35, i112_36, i112_39, i112_42, i112_45, i112_76, i112_77, i112_80, i112_81, i112_84, i112_85, i112_86, i112_87, i112_89, i112_92, i112_93, i112_94, i112_97, i112_98, k1, bI_0, gM9 h, rn, b_v_s, b_i_s, b_n_s, b_r_s, b_r_n, b_m_s, b_c_s, b_c_v, if_true, if_false, n42, cp1, Option.isSome, ne10, bI_t]
        · injection hs with hs
          subst hs
          exact ⟨by simp [cr1]; rfl, by simp [cr1, r2], fun j hj => by rw [cu1]; exact r4 j hj⟩
      · rw [if_neg c42]
        cases hk : kdC c with
        | true =>
          rw [hk] at k1
          rw [if_pos rfl]
          have hcc := kd_of hk
          obtain ⟨ν, e, sx, fx⟩ := stp (c - 97)
          have ea : asC (c - 97) = c - 97 := by unfold asC; rw [if_pos (by omega)]
          rw [ea] at e
          refine ⟨ν, ?_, sx, fun s' hs => by injection hs with hs; subst hs; exact fx⟩
          simp (disch := first | omega | decide | with_reducible assumption) only [i112_34, i112_35, i112_36, i112_39, i112_42, i112_45, i112_48, i112_49, i112_50, i112_53, i112_54, i112_57, i112_59, i112_60, i112_61, i112_63, i112_64, i112_67, i112_68, i112_70, i112_71, i112_74, i112_75, k1, bI_0, Bool.true_eq_false, gM9 h, rn, b_v_s, b_i_s, b_n_s, b_r_s, b_r_n, b_m_s, b_c_s, b_c_v, if_false, n97, nI_minus, e, Option.isSome, ne10, bI_t]
        | false =>
          rw [hk] at k1
          rw [if_neg (by decide)]
          cases hd : dgC c with
          | true =>
            rw [hd] at k2
            rw [if_pos rfl]
            have hcc := dg_of hd
            obtain ⟨ν, e, sx, fx⟩ := stp (if c - 48 < 4 then 5 + (c - 48) else 11 + (c - 48))
            have ea : asC (if c - 48 < 4 then 5 + (c - 48) else 11 + (c - 48)) = 5 + (c - 48) := by
              by_cases q : c - 48 < 4
              · rw [if_pos q]; unfold asC; rw [if_pos (by omega)]
              · rw [if_neg q]; unfold asC; rw [if_neg (by omega), if_neg (by omega), if_neg (by omega)]; omega
            rw [ea] at e
            have e9 : (5 : Int32) + nI c - 48 = nI (5 + (c - 48)) := by rw [n5, nI_plus, n48, nI_minus (by omega)]; congr 1; omega
            refine ⟨ν, ?_, sx, fun s' hs => by injection hs with hs; subst hs; exact fx⟩
            simp (disch := first | omega | decide | with_reducible assumption) only [i112_34, i112_35, i112_36, i112_39, i112_42, i112_45, i112_76, i112_77, i112_80, i112_81, i112_84, i112_85, i112_86, i112_87, i112_89, i112_99, i112_100, i112_101, i112_104, i112_107, i112_110, i112_113, i112_114, i112_116, i112_119, i112_120, i112_121, i112_122, i112_123, i112_125, i112_128, i112_130, i112_133, i112_134, i112_135, i112_136, i112_138, i112_139, i112_142, i112_143, k1, k2, bI_0, Bool.true_eq_false, gM9 h, rn, b_v_s, b_i_s, b_n_s, b_r_s, b_r_n, b_m_s, b_c_s, b_c_v, if_true, if_false, n42, n62, eq_f, e9, e, Option.isSome, ne10, bI_t]
          | false =>
            rw [hd] at k2
            rw [if_neg (by decide)]
            by_cases c62 : c = 62
            · rw [if_pos c62]
              subst c62
              obtain ⟨ν, e, sx, fx⟩ := stp 14
              have ea : asC 14 = 20 := by decide
              rw [ea] at e
              refine ⟨ν, ?_, sx, fun s' hs => by injection hs with hs; subst hs; exact fx⟩
              simp (disch := first | omega | decide | with_reducible assumption) only [i112_34, i112_35, i112_36, i112_39, i112_42, i112_45, i112_76, i112_77, i112_80, i112_81, i112_84, i112_85, i112_86, i112_87, i112_89, i112_99, i112_100, i112_101, i112_104, i112_107, i112_110, i112_113, i112_114, i112_116, i112_119, i112_120, i112_121, i112_122, i112_123, i112_125, i112_128, i112_130, i112_133, i112_134, i112_135, i112_136, i112_138, i112_139, i112_142, i112_143, k1, k2, bI_0, gM9 h, rn, b_v_s, b_i_s, b_n_s, b_r_s, b_r_n, b_m_s, b_c_s, b_c_v, if_true, if_false, n42, n62, n20, eq_f, e, Option.isSome, ne10, bI_t]
            · rw [if_neg c62]
              refine ⟨μ, ?_, K.rf μ, fun s' hs => by cases hs⟩
              simp (disch := first | omega | decide | with_reducible assumption) only [i112_34, i112_35, i112_36, i112_39, i112_42, i112_45, i112_76, i112_77, i112_80, i112_81, i112_84, i112_85, i112_86, i112_87, i112_89, i112_99, i112_100, i112_101, i112_104, i112_107, i112_110, i112_113, i112_114, i112_116, i112_119, i112_120, k1, k2, bI_0, gM9 h, rn, b_v_s, b_i_s, b_n_s, b_r_s, b_r_n, b_m_s, b_c_s, b_c_v, if_true, if_false, n42, n62, eq_f, Option.isSome, bI_f]
end readR
