/-! the sheet is read, by both -/
def TCl : Tm := [some (some 1), none, some (some 2), none, some (some 3), none, some (some 4), none, some (some 5), some (some 9), some (some 11), none, some (some 14), some (some 15), some (some 18)]
def CV (μ : mM) : Prop := isO μ 0 8 TCl ∧ isA μ 1 2 90
theorem CV_K {X : List Nat} {Y : List (Nat × Nat)} {μ ν : mM} (h : CV μ) (k : K X Y μ ν) : CV ν := ⟨K_isO k h.1, K_isA k h.2⟩
theorem CV_o {μ : mM} (h : CV μ) : isO μ 0 8 TCl := h.1
theorem CV_1 {μ : mM} (h : CV μ) : isA μ 1 2 90 := h.2
theorem CV_oc {μ : mM} (h : CV μ) : m_oc μ 0 = some 8 := gO_oc h.1
theorem gC0 {μ : mM} (h : CV μ) : m_gf μ 0 8 0 = some (.ref 1) := gO (e := some (some 1)) h.1 rfl
theorem gC1 {μ : mM} (h : CV μ) : m_gf μ 0 8 1 = some (.int (FI μ 0 1)) := gO (e := none) h.1 rfl
theorem gC2 {μ : mM} (h : CV μ) : m_gf μ 0 8 2 = some (.ref 2) := gO (e := some (some 2)) h.1 rfl
theorem gC3 {μ : mM} (h : CV μ) : m_gf μ 0 8 3 = some (.int (FI μ 0 3)) := gO (e := none) h.1 rfl
theorem gC4 {μ : mM} (h : CV μ) : m_gf μ 0 8 4 = some (.ref 3) := gO (e := some (some 3)) h.1 rfl
theorem gC5 {μ : mM} (h : CV μ) : m_gf μ 0 8 5 = some (.int (FI μ 0 5)) := gO (e := none) h.1 rfl
theorem gC6 {μ : mM} (h : CV μ) : m_gf μ 0 8 6 = some (.ref 4) := gO (e := some (some 4)) h.1 rfl
theorem gC7 {μ : mM} (h : CV μ) : m_gf μ 0 8 7 = some (.int (FI μ 0 7)) := gO (e := none) h.1 rfl
theorem gC8 {μ : mM} (h : CV μ) : m_gf μ 0 8 8 = some (.ref 5) := gO (e := some (some 5)) h.1 rfl
theorem gC9 {μ : mM} (h : CV μ) : m_gf μ 0 8 9 = some (.ref 9) := gO (e := some (some 9)) h.1 rfl
theorem gC10 {μ : mM} (h : CV μ) : m_gf μ 0 8 10 = some (.ref 11) := gO (e := some (some 11)) h.1 rfl
theorem gC11 {μ : mM} (h : CV μ) : m_gf μ 0 8 11 = some (.int (FI μ 0 11)) := gO (e := none) h.1 rfl
theorem gC12 {μ : mM} (h : CV μ) : m_gf μ 0 8 12 = some (.ref 14) := gO (e := some (some 14)) h.1 rfl
theorem gC13 {μ : mM} (h : CV μ) : m_gf μ 0 8 13 = some (.ref 15) := gO (e := some (some 15)) h.1 rfl
theorem gC14 {μ : mM} (h : CV μ) : m_gf μ 0 8 14 = some (.ref 18) := gO (e := some (some 18)) h.1 rfl
abbrev yPr : List (Nat × Nat) := [(5, 3), (5, 4), (5, 5), (5, 6), (5, 7)]
section sheet
variable {μ : mM}
theorem C_restartP (h : PrV μ) : ∃ ν, m_D 31 [.ref 5] μ = some (none, ν) ∧ K [] yPr μ ν ∧ RC ν iniP := by
  have cs1 : K [] [(5, 3)] μ (wO μ 5 3 (.int (0))) := K_wO (k := 3) (PrV_o h) rfl _ (by simp)
  have cp1 := pO (k := 3) (PrV_o h) rfl (0)
  have cr1 := wO_FIo (k := 3) (PrV_o h) rfl (0)
  have cu1 := wO_A (PrV_o h) 3 (.int (0))
  generalize wO μ 5 3 (.int (0)) = cm1 at cs1 cp1 cr1 cu1
  have cV1 := PrV_K h cs1
  have cs2 : K [] [(5, 4)] cm1 (wO cm1 5 4 (.int (-1))) := K_wO (k := 4) (PrV_o cV1) rfl _ (by simp)
  have cp2 := pO (k := 4) (PrV_o cV1) rfl (-1)
  have cr2 := wO_FIo (k := 4) (PrV_o cV1) rfl (-1)
  have cu2 := wO_A (PrV_o cV1) 4 (.int (-1))
  generalize wO cm1 5 4 (.int (-1)) = cm2 at cs2 cp2 cr2 cu2
  have cV2 := PrV_K cV1 cs2
  have cs3 : K [] [(5, 5)] cm2 (wO cm2 5 5 (.int (0))) := K_wO (k := 5) (PrV_o cV2) rfl _ (by simp)
  have cp3 := pO (k := 5) (PrV_o cV2) rfl (0)
  have cr3 := wO_FIo (k := 5) (PrV_o cV2) rfl (0)
  have cu3 := wO_A (PrV_o cV2) 5 (.int (0))
  generalize wO cm2 5 5 (.int (0)) = cm3 at cs3 cp3 cr3 cu3
  have cV3 := PrV_K cV2 cs3
  have cs4 : K [] [(5, 6)] cm3 (wO cm3 5 6 (.int (bI false))) := K_wO (k := 6) (PrV_o cV3) rfl _ (by simp)
  have cp4 := pOb (k := 6) (PrV_o cV3) rfl false
  have cr4 := wO_FIo (k := 6) (PrV_o cV3) rfl (bI false)
  have cu4 := wO_A (PrV_o cV3) 6 (.int (bI false))
  generalize wO cm3 5 6 (.int (bI false)) = cm4 at cs4 cp4 cr4 cu4
  rw [bI_f] at cp4 cr4
  have cV4 := PrV_K cV3 cs4
  have cs5 : K [] [(5, 7)] cm4 (wO cm4 5 7 (.int (bI false))) := K_wO (k := 7) (PrV_o cV4) rfl _ (by simp)
  have cp5 := pOb (k := 7) (PrV_o cV4) rfl false
  have cr5 := wO_FIo (k := 7) (PrV_o cV4) rfl (bI false)
  have cu5 := wO_A (PrV_o cV4) 7 (.int (bI false))
  generalize wO cm4 5 7 (.int (bI false)) = cm5 at cs5 cp5 cr5 cu5
  rw [bI_f] at cp5 cr5
  have cV5 := PrV_K cV4 cs5
  refine ⟨cm5, ?_, (cs1.mono (by simp) (by simp)).tr ((cs2.mono (by simp) (by simp)).tr ((cs3.mono (by simp) (by simp)).tr ((cs4.mono (by simp) (by simp)).tr (cs5.mono (by simp) (by simp))))), ?_⟩
  · simp only [D31, i31_0, i31_1, i31_2, i31_5, i31_6, i31_7, i31_10, i31_11, i31_12, i31_15, i31_16, i31_17, i31_20, i31_21, i31_22, i31_25, cp1, cp2, cp3, cp4, cp5, b_v_s, b_i_s, b_n_s, b_r_s, b_r_n, b_m_s, b_c_s, b_c_v]
  · exact ⟨by simp [cr5, cr4, cr3, cr2, cr1]; rfl, by simp [cr5, cr4, cr3, cr2]; rfl, fun q => absurd q (by decide), by simp [cr5, cr4]; rfl, by simp [cr5]; rfl, fun b q => absurd q (Nat.not_lt_zero b)⟩
theorem C_restartR (h : RrV μ) : ∃ ν, m_D 52 [.ref 9] μ = some (none, ν) ∧ K [] [(9, 1), (9, 2), (9, 3)] μ ν ∧ RCr ν iniR := by
  have cs1 : K [] [(9, 1)] μ (wO μ 9 1 (.int (0))) := K_wO (k := 1) (RrV_o h) rfl _ (by simp)
  have cp1 := pO (k := 1) (RrV_o h) rfl (0)
  have cr1 := wO_FIo (k := 1) (RrV_o h) rfl (0)
  have cu1 := wO_A (RrV_o h) 1 (.int (0))
  generalize wO μ 9 1 (.int (0)) = cm1 at cs1 cp1 cr1 cu1
  have cV1 := RrV_K h cs1
  have cs2 : K [] [(9, 2)] cm1 (wO cm1 9 2 (.int (bI false))) := K_wO (k := 2) (RrV_o cV1) rfl _ (by simp)
  have cp2 := pOb (k := 2) (RrV_o cV1) rfl false
  have cr2 := wO_FIo (k := 2) (RrV_o cV1) rfl (bI false)
  have cu2 := wO_A (RrV_o cV1) 2 (.int (bI false))
  generalize wO cm1 9 2 (.int (bI false)) = cm2 at cs2 cp2 cr2 cu2
  rw [bI_f] at cp2 cr2
  have cV2 := RrV_K cV1 cs2
  have cs3 : K [] [(9, 3)] cm2 (wO cm2 9 3 (.int (bI false))) := K_wO (k := 3) (RrV_o cV2) rfl _ (by simp)
  have cp3 := pOb (k := 3) (RrV_o cV2) rfl false
  have cr3 := wO_FIo (k := 3) (RrV_o cV2) rfl (bI false)
  have cu3 := wO_A (RrV_o cV2) 3 (.int (bI false))
  generalize wO cm2 9 3 (.int (bI false)) = cm3 at cs3 cp3 cr3 cu3
  rw [bI_f] at cp3 cr3
  have cV3 := RrV_K cV2 cs3
  refine ⟨cm3, ?_, (cs1.mono (by simp) (by simp)).tr ((cs2.mono (by simp) (by simp)).tr (cs3.mono (by simp) (by simp))), ?_⟩
  · simp only [D52, i52_0, i52_1, i52_2, i52_5, i52_6, i52_7, i52_10, i52_11, i52_12, i52_15, cp1, cp2, cp3, b_v_s, b_i_s, b_n_s, b_r_s, b_r_n, b_m_s, b_c_s, b_c_v]
  · exact ⟨by simp [cr3, cr2, cr1]; rfl, by simp [cr3, cr2]; rfl, by simp [cr3]; rfl, fun b q => absurd q (Nat.not_lt_zero b)⟩
def SHo (μ : mM) (ns : Nat) (sh : Nat → Nat) : Prop := ns ≤ 90 ∧ FI μ 0 1 = nI ns ∧ (∀ i, i < ns → A μ 1 i = nI (sh i)) ∧ ∀ i, i < ns → sh i < 127
theorem SHo_K {X : List Nat} {Y : List (Nat × Nat)} {μ ν : mM} {ns : Nat} {sh : Nat → Nat} (h : SHo μ ns sh) (k : K X Y μ ν) (hX : 1 ∉ X) (hY : (0, 1) ∉ Y) : SHo ν ns sh := ⟨h.1, by rw [K_FI k hY]; exact h.2.1, by rw [K_A k hX]; exact h.2.2.1, h.2.2.2⟩
set_option maxHeartbeats 1000000 in
theorem C_readP {ns : Nat} {sh : Nat → Nat} (h : CV μ) (hp : PrV μ) (hs : SHo μ ns sh) : ∃ ν, m_D 62 [.ref 0, .ref 5] μ = some (some (.int (nI (flP sh ns 0 iniP).1)), ν) ∧ K [6, 7, 8] yPr μ ν ∧ ∀ s', (flP sh ns 0 iniP).2 = some s' → RC ν s' := by
  obtain ⟨ν1, e1, s1, f1⟩ := C_restartP hp
  have key : ∀ r i s ν, i + r = ns → CV ν → PrV ν → SHo ν ns sh → RC ν s → PI s → ∃ ξ, m_G 62 6 [.ref 0, .ref 5, .int (nI i)] [] ν = some (some (.int (nI (flP sh r i s).1)), ξ) ∧ K [6, 7, 8] yPr ν ξ ∧ ∀ s', (flP sh r i s).2 = some s' → RC ξ s' := by
    intro r
    induction r with
    | zero =>
      intro i s ν hi hC hP hS hR hI
      have h90 := hS.1
      have hi' : i = ns := by omega
      subst hi'
      refine ⟨ν, ?_, K.rf ν, fun s' q => by injection q with q; rw [← q]; exact hR⟩
      rw [i62_6, flP]
      simp (disch := first | omega | decide | with_reducible assumption) only [i62_7, i62_8, i62_11, i62_35, i62_36, i62_39, gC1 hC, hS.2.1, lt_f, b_v_s, b_i_s, b_n_s, b_r_s, b_r_n, b_m_s, b_c_s, b_c_v, if_false]
    | succ r ih =>
      intro i s ν hi hC hP hS hR hI
      have h90 := hS.1
      have ho := PrV_oc hP
      obtain ⟨ξ, e, k, f⟩ := C_takes (c := sh i) hP hR hI (hS.2.2.2 i (by omega))
      have g1 := gb_A (k := i) (CV_1 hC) (Or.inr rfl) (by omega) (by decide)
      rw [hS.2.2.1 i (by omega)] at g1
      rw [flP_st]
      cases hp : pgS s (sh i) with
      | none =>
        rw [hp] at e
        refine ⟨ξ, ?_, k, fun s' q => by cases q⟩
        rw [i62_6]
        have e' : m_D 33 [.ref 5, .int (nI (sh i))] ν = some (some (.int 0), ξ) := e
        simp (disch := first | omega | decide | with_reducible assumption) only [i62_7, i62_8, i62_11, i62_14, i62_15, i62_16, i62_19, i62_20, i62_21_P, i62_24, i62_27, i62_28, gC1 hC, gC0 hC, hS.2.1, lt_t, g1, e', b_v_s, b_i_s, b_n_s, b_r_s, b_r_n, b_m_s, b_c_s, b_c_v, if_true]
      | some t =>
        rw [hp] at e
        have e' : m_D 33 [.ref 5, .int (nI (sh i))] ν = some (some (.int 1), ξ) := e
        obtain ⟨ζ, e3, k3, f3⟩ := ih (i + 1) t ξ (by omega) (CV_K hC k) (PrV_K hP k) (SHo_K hS k (by simp) (by simp)) (f t hp) (PI_st hI hp)
        refine ⟨ζ, ?_, k.tr k3, f3⟩
        rw [i62_6]
        simp (disch := first | omega | decide | with_reducible assumption) only [i62_7, i62_8, i62_11, i62_14, i62_15, i62_16, i62_19, i62_20, i62_21_P, i62_24, i62_27, i62_28, i62_29, i62_32, gC1 hC, gC0 hC, hS.2.1, lt_t, g1, e', ne10, b_v_s, b_i_s, b_n_s, b_r_s, b_r_n, b_m_s, b_c_s, b_c_v, if_true, if_false, nI_add1, e3]
  obtain ⟨ξ, e, k, f⟩ := key ns 0 iniP ν1 (by omega) (CV_K h s1) (PrV_K hp s1) (SHo_K hs s1 (by simp) (by simp)) f1 PI_ini
  have ho := PrV_oc hp
  refine ⟨ξ, ?_, (s1.mono (by simp) (fun _ q => q)).tr k, f⟩
  simp (disch := first | omega | decide | with_reducible assumption) only [D62, i62_0, i62_1_P, i62_4, i62_5, e1, b_v_s, b_i_s, b_n_s, b_r_s, b_r_n, b_m_s, b_c_s, b_c_v]
  exact e
set_option maxHeartbeats 1000000 in
theorem C_readR {ns : Nat} {sh : Nat → Nat} (h : CV μ) (hp : RrV μ) (hs : SHo μ ns sh) : ∃ ν, m_D 62 [.ref 0, .ref 9] μ = some (some (.int (nI (flR sh ns 0 iniR).1)), ν) ∧ K [10] [(9, 1), (9, 2), (9, 3)] μ ν ∧ ∀ s', (flR sh ns 0 iniR).2 = some s' → RCr ν s' := by
  obtain ⟨ν1, e1, s1, f1⟩ := C_restartR hp
  have key : ∀ r i s ν, i + r = ns → CV ν → RrV ν → SHo ν ns sh → RCr ν s → RI s → ∃ ξ, m_G 62 6 [.ref 0, .ref 9, .int (nI i)] [] ν = some (some (.int (nI (flR sh r i s).1)), ξ) ∧ K [10] [(9, 1), (9, 2), (9, 3)] ν ξ ∧ ∀ s', (flR sh r i s).2 = some s' → RCr ξ s' := by
    intro r
    induction r with
    | zero =>
      intro i s ν hi hC hP hS hR hI
      have h90 := hS.1
      have hi' : i = ns := by omega
      subst hi'
      refine ⟨ν, ?_, K.rf ν, fun s' q => by injection q with q; rw [← q]; exact hR⟩
      rw [i62_6, flR]
      simp (disch := first | omega | decide | with_reducible assumption) only [i62_7, i62_8, i62_11, i62_35, i62_36, i62_39, gC1 hC, hS.2.1, lt_f, b_v_s, b_i_s, b_n_s, b_r_s, b_r_n, b_m_s, b_c_s, b_c_v, if_false]
    | succ r ih =>
      intro i s ν hi hC hP hS hR hI
      have h90 := hS.1
      have ho := RrV_oc hP
      obtain ⟨ξ, e, k, f⟩ := C_takesR (c := sh i) hP hR hI (hS.2.2.2 i (by omega))
      have g1 := gb_A (k := i) (CV_1 hC) (Or.inr rfl) (by omega) (by decide)
      rw [hS.2.2.1 i (by omega)] at g1
      rw [flR_st]
      cases hp : rgS s (sh i) with
      | none =>
        rw [hp] at e
        refine ⟨ξ, ?_, k, fun s' q => by cases q⟩
        rw [i62_6]
        have e' : m_D 54 [.ref 9, .int (nI (sh i))] ν = some (some (.int 0), ξ) := e
        simp (disch := first | omega | decide | with_reducible assumption) only [i62_7, i62_8, i62_11, i62_14, i62_15, i62_16, i62_19, i62_20, i62_21_R, i62_24, i62_27, i62_28, gC1 hC, gC0 hC, hS.2.1, lt_t, g1, e', b_v_s, b_i_s, b_n_s, b_r_s, b_r_n, b_m_s, b_c_s, b_c_v, if_true]
      | some t =>
        rw [hp] at e
        have e' : m_D 54 [.ref 9, .int (nI (sh i))] ν = some (some (.int 1), ξ) := e
        obtain ⟨ζ, e3, k3, f3⟩ := ih (i + 1) t ξ (by omega) (CV_K hC k) (RrV_K hP k) (SHo_K hS k (by simp) (by simp)) (f t hp) (RI_st hI hp)
        refine ⟨ζ, ?_, k.tr k3, f3⟩
        rw [i62_6]
        simp (disch := first | omega | decide | with_reducible assumption) only [i62_7, i62_8, i62_11, i62_14, i62_15, i62_16, i62_19, i62_20, i62_21_R, i62_24, i62_27, i62_28, i62_29, i62_32, gC1 hC, gC0 hC, hS.2.1, lt_t, g1, e', ne10, b_v_s, b_i_s, b_n_s, b_r_s, b_r_n, b_m_s, b_c_s, b_c_v, if_true, if_false, nI_add1, e3]
  obtain ⟨ξ, e, k, f⟩ := key ns 0 iniR ν1 (by omega) (CV_K h s1) (RrV_K hp s1) (SHo_K hs s1 (by simp) (by simp)) f1 RI_ini
  have ho := RrV_oc hp
  refine ⟨ξ, ?_, (s1.mono (by simp) (fun _ q => q)).tr k, f⟩
  simp (disch := first | omega | decide | with_reducible assumption) only [D62, i62_0, i62_1_R, i62_4, i62_5, e1, b_v_s, b_i_s, b_n_s, b_r_s, b_r_n, b_m_s, b_c_s, b_c_v]
  exact e
/-! the model's -/
def SHm (μ : mM) (ns : Nat) (sh : Nat → Nat) : Prop := ns ≤ 90 ∧ FI μ 19 8 = nI ns ∧ (∀ i, i < ns → A μ 26 i = nI (sh i)) ∧ ∀ i, i < ns → sh i < 127
theorem SHm_K {X : List Nat} {Y : List (Nat × Nat)} {μ ν : mM} {ns : Nat} {sh : Nat → Nat} (h : SHm μ ns sh) (k : K X Y μ ν) (hX : 26 ∉ X) (hY : (19, 8) ∉ Y) : SHm ν ns sh := ⟨h.1, by rw [K_FI k hY]; exact h.2.1, by rw [K_A k hX]; exact h.2.2.1, h.2.2.2⟩
abbrev yRd : List (Nat × Nat) := [(19, 9), (19, 10), (19, 14), (19, 16)]
theorem E_faultStart (h : MS μ) (t : Int32) : ∃ ν, m_D 113 [.ref 19, .int t] μ = m_G 113 22 [.ref 19, .int t, .int (nI 0)] [] ν ∧ K [] yRd μ ν ∧ RM ν iniP ∧ RMr ν iniR := by
  have cs1 : K [] [(19, 9)] μ (wO μ 19 9 (.int (0))) := K_wO (k := 9) (MS_O h) rfl _ (by simp)
  have cp1 := pO (k := 9) (MS_O h) rfl (0)
  have cr1 := wO_FIo (k := 9) (MS_O h) rfl (0)
  have cu1 := wO_A (MS_O h) 9 (.int (0))
  generalize wO μ 19 9 (.int (0)) = cm1 at cs1 cp1 cr1 cu1
  have cV1 := MS_K h cs1
  have cs2 : K [] [(19, 10)] cm1 (wO cm1 19 10 (.int (0))) := K_wO (k := 10) (MS_O cV1) rfl _ (by simp)
  have cp2 := pO (k := 10) (MS_O cV1) rfl (0)
  have cr2 := wO_FIo (k := 10) (MS_O cV1) rfl (0)
  have cu2 := wO_A (MS_O cV1) 10 (.int (0))
  generalize wO cm1 19 10 (.int (0)) = cm2 at cs2 cp2 cr2 cu2
  have cV2 := MS_K cV1 cs2
  have cs3 : K [] [(19, 14)] cm2 (wO cm2 19 14 (.int (-1))) := K_wO (k := 14) (MS_O cV2) rfl _ (by simp)
  have cp3 := pO (k := 14) (MS_O cV2) rfl (-1)
  have cr3 := wO_FIo (k := 14) (MS_O cV2) rfl (-1)
  have cu3 := wO_A (MS_O cV2) 14 (.int (-1))
  generalize wO cm2 19 14 (.int (-1)) = cm3 at cs3 cp3 cr3 cu3
  have cV3 := MS_K cV2 cs3
  have cs4 : K [] [(19, 16)] cm3 (wO cm3 19 16 (.int (0))) := K_wO (k := 16) (MS_O cV3) rfl _ (by simp)
  have cp4 := pO (k := 16) (MS_O cV3) rfl (0)
  have cr4 := wO_FIo (k := 16) (MS_O cV3) rfl (0)
  have cu4 := wO_A (MS_O cV3) 16 (.int (0))
  generalize wO cm3 19 16 (.int (0)) = cm4 at cs4 cp4 cr4 cu4
  have cV4 := MS_K cV3 cs4
  refine ⟨cm4, ?_, (cs1.mono (by simp) (by simp)).tr ((cs2.mono (by simp) (by simp)).tr ((cs3.mono (by simp) (by simp)).tr (cs4.mono (by simp) (by simp)))), ⟨by simp [cr4, cr3, cr2, cr1]; rfl, by simp [cr4, cr3, cr2]; rfl, by simp [cr4, cr3]; rfl, fun b q => absurd q (Nat.not_lt_zero b)⟩, ⟨by simp [cr4, cr3, cr2, cr1]; rfl, by simp [cr4]; rfl, fun b q => absurd q (Nat.not_lt_zero b)⟩⟩
  simp only [D113, i113_0, i113_1, i113_2, i113_5, i113_6, i113_7, i113_10, i113_11, i113_12, i113_15, i113_16, i113_17, i113_20, i113_21, cp1, cp2, cp3, cp4, b_v_s, b_i_s, b_n_s, b_r_s, b_r_n, b_m_s, b_c_s, b_c_v]
  rfl
set_option maxHeartbeats 1000000 in
theorem E_faultP {ns : Nat} {sh : Nat → Nat} (h : MS μ) (hs : SHm μ ns sh) : ∃ ν, m_D 113 [.ref 19, .int 0] μ = some (some (.int (nI (flP sh ns 0 iniP).1)), ν) ∧ K [27, 28, 29, 30] yRd μ ν ∧ ∀ s', (flP sh ns 0 iniP).2 = some s' → RM ν s' := by
  obtain ⟨ν1, e1, s1, f1, _⟩ := E_faultStart h 0
  have key : ∀ r i s ν, i + r = ns → MS ν → SHm ν ns sh → RM ν s → PI s → ∃ ξ, m_G 113 22 [.ref 19, .int 0, .int (nI i)] [] ν = some (some (.int (nI (flP sh r i s).1)), ξ) ∧ K [27, 28, 29, 30] yRd ν ξ ∧ ∀ s', (flP sh r i s).2 = some s' → RM ξ s' := by
    intro r
    induction r with
    | zero =>
      intro i s ν hi hM hS hR hI
      have h90 := hS.1
      have hi' : i = ns := by omega
      subst hi'
      refine ⟨ν, ?_, K.rf ν, fun s' q => by injection q with q; rw [← q]; exact hR⟩
      rw [i113_22, flP]
      simp (disch := first | omega | decide | with_reducible assumption) only [i113_23, i113_24, i113_27, i113_69, i113_70, gM8 hM, hS.2.1, lt_f, b_v_s, b_i_s, b_n_s, b_r_s, b_r_n, b_m_s, b_c_s, b_c_v, if_false]
    | succ r ih =>
      intro i s ν hi hM hS hR hI
      have h90 := hS.1
      have ho := oM_oc hM
      obtain ⟨ξ, e, k0, f⟩ := E_goPage (c := sh i) hM hR hI (hS.2.2.2 i (by omega))
      have k : K [27, 28, 29, 30] yRd ν ξ := k0.mono (by simp) (by simp)
      have g1 := ga_A (k := i) (aM26 hM) (by omega) (by decide)
      rw [hS.2.2.1 i (by omega)] at g1
      rw [flP_st]
      cases hp : pgS s (sh i) with
      | none =>
        rw [hp] at e
        refine ⟨ξ, ?_, k, fun s' q => by cases q⟩
        rw [i113_22]
        have e' : m_D 110 [.ref 19, .int (nI (sh i))] ν = some (some (.int 0), ξ) := e
        simp (disch := first | omega | decide | with_reducible assumption) only [i113_23, i113_24, i113_27, i113_30, i113_31, i113_34, i113_35, i113_36, i113_39, i113_40, i113_41, i113_44, i113_69, i113_70, gM8 hM, gM7 hM, hS.2.1, lt_t, g1, e', b_v_s, b_i_s, b_n_s, b_r_s, b_r_n, b_m_s, b_c_s, b_c_v, if_true]
      | some t =>
        rw [hp] at e
        have e' : m_D 110 [.ref 19, .int (nI (sh i))] ν = some (some (.int 1), ξ) := e
        obtain ⟨ζ, e3, k3, f3⟩ := ih (i + 1) t ξ (by omega) (MS_K hM k) (SHm_K hS k (by simp) (by simp)) (f t hp) (PI_st hI hp)
        refine ⟨ζ, ?_, k.tr k3, f3⟩
        rw [i113_22]
        simp (disch := first | omega | decide | with_reducible assumption) only [i113_23, i113_24, i113_27, i113_30, i113_31, i113_34, i113_35, i113_36, i113_39, i113_40, i113_41, i113_44, i113_47, i113_50, i113_51, i113_52, i113_55, i113_56, i113_57, i113_60, i113_63, i113_66, gM8 hM, gM7 hM, hS.2.1, lt_t, g1, e', ne10, b_v_s, b_i_s, b_n_s, b_r_s, b_r_n, b_m_s, b_c_s, b_c_v, if_true, if_false, nI_add1, e3]
  obtain ⟨ξ, e, k, f⟩ := key ns 0 iniP ν1 (by omega) (MS_K h s1) (SHm_K hs s1 (by simp) (by simp)) f1 PI_ini
  exact ⟨ξ, e1.trans e, (s1.mono (by simp) (fun _ q => q)).tr k, f⟩
set_option maxHeartbeats 1000000 in
theorem E_faultR {ns : Nat} {sh : Nat → Nat} (h : MS μ) (hs : SHm μ ns sh) : ∃ ν, m_D 113 [.ref 19, .int 1] μ = some (some (.int (nI (flR sh ns 0 iniR).1)), ν) ∧ K [27, 28, 29, 30] yRd μ ν ∧ ∀ s', (flR sh ns 0 iniR).2 = some s' → RMr ν s' := by
  obtain ⟨ν1, e1, s1, _, f1⟩ := E_faultStart h 1
  have key : ∀ r i s ν, i + r = ns → MS ν → SHm ν ns sh → RMr ν s → RI s → ∃ ξ, m_G 113 22 [.ref 19, .int 1, .int (nI i)] [] ν = some (some (.int (nI (flR sh r i s).1)), ξ) ∧ K [27, 28, 29, 30] yRd ν ξ ∧ ∀ s', (flR sh r i s).2 = some s' → RMr ξ s' := by
    intro r
    induction r with
    | zero =>
      intro i s ν hi hM hS hR hI
      have h90 := hS.1
      have hi' : i = ns := by omega
      subst hi'
      refine ⟨ν, ?_, K.rf ν, fun s' q => by injection q with q; rw [← q]; exact hR⟩
      rw [i113_22, flR]
      simp (disch := first | omega | decide | with_reducible assumption) only [i113_23, i113_24, i113_27, i113_69, i113_70, gM8 hM, hS.2.1, lt_f, b_v_s, b_i_s, b_n_s, b_r_s, b_r_n, b_m_s, b_c_s, b_c_v, if_false]
    | succ r ih =>
      intro i s ν hi hM hS hR hI
      have h90 := hS.1
      have ho := oM_oc hM
      obtain ⟨ξ, e, k0, f⟩ := E_goRule (c := sh i) hM hR hI (hS.2.2.2 i (by omega))
      have k : K [27, 28, 29, 30] yRd ν ξ := k0.mono (by simp) (by simp)
      have g1 := ga_A (k := i) (aM26 hM) (by omega) (by decide)
      rw [hS.2.2.1 i (by omega)] at g1
      rw [flR_st]
      cases hp : rgS s (sh i) with
      | none =>
        rw [hp] at e
        refine ⟨ξ, ?_, k, fun s' q => by cases q⟩
        rw [i113_22]
        have e' : m_D 112 [.ref 19, .int (nI (sh i))] ν = some (some (.int 0), ξ) := e
        simp (disch := first | omega | decide | with_reducible assumption) only [i113_23, i113_24, i113_27, i113_30, i113_31, i113_50, i113_51, i113_52, i113_55, i113_56, i113_57, i113_60, i113_69, i113_70, gM8 hM, gM7 hM, hS.2.1, lt_t, ne10, g1, e', b_v_s, b_i_s, b_n_s, b_r_s, b_r_n, b_m_s, b_c_s, b_c_v, if_true, if_false]
      | some t =>
        rw [hp] at e
        have e' : m_D 112 [.ref 19, .int (nI (sh i))] ν = some (some (.int 1), ξ) := e
        obtain ⟨ζ, e3, k3, f3⟩ := ih (i + 1) t ξ (by omega) (MS_K hM k) (SHm_K hS k (by simp) (by simp)) (f t hp) (RI_st hI hp)
        refine ⟨ζ, ?_, k.tr k3, f3⟩
        rw [i113_22]
        simp (disch := first | omega | decide | with_reducible assumption) only [i113_23, i113_24, i113_27, i113_30, i113_31, i113_50, i113_51, i113_52, i113_55, i113_56, i113_57, i113_60, i113_63, i113_66, gM8 hM, gM7 hM, hS.2.1, lt_t, ne10, g1, e', b_v_s, b_i_s, b_n_s, b_r_s, b_r_n, b_m_s, b_c_s, b_c_v, if_true, if_false, nI_add1, e3]
  obtain ⟨ξ, e, k, f⟩ := key ns 0 iniR ν1 (by omega) (MS_K h s1) (SHm_K hs s1 (by simp) (by simp)) f1 RI_ini
  exact ⟨ξ, e1.trans e, (s1.mono (by simp) (fun _ q => q)).tr k, f⟩
end sheet
