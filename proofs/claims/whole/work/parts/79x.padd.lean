/-! a page is added -/
section addp
variable {C : Nat × (Nat → Int32)} {μ ν : mM} {np nr nl ns : Nat} {PA QA LA sh : Nat → Nat}
def okP (sh : Nat → Nat) (ns : Nat) : Bool := match (flP sh ns 0 iniP).2 with
  | none => false
  | some s => decide (0 < s.2.1) && decide (s.2.2.1 = none)
theorem cI_mz {o : Option Nat} (h : ∀ k, o = some k → k < 24) : (cI o = -1) = (o = none) := by
  cases o with
  | none => exact eq_true rfl |>.trans (eq_true rfl).symm
  | some k => rw [cI_s, nI_ne1 (by have := h k rfl; omega)]; exact (eq_false (fun z => by cases z)).symm
theorem C_sirP (h : CV μ) (hp : PrV μ) (hs : SHo μ ns sh) : ∃ ν, m_D 63 [.ref 0, .ref 5] μ = some (some (.int (bI (okP sh ns))), ν) ∧ K [6, 7, 8] yPr μ ν ∧ ∀ s', (flP sh ns 0 iniP).2 = some s' → RC ν s' := by
  obtain ⟨ν, e, k, f⟩ := C_readP h hp hs
  refine ⟨ν, ?_, k, f⟩
  have hoC := CV_oc h
  have hC := CV_K h k
  have hR := PrV_K hp k
  have hoR : m_oc ν 5 = some 4 := gO_oc hR.1
  have c1 : FI ν 0 1 = nI ns := by rw [K_FI k (by decide)]; exact hs.2.1
  have hle := flP_le sh ns 0 iniP
  have h90 := hs.1
  unfold okP
  cases hfl : (flP sh ns 0 iniP).2 with
  | none =>
    have : (flP sh ns 0 iniP).1 < ns := by have := hle.2.mp hfl; omega
    have ne : (nI (flP sh ns 0 iniP).1 = nI ns) = False := by rw [nI_eqE (by omega) (by omega)]; exact eq_false (by omega)
    simp (disch := first | omega | decide | with_reducible assumption) only [D63, i63_0, i63_1, i63_2, i63_5, i63_6, i63_9, i63_23, i63_24, e, gC1 hC, c1, ne, b_v_s, b_i_s, b_n_s, b_r_s, b_r_n, b_m_s, b_c_s, b_c_v, if_false, bI_f]
  | some s' =>
    have : (flP sh ns 0 iniP).1 = ns := by
      have z : ¬ (flP sh ns 0 iniP).2 = none := by rw [hfl]; intro q; cases q
      have z2 : ¬ (flP sh ns 0 iniP).1 < 0 + ns := fun q => z (hle.2.mpr q)
      omega
    obtain ⟨r1, r2, r3⟩ := f s' hfl
    have pi := flP_PI sh ns 0 iniP s' PI_ini hfl
    have h24 := pi.2.1
    have r2' := cI_mz (o := s'.2.2.1) (fun k hk => by have := pi.2.2.2.2.2.1 k hk; omega)
    have g3 : m_gf ν 5 4 3 = some (.int (nI s'.2.1)) := by rw [← r1]; exact gO (e := none) hR.1 rfl
    have g4 : m_gf ν 5 4 4 = some (.int (cI s'.2.2.1)) := by rw [← r2]; exact gO (e := none) hR.1 rfl
    have ea : m_D 32 [.ref 5] ν = some (some (.int (bI (decide (0 < s'.2.1) && decide (s'.2.2.1 = none)))), ν) := by
      by_cases d1 : s'.2.1 = 0
      · rw [decide_eq_false (by omega), Bool.false_and]
        simp (disch := first | omega | decide | with_reducible assumption) only [D32, i32_0, i32_1, i32_4, i32_7, i32_8, i32_11, i32_12, i32_15, i32_16, i32_19, i32_20, g3, nI_le0, eq_true d1, b_v_s, b_i_s, b_n_s, b_r_s, b_r_n, b_m_s, b_c_s, b_c_v, if_true, bI_f]
      · rw [decide_eq_true (show 0 < s'.2.1 by omega), Bool.true_and]
        by_cases d2 : s'.2.2.1 = none
        · rw [decide_eq_true d2]
          simp (disch := first | omega | decide | with_reducible assumption) only [D32, i32_0, i32_1, i32_4, i32_7, i32_8, i32_11, i32_12, i32_15, i32_16, i32_19, i32_20, g3, nI_le0, eq_false d1, g4, r2', eq_true d2, b_v_s, b_i_s, b_n_s, b_r_s, b_r_n, b_m_s, b_c_s, b_c_v, if_true, if_false, bI_t]
        · rw [decide_eq_false d2]
          simp (disch := first | omega | decide | with_reducible assumption) only [D32, i32_0, i32_1, i32_4, i32_7, i32_8, i32_11, i32_12, i32_15, i32_16, i32_19, i32_20, g3, nI_le0, eq_false d1, g4, r2', eq_false d2, b_v_s, b_i_s, b_n_s, b_r_s, b_r_n, b_m_s, b_c_s, b_c_v, if_false, bI_f]
    rw [this] at e
    dsimp only
    cases hd : (decide (0 < s'.2.1) && decide (s'.2.2.1 = none)) with
    | false =>
      rw [hd] at ea
      simp (disch := first | omega | decide | with_reducible assumption) only [D63, i63_0, i63_1, i63_2, i63_5, i63_6, i63_9, i63_12, i63_13_P, i63_16, i63_19, i63_20, i63_23, i63_24, e, gC1 hC, c1, ea, bI_0, b_v_s, b_i_s, b_n_s, b_r_s, b_r_n, b_m_s, b_c_s, b_c_v, if_true, bI_f]
    | true =>
      rw [hd] at ea
      simp (disch := first | omega | decide | with_reducible assumption) only [D63, i63_0, i63_1, i63_2, i63_5, i63_6, i63_9, i63_12, i63_13_P, i63_16, i63_19, i63_20, i63_23, i63_24, e, gC1 hC, c1, ea, bI_0, Bool.true_eq_false, b_v_s, b_i_s, b_n_s, b_r_s, b_r_n, b_m_s, b_c_s, b_c_v, if_true, if_false, bI_t, ne10]
def ovl (f g : Nat → Int32) (o k : Nat) : Nat → Int32 := fun i => if o ≤ i ∧ i < o + k then g (i - o) else f i
theorem ovl_st (f g : Nat → Int32) (o k : Nat) : upd (ovl f g o k) (o + k) (g k) = ovl f g o (k + 1) := by
  funext i
  rw [upd_at]
  unfold ovl
  by_cases z : i = o + k
  · rw [if_pos z, if_pos (by omega), z, show o + k - o = k by omega]
  · rw [if_neg z]
    by_cases y : o ≤ i ∧ i < o + k
    · rw [if_pos y, if_pos (by omega)]
    · rw [if_neg y, if_neg (by omega)]
theorem ovl_0 (f g : Nat → Int32) (o : Nat) : ovl f g o 0 = f := by
  funext i
  unfold ovl
  rw [if_neg (by omega)]
set_option maxHeartbeats 4000000 in
theorem E_pageLoop {n : Nat} (h : MS μ) (h0 : FI μ 19 0 = nI np) (h10 : FI μ 19 10 = nI n) (hp : np < 8) (hn : n ≤ 24) : ∃ ν, m_G 115 57 [.ref 19, .int (nI 0)] [] μ = m_G 115 131 [.ref 19, .int (nI n)] [] ν ∧ K [21, 22, 23] [] μ ν ∧ A ν 21 = ovl (A μ 21) (A μ 27) (24 * np) n ∧ A ν 22 = ovl (A μ 22) (A μ 28) (24 * np) n ∧ A ν 23 = ovl (A μ 23) (A μ 29) (24 * np) n := by
  obtain ⟨ν, w, e, s, f1, f2, f3⟩ := loop_inv (fun b ν (_ : Unit) => m_G 115 57 [.ref 19, .int (nI b)] [] ν) (fun b ν => K [21, 22, 23] [] μ ν ∧ A ν 21 = ovl (A μ 21) (A μ 27) (24 * np) b ∧ A ν 22 = ovl (A μ 22) (A μ 28) (24 * np) b ∧ A ν 23 = ovl (A μ 23) (A μ 29) (24 * np) b) n (fun b ν _ hb P => by
    obtain ⟨s, f1, f2, f3⟩ := P
    have hM := MS_K h s
    have hi : 24 * np + b < 192 := by omega
    have e27 : A ν 27 = A μ 27 := K_A s (by decide)
    have e28 : A ν 28 = A μ 28 := K_A s (by decide)
    have e29 : A ν 29 = A μ 29 := K_A s (by decide)
    have x0 : FI ν 19 0 = nI np := by rw [K_FI s (by simp)]; exact h0
    have x10 : FI ν 19 10 = nI n := by rw [K_FI s (by simp)]; exact h10
    have cs1 : K [21] [] ν (wA ν 21 (upd (A ν 21) (24 * np + b) (A μ 27 b))) := K_wA (aM21 hM) _ (by simp)
    have cp1 := pa_A (x := A μ 27 b) (k := 24 * np + b) (aM21 hM) hi (by decide)
    have cr1 := wA_FI (aM21 hM) (upd (A ν 21) (24 * np + b) (A μ 27 b))
    have cu1 := wA_A (aM21 hM) (upd (A ν 21) (24 * np + b) (A μ 27 b))
    generalize wA ν 21 (upd (A ν 21) (24 * np + b) (A μ 27 b)) = cm1 at cs1 cp1 cr1 cu1
    have cV1 := MS_K hM cs1
    have cs2 : K [22] [] cm1 (wA cm1 22 (upd (A cm1 22) (24 * np + b) (A μ 28 b))) := K_wA (aM22 cV1) _ (by simp)
    have cp2 := pa_A (x := A μ 28 b) (k := 24 * np + b) (aM22 cV1) hi (by decide)
    have cr2 := wA_FI (aM22 cV1) (upd (A cm1 22) (24 * np + b) (A μ 28 b))
    have cu2 := wA_A (aM22 cV1) (upd (A cm1 22) (24 * np + b) (A μ 28 b))
    generalize wA cm1 22 (upd (A cm1 22) (24 * np + b) (A μ 28 b)) = cm2 at cs2 cp2 cr2 cu2
    have cV2 := MS_K cV1 cs2
    have cs3 : K [23] [] cm2 (wA cm2 23 (upd (A cm2 23) (24 * np + b) (A μ 29 b))) := K_wA (aM23 cV2) _ (by simp)
    have cp3 := pa_A (x := A μ 29 b) (k := 24 * np + b) (aM23 cV2) hi (by decide)
    have cr3 := wA_FI (aM23 cV2) (upd (A cm2 23) (24 * np + b) (A μ 29 b))
    have cu3 := wA_A (aM23 cV2) (upd (A cm2 23) (24 * np + b) (A μ 29 b))
    generalize wA cm2 23 (upd (A cm2 23) (24 * np + b) (A μ 29 b)) = cm3 at cs3 cp3 cr3 cu3
    have cV3 := MS_K cV2 cs3
    have y0 : FI cm1 19 0 = nI np := by rw [cr1]; exact x0
    have y0' : FI cm2 19 0 = nI np := by rw [cr2]; exact y0
    have w28 : A cm1 28 b = A μ 28 b := by rw [cu1, if_neg (by decide), e28]
    have w29 : A cm2 29 b = A μ 29 b := by rw [cu2, if_neg (by decide), cu1, if_neg (by decide), e29]
    refine ⟨cm3, (), ?_, ((s.tr (cs1.mono (by simp) (by simp))).tr (cs2.mono (by simp) (by simp))).tr (cs3.mono (by simp) (by simp)), ?_, ?_, ?_⟩
    · try dsimp only
      rw [i115_57]
      simp (disch := first | omega | decide | with_reducible assumption) only [i115_58, i115_59, i115_62, i115_65, i115_66, i115_69, i115_71, i115_72, i115_75, i115_76, i115_77, i115_78, i115_79, i115_82, i115_83, i115_84, i115_85, i115_86, i115_89, i115_91, i115_92, i115_95, i115_96, i115_97, i115_98, i115_99, i115_102, i115_103, i115_104, i115_105, i115_106, i115_109, i115_111, i115_112, i115_115, i115_116, i115_117, i115_118, i115_119, i115_122, i115_123, i115_124, i115_125, i115_128, gM10 hM, x10, lt_t, gM0 hM, x0, gM0 cV1, y0, gM0 cV2, y0', k24, gM2 hM, gM3 cV1, gM4 cV2, gM11 hM, gM12 cV1, gM13 cV2, ga_A (aM27 hM), ga_A (aM28 cV1), ga_A (aM29 cV2), e27, w28, w29, cp1, cp2, cp3, b_v_s, b_i_s, b_n_s, b_r_s, b_r_n, b_m_s, b_c_s, b_c_v, if_true, nI_add1]
    · rw [cu3, if_neg (by decide), cu2, if_neg (by decide), cu1, if_pos rfl, f1, ovl_st]
    · rw [cu3, if_neg (by decide), cu2, if_pos rfl, cu1, if_neg (by decide), f2, ovl_st]
    · rw [cu3, if_pos rfl, cu2, if_neg (by decide), cu1, if_neg (by decide), f3, ovl_st]) μ () ⟨K.rf μ, (ovl_0 _ _ _).symm, (ovl_0 _ _ _).symm, (ovl_0 _ _ _).symm⟩
  refine ⟨ν, ?_, s, f1, f2, f3⟩
  refine (show _ = _ from e).trans ?_
  have hM := MS_K h s
  have x10 : FI ν 19 10 = nI n := by rw [K_FI s (by simp)]; exact h10
  try dsimp only
  rw [i115_57]
  simp (disch := first | omega | decide | with_reducible assumption) only [i115_58, i115_59, i115_62, gM10 hM, x10, lt_f, b_v_s, b_i_s, b_n_s, b_r_s, b_r_n, b_m_s, b_c_s, b_c_v, if_false]
end addp
