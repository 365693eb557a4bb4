/-! the class reads a page's text -/
def TPr : Tm := [some (some 6), some (some 7), some (some 8), none, none, none, none, none]
def PrV (μ : mM) : Prop := isO μ 5 4 TPr ∧ isA μ 6 0 24 ∧ isA μ 7 0 24 ∧ isA μ 8 0 24
theorem PrV_K {X : List Nat} {Y : List (Nat × Nat)} {μ ν : mM} (h : PrV μ) (k : K X Y μ ν) : PrV ν := ⟨K_isO k h.1, K_isA k h.2.1, K_isA k h.2.2.1, K_isA k h.2.2.2⟩
theorem PrV_o {μ : mM} (h : PrV μ) : isO μ 5 4 TPr := h.1
theorem PrV_6 {μ : mM} (h : PrV μ) : isA μ 6 0 24 := h.2.1
theorem PrV_7 {μ : mM} (h : PrV μ) : isA μ 7 0 24 := h.2.2.1
theorem PrV_8 {μ : mM} (h : PrV μ) : isA μ 8 0 24 := h.2.2.2
theorem gPr0 {μ : mM} (h : PrV μ) : m_gf μ 5 4 0 = some (.ref 6) := gO (e := some (some 6)) h.1 rfl
theorem gPr1 {μ : mM} (h : PrV μ) : m_gf μ 5 4 1 = some (.ref 7) := gO (e := some (some 7)) h.1 rfl
theorem gPr2 {μ : mM} (h : PrV μ) : m_gf μ 5 4 2 = some (.ref 8) := gO (e := some (some 8)) h.1 rfl
theorem gPr3 {μ : mM} (h : PrV μ) : m_gf μ 5 4 3 = some (.int (FI μ 5 3)) := gO (e := none) h.1 rfl
theorem gPr4 {μ : mM} (h : PrV μ) : m_gf μ 5 4 4 = some (.int (FI μ 5 4)) := gO (e := none) h.1 rfl
theorem gPr5 {μ : mM} (h : PrV μ) : m_gf μ 5 4 5 = some (.int (FI μ 5 5)) := gO (e := none) h.1 rfl
theorem gPr6 {μ : mM} (h : PrV μ) : m_gf μ 5 4 6 = some (.int (FI μ 5 6)) := gO (e := none) h.1 rfl
theorem gPr7 {μ : mM} (h : PrV μ) : m_gf μ 5 4 7 = some (.int (FI μ 5 7)) := gO (e := none) h.1 rfl
theorem PrV_oc {μ : mM} (h : PrV μ) : m_oc μ 5 = some 4 := gO_oc h.1
def RC (μ : mM) (s : PS) : Prop := FI μ 5 3 = nI s.2.1 ∧ FI μ 5 4 = cI s.2.2.1 ∧ (1 ≤ s.1 → s.1 ≤ 3 → FI μ 5 5 = nI (s.1 - 1)) ∧ FI μ 5 6 = bI (decide (s.1 = 0 ∧ 0 < s.2.1)) ∧ FI μ 5 7 = bI (decide (s.1 = 4)) ∧ ∀ b, b < s.2.1 → A μ 6 b = s.2.2.2.1 b ∧ A μ 7 b = s.2.2.2.2.1 b ∧ A μ 8 b = s.2.2.2.2.2 b
section pgs
variable {st sz : Nat} {ins : Option Nat} {kd wd pr : Nat → Int32} {c : Nat}
theorem pgS_kind (h : PI (st, sz, ins, kd, wd, pr)) (hk : kdC c = true) : pgS (st, sz, ins, kd, wd, pr) c = if sz < 24 ∧ (sz = 0 ∨ ¬ ins = none) then some (psh (st, sz, ins, kd, wd, pr) c) else none := by
  obtain ⟨h1, h2, h3, h4, h5, h6, _⟩ := h
  dsimp only at *
  have hc := kd_of hk
  have hd : ¬ dgC c = true := fun q => by have := dg_of q; omega
  unfold pgS
  dsimp only
  by_cases e : st = 0
  · rw [if_pos e]
    by_cases z : sz < 24
    · rw [if_pos ⟨hk, z⟩, if_pos]
      refine ⟨z, ?_⟩
      by_cases q : sz = 0
      · exact Or.inl q
      · exact Or.inr (by rw [(h4 e (by omega)).1]; exact fun w => by cases w)
    · rw [if_neg (fun q => z q.2), if_neg (fun q => z q.1)]
  · have hz := h3 e
    rw [if_neg e, if_neg (fun q => hd q.2), if_neg (by omega)]
    cases ins with
    | none => rw [if_neg (show ¬ (sz < 24 ∧ (sz = 0 ∨ ¬ (none : Option Nat) = none)) from fun q => q.2.elim (fun w => by omega) (fun w => w rfl))]
    | some k =>
      dsimp only
      rw [if_neg (by omega)]
      by_cases z : sz < 24
      · rw [if_pos ⟨hk, z⟩, if_pos ⟨z, Or.inr (fun w => by cases w)⟩]
      · rw [if_neg (fun q => z q.2), if_neg (fun q => z q.1)]
theorem pgS_dig (h : PI (st, sz, ins, kd, wd, pr)) (hk : dgC c = true) : pgS (st, sz, ins, kd, wd, pr) c = if st = 1 ∨ st = 2 then some (st + 1, sz, ins, kd, upd wd (sz - 1) ((if st = 1 then 0 else 10 * wd (sz - 1)) + nI (c - 48)), pr) else none := by
  obtain ⟨h1, h2, h3, h4, h5, h6, _⟩ := h
  dsimp only at *
  have hc := dg_of hk
  have hd : ¬ kdC c = true := fun q => by have := kd_of q; omega
  unfold pgS
  dsimp only
  by_cases e : st = 0
  · rw [if_pos e, if_neg (fun q => hd q.1), if_neg (by omega)]
  · rw [if_neg e]
    by_cases z : st < 3
    · rw [if_pos ⟨z, hk⟩, if_pos (show st = 1 ∨ st = 2 by omega)]
    · rw [if_neg (fun q => z q.1), if_neg (show ¬ (st < 4 ∧ c = 40) by omega), if_neg (show ¬ (st = 1 ∨ st = 2) by omega)]
      cases ins with
      | none => rfl
      | some k => dsimp only; rw [if_neg (by omega), if_neg (fun q => hd q.1)]
theorem pgS_op (h : PI (st, sz, ins, kd, wd, pr)) : pgS (st, sz, ins, kd, wd, pr) 40 = if (1 ≤ st ∧ st ≤ 3) ∧ sz < 24 then some (0, sz, some (sz - 1), kd, wd, pr) else none := by
  obtain ⟨h1, h2, h3, h4, h5, h6, _⟩ := h
  dsimp only at *
  have hd : ¬ kdC 40 = true := by decide
  have hg : ¬ dgC 40 = true := by decide
  unfold pgS
  dsimp only
  by_cases e : st = 0
  · rw [if_pos e, if_neg (fun q => hd q.1), if_neg (by omega)]
  · rw [if_neg e, if_neg (fun q => hg q.2)]
    by_cases z : st < 4
    · rw [if_pos ⟨z, rfl⟩]
      by_cases w : sz < 24
      · rw [if_pos w, if_pos (by omega)]
      · rw [if_neg w, if_neg (by omega)]
    · rw [if_neg (fun q => z q.1), if_neg (show ¬ ((1 ≤ st ∧ st ≤ 3) ∧ sz < 24) by omega)]
      cases ins with
      | none => rfl
      | some k => dsimp only; rw [if_neg (by decide), if_neg (fun q => hd q.1)]
theorem pgS_cl (h : PI (st, sz, ins, kd, wd, pr)) : pgS (st, sz, ins, kd, wd, pr) 41 = if st = 0 then none else (match ins with
    | none => none
    | some k => some (4, sz, (if k = 0 then none else some (pr k).toNatClampNeg), kd, wd, pr)) := by
  have hd : ¬ kdC 41 = true := by decide
  have hg : ¬ dgC 41 = true := by decide
  unfold pgS
  dsimp only
  by_cases e : st = 0
  · rw [if_pos e, if_pos e, if_neg (fun q => hd q.1)]
  · rw [if_neg e, if_neg e, if_neg (fun q => hg q.2), if_neg (fun q => absurd q.2 (by decide))]
    cases ins with
    | none => rfl
    | some k => dsimp only; rw [if_pos rfl]
theorem pgS_ot (h1 : ¬ kdC c = true) (h2 : ¬ dgC c = true) (h3 : c ≠ 40) (h4 : c ≠ 41) : pgS (st, sz, ins, kd, wd, pr) c = none := by
  unfold pgS
  dsimp only
  by_cases e : st = 0
  · rw [if_pos e, if_neg (fun q => h1 q.1)]
  · rw [if_neg e, if_neg (fun q => h2 q.2), if_neg (fun q => h3 q.2)]
    cases ins with
    | none => rfl
    | some k => dsimp only; rw [if_neg h4, if_neg (fun q => h1 q.1)]
end pgs
theorem n97 : (97 : Int32) = nI 97 := rfl
theorem n101 : (101 : Int32) = nI 101 := rfl
theorem n48 : (48 : Int32) = nI 48 := rfl
theorem n57 : (57 : Int32) = nI 57 := rfl
theorem n40 : (40 : Int32) = nI 40 := rfl
theorem n41 : (41 : Int32) = nI 41 := rfl
theorem n10 : (10 : Int32) = nI 10 := rfl
theorem nI_sub1 {n : Nat} (h : 1 ≤ n) : nI n - 1 = nI (n - 1) := by rw [n1, nI_minus h]
theorem nI00 : (nI 0 = 0) = True := eq_true rfl
section takes
variable {μ : mM}
theorem C_isKind {c : Nat} (hc : c < 200) : m_D 45 [.int (nI c)] μ = some (some (.int (bI (kdC c))), μ) := by
  unfold kdC
  by_cases h1 : c < 97
  · rw [decide_eq_false (by omega), bI_f]
    simp (disch := first | omega | decide) only [D45, i45_0, i45_1, i45_3, i45_6, i45_7, i45_9, i45_12, i45_13, i45_16, i45_17, n97, lt_t, if_true]
  · by_cases h2 : 101 < c
    · rw [decide_eq_false (by omega), bI_f]
      simp (disch := first | omega | decide) only [D45, i45_0, i45_1, i45_3, i45_6, i45_7, i45_9, i45_12, i45_13, i45_16, i45_17, n97, n101, lt_t, lt_f, if_true, if_false]
    · rw [decide_eq_true (by omega), bI_t]
      simp (disch := first | omega | decide) only [D45, i45_0, i45_1, i45_3, i45_6, i45_7, i45_9, i45_12, i45_13, i45_16, i45_17, n97, n101, lt_t, lt_f, if_true, if_false]
theorem C_isDigit {c : Nat} (hc : c < 200) : m_D 46 [.int (nI c)] μ = some (some (.int (bI (dgC c))), μ) := by
  unfold dgC
  by_cases h1 : c < 48
  · rw [decide_eq_false (by omega), bI_f]
    simp (disch := first | omega | decide) only [D46, i46_0, i46_1, i46_3, i46_6, i46_7, i46_9, i46_12, i46_13, i46_16, i46_17, n48, lt_t, if_true]
  · by_cases h2 : 57 < c
    · rw [decide_eq_false (by omega), bI_f]
      simp (disch := first | omega | decide) only [D46, i46_0, i46_1, i46_3, i46_6, i46_7, i46_9, i46_12, i46_13, i46_16, i46_17, n48, n57, lt_t, lt_f, if_true, if_false]
    · rw [decide_eq_true (by omega), bI_t]
      simp (disch := first | omega | decide) only [D46, i46_0, i46_1, i46_3, i46_6, i46_7, i46_9, i46_12, i46_13, i46_16, i46_17, n48, n57, lt_t, lt_f, if_true, if_false]
theorem C_lastBoxGoesOn {s : PS} (h : PrV μ) (hR : RC μ s) (hP : PI s) : m_D 35 [.ref 5] μ = some (some (.int (bI (decide (1 ≤ s.1 ∧ s.1 ≤ 3)))), μ) := by
  obtain ⟨st, sz, ins, kd, wd, pr⟩ := s
  obtain ⟨r1, r2, r3, r4, r5, r6⟩ := hR
  obtain ⟨h1, h2, h3, h4, h5, h6, _⟩ := hP
  dsimp only at *
  by_cases z : sz = 0
  · have e : st = 0 := by
      by_cases q : st = 0
      · exact q
      · have := h3 q; omega
    rw [decide_eq_false (by omega), bI_f]
    simp (disch := first | omega | decide) only [D35, i35_0, i35_1, i35_4, i35_7, i35_8, i35_11, i35_14, i35_15, i35_18, i35_21, i35_22, i35_25, i35_26, gPr3 h, r1, b_v_s, b_i_s, b_n_s, b_r_s, b_r_n, b_m_s, b_c_s, b_c_v, le_0, z, if_true]
  · by_cases e : st = 0
    · rw [decide_eq_true ⟨e, by omega⟩, bI_t] at r4
      rw [decide_eq_false (by omega), bI_f]
      simp (disch := first | omega | decide) only [D35, i35_0, i35_1, i35_4, i35_7, i35_8, i35_11, i35_14, i35_15, i35_18, i35_21, i35_22, i35_25, i35_26, gPr3 h, gPr6 h, r1, r4, b_v_s, b_i_s, b_n_s, b_r_s, b_r_n, b_m_s, b_c_s, b_c_v, le_0, z, ne10, if_false]
    · rw [decide_eq_false (fun q => e q.1), bI_f] at r4
      by_cases e4 : st = 4
      · rw [decide_eq_true e4, bI_t] at r5
        rw [decide_eq_false (by omega), bI_f]
        simp (disch := first | omega | decide) only [D35, i35_0, i35_1, i35_4, i35_7, i35_8, i35_11, i35_14, i35_15, i35_18, i35_21, i35_22, i35_25, i35_26, gPr3 h, gPr6 h, gPr7 h, r1, r4, r5, b_v_s, b_i_s, b_n_s, b_r_s, b_r_n, b_m_s, b_c_s, b_c_v, le_0, z, ne10, if_true, if_false]
      · rw [decide_eq_false e4, bI_f] at r5
        rw [decide_eq_true (by omega), bI_t]
        simp (disch := first | omega | decide) only [D35, i35_0, i35_1, i35_4, i35_7, i35_8, i35_11, i35_14, i35_15, i35_18, i35_21, i35_22, i35_25, i35_26, gPr3 h, gPr6 h, gPr7 h, r1, r4, r5, b_v_s, b_i_s, b_n_s, b_r_s, b_r_n, b_m_s, b_c_s, b_c_v, le_0, z, if_true, if_false]
set_option maxHeartbeats 2000000 in
theorem C_takesKind {s : PS} {c : Nat} (h : PrV μ) (hR : RC μ s) (hP : PI s) (hc : kdC c = true) : ∃ ν, m_D 34 [.ref 5, .int (nI (c - 97))] μ = some (some (.int (bI (pgS s c).isSome)), ν) ∧ K [6, 7, 8] [(5, 3), (5, 4), (5, 5), (5, 6), (5, 7)] μ ν ∧ ∀ s', pgS s c = some s' → RC ν s' := by
  obtain ⟨st, sz, ins, kd, wd, pr⟩ := s
  rw [pgS_kind hP hc]
  obtain ⟨r1, r2, r3, r4, r5, r6⟩ := hR
  obtain ⟨h1, h2, h3, h4, h5, h6, _⟩ := hP
  dsimp only at *
  have hcI : (cI ins = -1) = (ins = none) := cI_m1 (fun k hk => by have := h6 k hk; omega)
  by_cases z : sz < 24
  · by_cases y : sz = 0 ∨ ¬ ins = none
    · rw [if_pos ⟨z, y⟩]
      have cs1 : K [6] [] μ (wA μ 6 (upd (A μ 6) (sz) (nI (c - 97)))) := K_wA (PrV_6 h) _ (by simp)
      have cp1 := pa_A (x := nI (c - 97)) (k := sz) (PrV_6 h) z (by decide)
      have cr1 := wA_FI (PrV_6 h) (upd (A μ 6) (sz) (nI (c - 97)))
      have cu1 := wA_A (PrV_6 h) (upd (A μ 6) (sz) (nI (c - 97)))
      generalize wA μ 6 (upd (A μ 6) (sz) (nI (c - 97))) = cm1 at cs1 cp1 cr1 cu1
      have cV1 := PrV_K h cs1
      have cs2 : K [7] [] cm1 (wA cm1 7 (upd (A cm1 7) (sz) (-1))) := K_wA (PrV_7 cV1) _ (by simp)
      have cp2 := pa_A (x := -1) (k := sz) (PrV_7 cV1) z (by decide)
      have cr2 := wA_FI (PrV_7 cV1) (upd (A cm1 7) (sz) (-1))
      have cu2 := wA_A (PrV_7 cV1) (upd (A cm1 7) (sz) (-1))
      generalize wA cm1 7 (upd (A cm1 7) (sz) (-1)) = cm2 at cs2 cp2 cr2 cu2
      have cV2 := PrV_K cV1 cs2
      have cs3 : K [8] [] cm2 (wA cm2 8 (upd (A cm2 8) (sz) (cI ins))) := K_wA (PrV_8 cV2) _ (by simp)
      have cp3 := pa_A (x := cI ins) (k := sz) (PrV_8 cV2) z (by decide)
      have cr3 := wA_FI (PrV_8 cV2) (upd (A cm2 8) (sz) (cI ins))
      have cu3 := wA_A (PrV_8 cV2) (upd (A cm2 8) (sz) (cI ins))
      generalize wA cm2 8 (upd (A cm2 8) (sz) (cI ins)) = cm3 at cs3 cp3 cr3 cu3
      have cV3 := PrV_K cV2 cs3
      have cs4 : K [] [(5, 3)] cm3 (wO cm3 5 3 (.int (nI (sz + 1)))) := K_wO (k := 3) (PrV_o cV3) rfl _ (by simp)
      have cp4 := pO (k := 3) (PrV_o cV3) rfl (nI (sz + 1))
      have cr4 := wO_FIo (k := 3) (PrV_o cV3) rfl (nI (sz + 1))
      have cu4 := wO_A (PrV_o cV3) 3 (.int (nI (sz + 1)))
      generalize wO cm3 5 3 (.int (nI (sz + 1))) = cm4 at cs4 cp4 cr4 cu4
      have cV4 := PrV_K cV3 cs4
      have cs5 : K [] [(5, 5)] cm4 (wO cm4 5 5 (.int (0))) := K_wO (k := 5) (PrV_o cV4) rfl _ (by simp)
      have cp5 := pO (k := 5) (PrV_o cV4) rfl (0)
      have cr5 := wO_FIo (k := 5) (PrV_o cV4) rfl (0)
      have cu5 := wO_A (PrV_o cV4) 5 (.int (0))
      generalize wO cm4 5 5 (.int (0)) = cm5 at cs5 cp5 cr5 cu5
      have cV5 := PrV_K cV4 cs5
      have cs6 : K [] [(5, 6)] cm5 (wO cm5 5 6 (.int (bI false))) := K_wO (k := 6) (PrV_o cV5) rfl _ (by simp)
      have cp6 := pOb (k := 6) (PrV_o cV5) rfl false
      have cr6 := wO_FIo (k := 6) (PrV_o cV5) rfl (bI false)
      have cu6 := wO_A (PrV_o cV5) 6 (.int (bI false))
      generalize wO cm5 5 6 (.int (bI false)) = cm6 at cs6 cp6 cr6 cu6
      rw [bI_f] at cp6 cr6
      have cV6 := PrV_K cV5 cs6
      have cs7 : K [] [(5, 7)] cm6 (wO cm6 5 7 (.int (bI false))) := K_wO (k := 7) (PrV_o cV6) rfl _ (by simp)
      have cp7 := pOb (k := 7) (PrV_o cV6) rfl false
      have cr7 := wO_FIo (k := 7) (PrV_o cV6) rfl (bI false)
      have cu7 := wO_A (PrV_o cV6) 7 (.int (bI false))
      generalize wO cm6 5 7 (.int (bI false)) = cm7 at cs7 cp7 cr7 cu7
      rw [bI_f] at cp7 cr7
      have cV7 := PrV_K cV6 cs7
      refine ⟨cm7, ?_, ?_, fun s' hs => ?_⟩
      · by_cases y0 : sz = 0
        · simp (disch := first | omega | decide) only [D34, i34_0, i34_1, i34_4, i34_6, i34_9, i34_10, i34_13, i34_16, i34_17, i34_20, i34_21, i34_24, i34_25, i34_26, i34_27, i34_30, i34_31, i34_34, i34_35, i34_36, i34_37, i34_40, i34_41, i34_44, i34_45, i34_46, i34_47, i34_50, i34_51, i34_54, i34_55, i34_58, i34_59, i34_60, i34_60I, i34_61, i34_64, i34_65, i34_66, i34_69, i34_70, i34_71, i34_74, i34_75, i34_76, i34_79, i34_80, i34_81, i34_84, i34_85, gPr3 h, gPr0 h, gPr3 cV1, gPr1 cV1, gPr3 cV2, gPr2 cV2, gPr4 cV2, gPr3 cV3, cr1, cr2, cr3, r1, r2, b_v_s, b_i_s, b_n_s, b_r_s, b_r_n, b_m_s, b_c_s, b_c_v, n24, lt_t, if_true, le_0, y0, nI_add1, Option.isSome]
          simp only [y0] at cp1 cp2 cp3 cp4
          simp (disch := first | omega | decide) only [i34_26, i34_27, i34_30, i34_31, i34_34, i34_35, i34_36, i34_37, i34_40, i34_41, i34_44, i34_45, i34_46, i34_47, i34_50, i34_51, i34_54, i34_55, i34_58, i34_59, i34_60, i34_60I, i34_61, i34_64, i34_65, i34_66, i34_69, i34_70, i34_71, i34_74, i34_75, i34_76, i34_79, i34_80, i34_81, i34_84, i34_85, gPr3 h, gPr0 h, gPr3 cV1, gPr1 cV1, gPr3 cV2, gPr2 cV2, gPr4 cV2, gPr3 cV3, cr1, cr2, cr3, r1, r2, b_v_s, b_i_s, b_n_s, b_r_s, b_r_n, b_m_s, b_c_s, b_c_v, y0, nI_add1, cp1, cp2, cp3, cp4, cp5, cp6, cp7, bI_t]
        · have y1 : ¬ ins = none := y.elim (fun q => absurd q y0) id
          simp (disch := first | omega | decide) only [D34, i34_0, i34_1, i34_4, i34_6, i34_9, i34_10, i34_13, i34_16, i34_17, i34_20, i34_21, i34_24, i34_25, i34_26, i34_27, i34_30, i34_31, i34_34, i34_35, i34_36, i34_37, i34_40, i34_41, i34_44, i34_45, i34_46, i34_47, i34_50, i34_51, i34_54, i34_55, i34_58, i34_59, i34_60, i34_60I, i34_61, i34_64, i34_65, i34_66, i34_69, i34_70, i34_71, i34_74, i34_75, i34_76, i34_79, i34_80, i34_81, i34_84, i34_85, gPr3 h, gPr4 h, gPr0 h, gPr3 cV1, gPr1 cV1, gPr3 cV2, gPr2 cV2, gPr4 cV2, gPr3 cV3, cr1, cr2, cr3, r1, r2, hcI, b_v_s, b_i_s, b_n_s, b_r_s, b_r_n, b_m_s, b_c_s, b_c_v, n24, lt_t, if_true, if_false, le_0, y0, y1, nI_add1, cp1, cp2, cp3, cp4, cp5, cp6, cp7, Option.isSome, bI_t]
      · exact (cs1.mono (by simp) (by simp)).tr ((cs2.mono (by simp) (by simp)).tr ((cs3.mono (by simp) (by simp)).tr ((cs4.mono (by simp) (by simp)).tr ((cs5.mono (by simp) (by simp)).tr ((cs6.mono (by simp) (by simp)).tr (cs7.mono (by simp) (by simp)))))))
      · injection hs with hs
        subst hs
        unfold psh
        refine ⟨by simp [cr7, cr6, cr5, cr4], by simp [cr7, cr6, cr5, cr4, cr3, cr2, cr1, r2], fun _ _ => by simp [cr7, cr6, cr5]; rfl, by simp [cr7, cr6]; rfl, by simp [cr7]; rfl, fun b hb => ?_⟩
        have e6 : A cm7 6 = upd (A μ 6) sz (nI (c - 97)) := by simp [cu7, cu6, cu5, cu4, cu3, cu2, cu1]
        have e7 : A cm7 7 = upd (A μ 7) sz (-1) := by simp [cu7, cu6, cu5, cu4, cu3, cu2, cu1]
        have e8 : A cm7 8 = upd (A μ 8) sz (cI ins) := by simp [cu7, cu6, cu5, cu4, cu3, cu2, cu1]
        dsimp only at hb ⊢
        rw [e6, e7, e8, upd_at, upd_at, upd_at, upd_at, upd_at, upd_at]
        by_cases q : b = sz
        · rw [if_pos q, if_pos q, if_pos q, if_pos q, if_pos q, if_pos q]; exact ⟨rfl, rfl, rfl⟩
        · rw [if_neg q, if_neg q, if_neg q, if_neg q, if_neg q, if_neg q]; exact r6 b (by omega)
    · rw [if_neg (fun q => y q.2)]
      have y0 : ¬ sz = 0 := fun q => y (Or.inl q)
      have y1 : ins = none := by
        cases ins with
        | none => rfl
        | some k => exact absurd (Or.inr (fun q => by cases q)) y
      refine ⟨μ, ?_, K.rf μ, fun s' hs => by cases hs⟩
      simp (disch := first | omega | decide) only [D34, i34_0, i34_1, i34_4, i34_6, i34_9, i34_10, i34_13, i34_16, i34_17, i34_20, i34_21, i34_24, i34_25, gPr3 h, gPr4 h, r1, r2, hcI, y1, cI_n1, b_v_s, b_i_s, b_n_s, b_r_s, b_r_n, b_m_s, b_c_s, b_c_v, n24, lt_t, if_true, if_false, le_0, y0, Option.isSome, bI_f]
  · rw [if_neg (fun q => z q.1)]
    refine ⟨μ, ?_, K.rf μ, fun s' hs => by cases hs⟩
    simp (disch := first | omega | decide) only [D34, i34_0, i34_1, i34_4, i34_6, i34_9, i34_10, i34_13, i34_16, i34_17, i34_20, i34_21, i34_24, i34_25, gPr3 h, r1, b_v_s, b_i_s, b_n_s, b_r_s, b_r_n, b_m_s, b_c_s, b_c_v, n24, lt_f, if_false, Option.isSome, bI_f]
set_option maxHeartbeats 2000000 in
theorem C_takesDigit {s : PS} {c : Nat} (h : PrV μ) (hR : RC μ s) (hP : PI s) (hc : dgC c = true) : ∃ ν, m_D 36 [.ref 5, .int (nI (c - 48))] μ = some (some (.int (bI (pgS s c).isSome)), ν) ∧ K [6, 7, 8] [(5, 3), (5, 4), (5, 5), (5, 6), (5, 7)] μ ν ∧ ∀ s', pgS s c = some s' → RC ν s' := by
  have hl := C_lastBoxGoesOn h hR hP
  have ho := PrV_oc h
  obtain ⟨st, sz, ins, kd, wd, pr⟩ := s
  rw [pgS_dig hP hc]
  obtain ⟨r1, r2, r3, r4, r5, r6⟩ := hR
  obtain ⟨h1, h2, h3, h4, h5, h6, h7, h8, h9, h10, _⟩ := hP
  dsimp only at *
  by_cases y : st = 1 ∨ st = 2
  · have hz := h3 (by omega)
    have hz24 : sz - 1 < 24 := by omega
    have r3 := r3 (by omega) (by omega)
    have w7 := (r6 (sz - 1) (by omega)).2.1
    rw [if_pos y]
    rw [decide_eq_true (by omega), bI_t] at hl
    have cs1 : K [7] [] μ (wA μ 7 (upd (A μ 7) (sz - 1) ((if st = 1 then 0 else 10 * wd (sz - 1)) + nI (c - 48)))) := K_wA (PrV_7 h) _ (by simp)
    have cp1 := pa_A (x := (if st = 1 then 0 else 10 * wd (sz - 1)) + nI (c - 48)) (k := sz - 1) (PrV_7 h) hz24 (by decide)
    have cr1 := wA_FI (PrV_7 h) (upd (A μ 7) (sz - 1) ((if st = 1 then 0 else 10 * wd (sz - 1)) + nI (c - 48)))
    have cu1 := wA_A (PrV_7 h) (upd (A μ 7) (sz - 1) ((if st = 1 then 0 else 10 * wd (sz - 1)) + nI (c - 48)))
    generalize wA μ 7 (upd (A μ 7) (sz - 1) ((if st = 1 then 0 else 10 * wd (sz - 1)) + nI (c - 48))) = cm1 at cs1 cp1 cr1 cu1
    have cV1 := PrV_K h cs1
    have cs2 : K [] [(5, 5)] cm1 (wO cm1 5 5 (.int (nI st))) := K_wO (k := 5) (PrV_o cV1) rfl _ (by simp)
    have cp2 := pO (k := 5) (PrV_o cV1) rfl (nI st)
    have cr2 := wO_FIo (k := 5) (PrV_o cV1) rfl (nI st)
    have cu2 := wO_A (PrV_o cV1) 5 (.int (nI st))
    generalize wO cm1 5 5 (.int (nI st)) = cm2 at cs2 cp2 cr2 cu2
    have cV2 := PrV_K cV1 cs2
    have cp2' : m_pf cm1 5 4 5 .int (.int (nI (st - 1) + 1)) = some cm2 := by rw [nI_add1, show st - 1 + 1 = st by omega]; exact cp2
    refine ⟨cm2, ?_, (cs1.mono (by simp) (by simp)).tr (cs2.mono (by simp) (by simp)), fun s' hs => ?_⟩
    · rcases y with y | y
      · subst y
        rw [if_pos rfl, Int32.zero_add] at cp1
        have r3' : FI μ 5 5 = nI 0 := r3
        have cp2'' : m_pf cm1 5 4 5 .int (.int (nI 0 + 1)) = some cm2 := cp2'
        simp (disch := first | omega | decide | with_reducible assumption) only [D36, i36_0, i36_1, i36_4, i36_7, i36_8, i36_11, i36_12, i36_15, i36_16, i36_17, i36_18, i36_21, i36_22, i36_23, i36_24, i36_25, i36_28, i36_29, i36_30, i36_33, i36_36, i36_37, i36_40, i36_41, i36_44, i36_45, i36_46, i36_48, i36_49, i36_50, i36_51, i36_52, i36_53, i36_53I, i36_54, i36_57, i36_58, i36_59, i36_62, i36_63, hl, ne10, gPr3 h, gPr5 h, gPr1 h, gPr5 cV1, cr1, r1, r3', b_v_s, b_i_s, b_n_s, b_r_s, b_r_n, b_m_s, b_c_s, b_c_v, n2, lt_t, if_true, if_false, nI_sub1, nI00, cp1, cp2'', Option.isSome, bI_t]
      · subst y
        rw [if_neg (by decide), Int32.mul_comm] at cp1
        have f7 := ga_A (k := sz - 1) (PrV_7 h) hz24 (by decide)
        rw [w7] at f7
        have ne : (nI (2 - 1) = 0) = False := eq_false (by decide)
        simp (disch := first | omega | decide | with_reducible assumption) only [D36, i36_0, i36_1, i36_4, i36_7, i36_8, i36_11, i36_12, i36_15, i36_16, i36_17, i36_18, i36_21, i36_22, i36_23, i36_24, i36_25, i36_28, i36_29, i36_30, hl, ne10, gPr3 h, gPr5 h, gPr1 h, r1, r3, b_v_s, b_i_s, b_n_s, b_r_s, b_r_n, b_m_s, b_c_s, b_c_v, n2, lt_t, if_true, if_false, nI_sub1]
        simp (disch := first | omega | decide | with_reducible assumption) only [i36_33, i36_36, i36_37, i36_40, i36_41, i36_44, i36_45, i36_46, i36_48, i36_49, i36_50, i36_51, i36_52, i36_53, i36_53I, i36_54, i36_57, i36_58, i36_59, i36_62, i36_63, ne, gPr3 h, gPr5 h, gPr1 h, gPr5 cV1, cr1, r1, r3, f7, b_v_s, b_i_s, b_n_s, b_r_s, b_r_n, b_m_s, b_c_s, b_c_v, if_false, cp1, cp2', Option.isSome, bI_t]
    · injection hs with hs
      subst hs
      refine ⟨by simp [cr2, cr1, r1], by simp [cr2, cr1, r2], fun _ _ => by simp [cr2], ?_, ?_, fun b hb => ?_⟩
      · rw [cr2, if_neg (by decide), cr1, r4, decide_eq_false (fun q => by omega), decide_eq_false (fun q => by have := q.1; dsimp only at this; omega)]
      · rw [cr2, if_neg (by decide), cr1, r5, decide_eq_false (by omega), decide_eq_false (by dsimp only; omega)]
      · have e6 : A cm2 6 = A μ 6 := by simp [cu2, cu1]
        have e7 : A cm2 7 = upd (A μ 7) (sz - 1) ((if st = 1 then 0 else 10 * wd (sz - 1)) + nI (c - 48)) := by simp [cu2, cu1]
        have e8 : A cm2 8 = A μ 8 := by simp [cu2, cu1]
        dsimp only at hb ⊢
        rw [e6, e7, e8, upd_at, upd_at]
        obtain ⟨a1, a2, a3⟩ := r6 b hb
        refine ⟨a1, ?_, a3⟩
        by_cases q : b = sz - 1
        · rw [if_pos q, if_pos q]
        · rw [if_neg q, if_neg q]; exact a2
  · rw [if_neg y]
    refine ⟨μ, ?_, K.rf μ, fun s' hs => by cases hs⟩
    by_cases y3 : st = 3
    · have r3 := r3 (by omega) (by omega)
      rw [decide_eq_true (by omega), bI_t] at hl
      simp (disch := first | omega | decide | with_reducible assumption) only [D36, i36_0, i36_1, i36_4, i36_7, i36_8, i36_11, i36_12, i36_15, i36_16, hl, ne10, gPr5 h, r3, b_v_s, b_i_s, b_n_s, b_r_s, b_r_n, b_m_s, b_c_s, b_c_v, n2, lt_f, if_false, Option.isSome, bI_f]
    · rw [decide_eq_false (by omega), bI_f] at hl
      simp (disch := first | omega | decide | with_reducible assumption) only [D36, i36_0, i36_1, i36_4, i36_7, i36_8, i36_11, i36_12, i36_15, i36_16, hl, b_v_s, b_i_s, b_n_s, b_r_s, b_r_n, b_m_s, b_c_s, b_c_v, if_true, Option.isSome, bI_f]
set_option maxHeartbeats 2000000 in
theorem C_takesOpening {s : PS} (h : PrV μ) (hR : RC μ s) (hP : PI s) : ∃ ν, m_D 37 [.ref 5] μ = some (some (.int (bI (pgS s 40).isSome)), ν) ∧ K [6, 7, 8] [(5, 3), (5, 4), (5, 5), (5, 6), (5, 7)] μ ν ∧ ∀ s', pgS s 40 = some s' → RC ν s' := by
  have hl := C_lastBoxGoesOn h hR hP
  have ho := PrV_oc h
  obtain ⟨st, sz, ins, kd, wd, pr⟩ := s
  rw [pgS_op hP]
  obtain ⟨r1, r2, r3, r4, r5, r6⟩ := hR
  obtain ⟨h1, h2, h3, h4, h5, h6, h7, h8, h9, h10, _⟩ := hP
  dsimp only at *
  by_cases y : 1 ≤ st ∧ st ≤ 3
  · rw [decide_eq_true y, bI_t] at hl
    have hz := h3 (by omega)
    by_cases z : sz < 24
    · rw [if_pos ⟨y, z⟩]
      have cs1 : K [] [(5, 4)] μ (wO μ 5 4 (.int (nI (sz - 1)))) := K_wO (k := 4) (PrV_o h) rfl _ (by simp)
      have cp1 := pO (k := 4) (PrV_o h) rfl (nI (sz - 1))
      have cr1 := wO_FIo (k := 4) (PrV_o h) rfl (nI (sz - 1))
      have cu1 := wO_A (PrV_o h) 4 (.int (nI (sz - 1)))
      generalize wO μ 5 4 (.int (nI (sz - 1))) = cm1 at cs1 cp1 cr1 cu1
      have cV1 := PrV_K h cs1
      have cs2 : K [] [(5, 6)] cm1 (wO cm1 5 6 (.int (bI true))) := K_wO (k := 6) (PrV_o cV1) rfl _ (by simp)
      have cp2 := pOb (k := 6) (PrV_o cV1) rfl true
      have cr2 := wO_FIo (k := 6) (PrV_o cV1) rfl (bI true)
      have cu2 := wO_A (PrV_o cV1) 6 (.int (bI true))
      generalize wO cm1 5 6 (.int (bI true)) = cm2 at cs2 cp2 cr2 cu2
      rw [bI_t] at cp2 cr2
      have cV2 := PrV_K cV1 cs2
      refine ⟨cm2, ?_, (cs1.mono (by simp) (by simp)).tr (cs2.mono (by simp) (by simp)), fun s' hs => ?_⟩
      · simp (disch := first | omega | decide | with_reducible assumption) only [D37, i37_0, i37_1, i37_4, i37_7, i37_8, i37_11, i37_13, i37_16, i37_17, i37_18, i37_19, i37_20, i37_23, i37_24, i37_25, hl, ne10, gPr3 h, r1, b_v_s, b_i_s, b_n_s, b_r_s, b_r_n, b_m_s, b_c_s, b_c_v, n24, lt_t, if_true, if_false, nI_sub1, cp1]
        simp (disch := first | omega | decide | with_reducible assumption) only [i37_28, i37_29, i37_30, i37_33, i37_34, b_v_s, b_i_s, b_n_s, b_r_s, b_r_n, b_m_s, b_c_s, b_c_v, cp2, Option.isSome, bI_t]
      · injection hs with hs
        subst hs
        refine ⟨by simp [cr2, cr1, r1], by simp [cr2, cr1]; rfl, fun q => by dsimp only at q; omega, ?_, ?_, fun b hb => ?_⟩
        · rw [cr2, if_pos ⟨rfl, rfl⟩, decide_eq_true ⟨rfl, hz⟩, bI_t]
        · rw [cr2, if_neg (by decide), cr1, if_neg (by decide), r5, decide_eq_false (by omega), decide_eq_false (by dsimp only; omega)]
        · rw [cu2, cu2, cu2, cu1, cu1, cu1]; exact r6 b hb
    · rw [if_neg (fun q => z q.2)]
      refine ⟨μ, ?_, K.rf μ, fun s' hs => by cases hs⟩
      simp (disch := first | omega | decide | with_reducible assumption) only [D37, i37_0, i37_1, i37_4, i37_7, i37_8, i37_11, i37_13, i37_16, i37_17, hl, ne10, gPr3 h, r1, b_v_s, b_i_s, b_n_s, b_r_s, b_r_n, b_m_s, b_c_s, b_c_v, n24, lt_f, if_false, Option.isSome, bI_f]
  · rw [if_neg (fun q => y q.1)]
    rw [decide_eq_false y, bI_f] at hl
    refine ⟨μ, ?_, K.rf μ, fun s' hs => by cases hs⟩
    simp (disch := first | omega | decide | with_reducible assumption) only [D37, i37_0, i37_1, i37_4, i37_7, i37_8, i37_11, i37_13, i37_16, i37_17, hl, b_v_s, b_i_s, b_n_s, b_r_s, b_r_n, b_m_s, b_c_s, b_c_v, if_true, Option.isSome, bI_f]
set_option maxHeartbeats 2000000 in
theorem C_takesClosing {s : PS} (h : PrV μ) (hR : RC μ s) (hP : PI s) : ∃ ν, m_D 38 [.ref 5] μ = some (some (.int (bI (pgS s 41).isSome)), ν) ∧ K [6, 7, 8] [(5, 3), (5, 4), (5, 5), (5, 6), (5, 7)] μ ν ∧ ∀ s', pgS s 41 = some s' → RC ν s' := by
  obtain ⟨st, sz, ins, kd, wd, pr⟩ := s
  rw [pgS_cl hP]
  obtain ⟨r1, r2, r3, r4, r5, r6⟩ := hR
  obtain ⟨h1, h2, h3, h4, h5, h6, h7, h8, h9, h10, h11, h12⟩ := hP
  dsimp only at *
  have hcI : (cI ins = -1) = (ins = none) := cI_m1 (fun k hk => by have := h6 k hk; omega)
  cases ins with
  | none =>
    rw [show (if st = 0 then none else (match (none : Option Nat) with | none => none | some k => some (4, sz, (if k = 0 then none else some (pr k).toNatClampNeg), kd, wd, pr)) : Option PS) = none by split <;> rfl]
    refine ⟨μ, ?_, K.rf μ, fun s' hs => by cases hs⟩
    simp (disch := first | omega | decide | with_reducible assumption) only [D38, i38_0, i38_1, i38_4, i38_5, i38_8, i38_9, i38_12, i38_15, i38_16, gPr4 h, r2, cI_n1, b_v_s, b_i_s, b_n_s, b_r_s, b_r_n, b_m_s, b_c_s, b_c_v, if_true, Option.isSome, bI_f]
  | some k =>
    have hk := h6 k rfl
    dsimp only
    by_cases e : st = 0
    · rw [if_pos e]
      rw [decide_eq_true ⟨e, by omega⟩, bI_t] at r4
      refine ⟨μ, ?_, K.rf μ, fun s' hs => by cases hs⟩
      simp (disch := first | omega | decide | with_reducible assumption) only [D38, i38_0, i38_1, i38_4, i38_5, i38_8, i38_9, i38_12, i38_15, i38_16, gPr4 h, gPr6 h, r2, r4, cI_s, nI_ne1, ne10, b_v_s, b_i_s, b_n_s, b_r_s, b_r_n, b_m_s, b_c_s, b_c_v, if_false, Option.isSome, bI_f]
    · rw [if_neg e]
      rw [decide_eq_false (fun q => e q.1), bI_f] at r4
      have hup : pr k = cI (if k = 0 then none else some (pr k).toNatClampNeg) := by
        by_cases k0 : k = 0
        · rw [if_pos k0, k0]; exact h11 (by omega)
        · obtain ⟨u, u1, u2⟩ := h12 k (by omega) hk
          rw [if_neg k0, u2, nI_clamp (by omega)]; rfl
      have f8 := ga_A (k := k) (PrV_8 h) (by omega) (by decide)
      rw [(r6 k hk).2.2, hup] at f8
      generalize (if k = 0 then none else some (pr k).toNatClampNeg) = IN at f8 ⊢
      have cs1 : K [] [(5, 4)] μ (wO μ 5 4 (.int (cI IN))) := K_wO (k := 4) (PrV_o h) rfl _ (by simp)
      have cp1 := pO (k := 4) (PrV_o h) rfl (cI IN)
      have cr1 := wO_FIo (k := 4) (PrV_o h) rfl (cI IN)
      have cu1 := wO_A (PrV_o h) 4 (.int (cI IN))
      generalize wO μ 5 4 (.int (cI IN)) = cm1 at cs1 cp1 cr1 cu1
      have cV1 := PrV_K h cs1
      have cs2 : K [] [(5, 7)] cm1 (wO cm1 5 7 (.int (bI true))) := K_wO (k := 7) (PrV_o cV1) rfl _ (by simp)
      have cp2 := pOb (k := 7) (PrV_o cV1) rfl true
      have cr2 := wO_FIo (k := 7) (PrV_o cV1) rfl (bI true)
      have cu2 := wO_A (PrV_o cV1) 7 (.int (bI true))
      generalize wO cm1 5 7 (.int (bI true)) = cm2 at cs2 cp2 cr2 cu2
      rw [bI_t] at cp2 cr2
      have cV2 := PrV_K cV1 cs2
      refine ⟨cm2, ?_, (cs1.mono (by simp) (by simp)).tr (cs2.mono (by simp) (by simp)), fun s' hs => ?_⟩
      · simp (disch := first | omega | decide | with_reducible assumption) only [D38, i38_0, i38_1, i38_4, i38_5, i38_8, i38_9, i38_12, i38_15, i38_16, i38_17, i38_18, i38_19, i38_22, i38_23, i38_26, i38_27, i38_30, i38_31, i38_32, i38_35, i38_36, gPr4 h, gPr6 h, gPr2 h, r2, r4, cI_s, nI_ne1, f8, b_v_s, b_i_s, b_n_s, b_r_s, b_r_n, b_m_s, b_c_s, b_c_v, if_true, if_false, cp1, cp2, Option.isSome, bI_t]
      · injection hs with hs
        subst hs
        refine ⟨by simp [cr2, cr1, r1], by simp [cr2, cr1], fun _ q => by dsimp only at q; omega, ?_, ?_, fun b hb => ?_⟩
        · rw [cr2, if_neg (by decide), cr1, if_neg (by decide), r4, decide_eq_false (fun q => by have := q.1; dsimp only at this; omega), bI_f]
        · rw [cr2, if_pos ⟨rfl, rfl⟩, decide_eq_true rfl, bI_t]
        · rw [cu2, cu2, cu2, cu1, cu1, cu1]; exact r6 b hb
theorem C_takes {s : PS} {c : Nat} (h : PrV μ) (hR : RC μ s) (hP : PI s) (hc : c < 127) : ∃ ν, m_D 33 [.ref 5, .int (nI c)] μ = some (some (.int (bI (pgS s c).isSome)), ν) ∧ K [6, 7, 8] [(5, 3), (5, 4), (5, 5), (5, 6), (5, 7)] μ ν ∧ ∀ s', pgS s c = some s' → RC ν s' := by
  have ho := PrV_oc h
  have k1 := C_isKind (μ := μ) (c := c) (by omega)
  have k2 := C_isDigit (μ := μ) (c := c) (by omega)
  cases hk : kdC c with
  | true =>
    rw [hk] at k1
    have hcc := kd_of hk
    obtain ⟨ν, e, s1, r⟩ := C_takesKind h hR hP hk
    refine ⟨ν, ?_, s1, r⟩
    simp (disch := first | omega | exact bI_and _ | with_reducible assumption) only [D33, i33_0, i33_1, i33_4, i33_7, i33_8, i33_9, i33_11, i33_12, i33_15, k1, bI_0, Bool.true_eq_false, b_v_s, b_i_s, b_n_s, b_r_s, b_r_n, b_m_s, b_c_s, b_c_v, if_false, n97, nI_minus, e]
  | false =>
    rw [hk] at k1
    cases hd : dgC c with
    | true =>
      rw [hd] at k2
      have hcc := dg_of hd
      obtain ⟨ν, e, s1, r⟩ := C_takesDigit h hR hP hd
      refine ⟨ν, ?_, s1, r⟩
      simp (disch := first | omega | exact bI_and _ | with_reducible assumption) only [D33, i33_0, i33_1, i33_4, i33_7, i33_8, i33_9, i33_11, i33_12, i33_15, i33_16, i33_17, i33_20, i33_23, i33_24, i33_25, i33_27, i33_28, i33_31, k1, k2, bI_0, Bool.true_eq_false, b_v_s, b_i_s, b_n_s, b_r_s, b_r_n, b_m_s, b_c_s, b_c_v, if_true, if_false, n48, nI_minus, e]
    | false =>
      rw [hd] at k2
      by_cases c40 : c = 40
      · subst c40
        obtain ⟨ν, e, s1, r⟩ := C_takesOpening h hR hP
        refine ⟨ν, ?_, s1, r⟩
        simp (disch := first | omega | exact bI_and _ | with_reducible assumption) only [D33, i33_0, i33_1, i33_4, i33_16, i33_17, i33_20, i33_32, i33_33, i33_35, i33_38, i33_39, i33_42, k1, k2, bI_0, b_v_s, b_i_s, b_n_s, b_r_s, b_r_n, b_m_s, b_c_s, b_c_v, if_true, n40, e]
      · by_cases c41 : c = 41
        · subst c41
          obtain ⟨ν, e, s1, r⟩ := C_takesClosing h hR hP
          refine ⟨ν, ?_, s1, r⟩
          cases hI : (pgS s 41).isSome with
          | true =>
            rw [hI] at e
            simp (disch := first | omega | exact bI_and _ | decide | with_reducible assumption) only [D33, i33_0, i33_1, i33_4, i33_16, i33_17, i33_20, i33_32, i33_33, i33_35, i33_43, i33_44, i33_46, i33_49, i33_50, i33_53, i33_56, i33_57, i33_60, i33_61, k1, k2, bI_0, b_v_s, b_i_s, b_n_s, b_r_s, b_r_n, b_m_s, b_c_s, b_c_v, if_true, if_false, n40, n41, eq_f, e, Bool.true_eq_false, ne10, bI_t]
          | false =>
            rw [hI] at e
            simp (disch := first | omega | exact bI_and _ | decide | with_reducible assumption) only [D33, i33_0, i33_1, i33_4, i33_16, i33_17, i33_20, i33_32, i33_33, i33_35, i33_43, i33_44, i33_46, i33_49, i33_50, i33_53, i33_56, i33_57, i33_60, i33_61, k1, k2, bI_0, b_v_s, b_i_s, b_n_s, b_r_s, b_r_n, b_m_s, b_c_s, b_c_v, if_true, if_false, n40, n41, eq_f, e, bI_f]
        · obtain ⟨st, sz, ins, kd, wd, pr⟩ := s
          have e := pgS_ot (st := st) (sz := sz) (ins := ins) (kd := kd) (wd := wd) (pr := pr) (by rw [hk]; decide) (by rw [hd]; decide) c40 c41
          rw [e]
          refine ⟨μ, ?_, K.rf μ, fun s' hs => by cases hs⟩
          simp (disch := first | omega | exact bI_and _ | decide | with_reducible assumption) only [D33, i33_0, i33_1, i33_4, i33_16, i33_17, i33_20, i33_32, i33_33, i33_35, i33_43, i33_44, i33_46, i33_49, i33_50, i33_53, i33_56, i33_57, i33_60, i33_61, k1, k2, bI_0, b_v_s, b_i_s, b_n_s, b_r_s, b_r_n, b_m_s, b_c_s, b_c_v, if_true, if_false, n40, n41, eq_f, Option.isSome, bI_f]
end takes
