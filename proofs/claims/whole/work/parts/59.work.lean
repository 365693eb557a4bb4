/-! the class works all out about the sentences that fit -/
theorem FS_skip {μ : mM} {np x : Nat} {BM PR KD : Nat → Int32} {fit : Nat → Bool} {EV : Nat → Nat} (h : FS μ np BM PR KD fit EV x) (hf : fit x = false) : FS μ np BM PR KD fit EV (x + 1) := by
  obtain ⟨h0, h1, h2, h3, h4⟩ := h
  have e0 : cnt fit (x + 1) = cnt fit x := by rw [cnt_st, hf]; rfl
  have e1 : lsF fit (x + 1) = lsF fit x := by rw [lsF_st, if_neg (fun q => by rw [hf] at q; exact absurd q.1 (by decide))]
  have e2 : lkF fit EV (x + 1) = lkF fit EV x := by rw [lkF_st, if_neg (by rw [hf]; decide)]
  refine ⟨by rw [e0]; exact h0, by rw [e1]; exact h1, by rw [e2]; exact h2, by rw [e2]; exact h3, fun p hp b hb => ?_⟩
  rw [h4 p hp b hb, cnt_st, hf, Bool.false_and, if_neg (by decide), Nat.add_zero]
section cwork
variable {μ : mM} {np : Nat} {PA : Nat → Nat} {BM PR KD WD MK WH : Nat → Int32}
set_option maxHeartbeats 2000000 in
theorem C_workOut {EV : Nat → Nat} (h : PGV μ np PA BM PR KD WD MK WH) (hA : ADs PA np) (hF : FV μ) (hE : ∀ x, x < 3615 → fitU BM PR KD MK WH x np = true → EV x = moE (cvE BM PR KD MK WH x) np) (hEl : ∀ y, EV y ≤ 8) : ∃ ν, m_D 1 [.ref 11, .ref 2, .int (nI np)] μ = some (none, ν) ∧ K (XW PA np) (YW PA np) μ ν ∧ PGV ν np PA BM PR KD WD MK WH ∧ FS ν np BM PR KD (fun x => fitU BM PR KD MK WH x np) EV 3615 ∧ FI ν 11 4 = akI (akP (mayF MK WH (ldF BM PR KD (fun x => fitU BM PR KD MK WH x np)) (cnt (fun x => fitU BM PR KD MK WH x np) 3615)) (moF (ldF BM PR KD (fun x => fitU BM PR KD MK WH x np)) (cnt (fun x => fitU BM PR KD MK WH x np) 3615)) (bnn BM) np) := by
  have h8 := h.1
  have T : ∀ k, k < 5 → TFt[k]? = some none := by decide
  generalize hfit : (fun x => fitU BM PR KD MK WH x np) = fit
  have hfx : ∀ x, fitU BM PR KD MK WH x np = fit x := fun x => congrFun hfit x
  -- the numbers
  obtain ⟨ν1, e1, s1, g0, g1, g2, g3⟩ : ∃ ν1, m_D 1 [.ref 11, .ref 2, .int (nI np)] μ = m_G 1 20 [.ref 11, .ref 2, .int (nI np), m_d] [] ν1 ∧ K [] [(11, 0), (11, 1), (11, 2), (11, 3)] μ ν1 ∧ FI ν1 11 0 = 0 ∧ FI ν1 11 1 = -1 ∧ FI ν1 11 2 = -1 ∧ FI ν1 11 3 = -1 := by
    have sa : K [] [(11, 0), (11, 1), (11, 2), (11, 3)] μ (wO μ 11 0 (.int 0)) := K_wO hF.1 (T 0 (by decide)) _ (by simp)
    have pa := pO hF.1 (T 0 (by decide)) 0
    have ra := wO_FIo hF.1 (T 0 (by decide)) 0 11
    generalize wO μ 11 0 (.int 0) = νa at *
    have Fa := FV_K hF sa
    have sb' : K [] [(11, 0), (11, 1), (11, 2), (11, 3)] νa (wO νa 11 1 (.int (-1))) := K_wO Fa.1 (T 1 (by decide)) _ (by simp)
    have pb := pO Fa.1 (T 1 (by decide)) (-1)
    have rb := wO_FIo Fa.1 (T 1 (by decide)) (-1) 11
    generalize wO νa 11 1 (.int (-1)) = νb at *
    have Fb := FV_K Fa sb'
    have sc : K [] [(11, 0), (11, 1), (11, 2), (11, 3)] νb (wO νb 11 2 (.int (-1))) := K_wO Fb.1 (T 2 (by decide)) _ (by simp)
    have pc := pO Fb.1 (T 2 (by decide)) (-1)
    have rc := wO_FIo Fb.1 (T 2 (by decide)) (-1) 11
    generalize wO νb 11 2 (.int (-1)) = νc at *
    have Fc := FV_K Fb sc
    have sd : K [] [(11, 0), (11, 1), (11, 2), (11, 3)] νc (wO νc 11 3 (.int (-1))) := K_wO Fc.1 (T 3 (by decide)) _ (by simp)
    have pd := pO Fc.1 (T 3 (by decide)) (-1)
    have rd := wO_FIo Fc.1 (T 3 (by decide)) (-1) 11
    generalize wO νc 11 3 (.int (-1)) = νd at *
    refine ⟨νd, ?_, sa.tr (sb'.tr (sc.tr sd)), ?_, ?_, ?_, ?_⟩
    · simp only [D1, i1_0, i1_1, i1_2, i1_5, i1_6, i1_7, i1_10, i1_11, i1_12, i1_15, i1_16, i1_17, pa, pb, pc, pd, b_v_s, b_i_s, b_n_s, b_r_s, b_r_n, b_m_s, b_c_s, b_c_v]
    · rw [rd, if_neg (by decide), rc, if_neg (by decide), rb, if_neg (by decide), ra, if_pos ⟨rfl, rfl⟩]
    · rw [rd, if_neg (by decide), rc, if_neg (by decide), rb, if_pos ⟨rfl, rfl⟩]
    · rw [rd, if_neg (by decide), rc, if_pos ⟨rfl, rfl⟩]
    · rw [rd, if_pos ⟨rfl, rfl⟩]
  have F1 := FV_K hF s1
  obtain ⟨ν2, e2, s2, f2⟩ := C_fill (v := 0) F1.2.1 (by decide)
  have F2 := FV_K F1 s2
  have V2 := PGV_K (PGV_K h hA s1 (by simp) (by simp)) hA s2 (by simp) (by simp)
  have t2 : K (XW PA np) (YW PA np) μ ν2 := (s1.mono (by simp) (by unfold YW; simp)).tr (s2.mono (by unfold XW; simp) (by simp))
  have S2 : FS ν2 np BM PR KD fit EV 0 := by
    refine ⟨?_, ?_, ?_, ?_, fun p hp b hb => ?_⟩
    · rw [K_FI s2 (by simp)]; exact g0
    · rw [K_FI s2 (by simp)]; exact g1
    · rw [K_FI s2 (by simp)]; exact g2
    · rw [K_FI s2 (by simp)]; exact g3
    · rw [f2 _ (by omega)]; rfl
  -- sentences are drawn
  obtain ⟨ν3, w3, e3, t3, V3, S3, d3⟩ := loop_inv (fun p ν (_ : Unit) => m_G 1 30 [.ref 11, .ref 2, .int (nI np), .int (nI p)] [] ν) (fun p ν => K (XW PA np) (YW PA np) μ ν ∧ PGV ν np PA BM PR KD WD MK WH ∧ FS ν np BM PR KD fit EV 0 ∧ ∀ q, q < p → ∀ x, x < 3615 → A ν (PA q + 2) x = sn PR KD q (bnn BM q) x) np (fun p ν _ hp P => by
    obtain ⟨t, V, S, d⟩ := P
    obtain ⟨_, h2, h3, h4⟩ := V.2.2 p hp
    have hg := pgr V hp
    have ho := P_oc h2
    have ha := (hA p hp).1
    obtain ⟨ξ, e, s, k1, k2⟩ := C_drawSentences h2 h4
    refine ⟨ξ, (), ?_, t.tr (s.mono (fun a q => by rw [List.mem_singleton] at q; subst q; exact XW_in hp) (fun a q => by rw [List.mem_singleton] at q; subst q; exact YW_in hp)), PGV_draw V hA hp s k1 k2, ?_, fun q hq x hx => ?_⟩
    · try dsimp only
      rw [i1_30]
      simp (disch := first | omega | decide | with_reducible assumption) only [i1_31, i1_32, i1_35, i1_36, i1_37, i1_38, i1_41, i1_44, lt_t, if_true, hg, b_v_s, b_i_s, b_n_s, b_r_s, b_r_n, b_m_s, b_c_s, b_c_v, e, nI_add1]
    · obtain ⟨a0, a1, a2, a3, a4⟩ := S
      exact ⟨by rw [K_FI s (by simp)]; exact a0, by rw [K_FI s (by simp)]; exact a1, by rw [K_FI s (by simp)]; exact a2, by rw [K_FI s (by simp)]; exact a3, LDs_K a4 s (by simp; omega)⟩
    · by_cases z : q = p
      · subst z; exact k2 x hx
      · have := (hA q (by omega)).2 p hp z
        rw [K_A s (by simp; omega)]; exact d q (by omega) x hx) ν2 () ⟨t2, V2, S2, fun q hq => by omega⟩
  -- and taken in
  obtain ⟨ν4, w4, e4, t4, V4, S4, d4⟩ := loop_inv (fun x ν (_ : Unit) => m_G 1 49 [.ref 11, .ref 2, .int (nI np), .int (nI x)] [] ν) (fun x ν => K (XW PA np) (YW PA np) μ ν ∧ PGV ν np PA BM PR KD WD MK WH ∧ FS ν np BM PR KD fit EV x ∧ ADr ν np PA BM PR KD) 3615 (fun x ν _ hx P => by
    obtain ⟨t, V, S, d⟩ := P
    have hFν := FV_K hF t
    have ho := FV_oc hFν
    have hif := C_isFit V d hx
    rw [hfx] at hif
    cases hF1 : fit x with
    | false =>
      rw [hF1] at hif
      refine ⟨ν, (), ?_, t, V, FS_skip S hF1, d⟩
      try dsimp only
      rw [i1_49]
      simp (disch := first | omega | decide | with_reducible assumption) only [i1_50, i1_53, i1_56, i1_57, i1_58, i1_59, i1_62, i1_65, i1_66, i1_67, i1_68, i1_69, i1_72, i1_75, n3615, lt_t, if_true, hif, b_v_s, b_i_s, b_n_s, b_r_s, b_r_n, b_m_s, b_c_s, b_c_v, bI_0, nI_add1]
    | true =>
      rw [hF1] at hif
      obtain ⟨ξ, e, s, k⟩ := C_takeIn (x := x) (fit := fit) (EV := EV) V hA d hFν hx hF1 (hE x hx (by rw [hfx]; exact hF1)) hEl S
      refine ⟨ξ, (), ?_, t.tr (s.mono (by unfold XW; simp) (by unfold YW; simp)), PGV_K V hA s (by simp) (by simp), k, ADr_K d hA s (by simp)⟩
      try dsimp only
      rw [i1_49]
      simp (disch := first | omega | decide | with_reducible assumption) only [i1_50, i1_53, i1_56, i1_57, i1_58, i1_59, i1_62, i1_65, i1_66, i1_67, i1_68, i1_69, i1_72, i1_75, n3615, lt_t, if_true, if_false, Bool.true_eq_false, hif, b_v_s, b_i_s, b_n_s, b_r_s, b_r_n, b_m_s, b_c_s, b_c_v, bI_0, e, nI_add1]) ν3 () ⟨t3, V3, S3, d3⟩
  have F4 := FV_K hF t4
  have ho4 := FV_oc F4
  have hb := C_bestToAsk V4 F4 S4.1 S4.2.2.2.2
  have s5 : K [] [(11, 4)] ν4 (wO ν4 11 4 (.int (akI (akP (mayF MK WH (ldF BM PR KD fit) (cnt fit 3615)) (moF (ldF BM PR KD fit) (cnt fit 3615)) (bnn BM) np)))) := K_wO F4.1 (T 4 (by decide)) _ (by simp)
  have p5 := pO F4.1 (T 4 (by decide)) (akI (akP (mayF MK WH (ldF BM PR KD fit) (cnt fit 3615)) (moF (ldF BM PR KD fit) (cnt fit 3615)) (bnn BM) np))
  have r5 := wO_FIo F4.1 (T 4 (by decide)) (akI (akP (mayF MK WH (ldF BM PR KD fit) (cnt fit 3615)) (moF (ldF BM PR KD fit) (cnt fit 3615)) (bnn BM) np)) 11
  generalize akI (akP (mayF MK WH (ldF BM PR KD fit) (cnt fit 3615)) (moF (ldF BM PR KD fit) (cnt fit 3615)) (bnn BM) np) = ASK at *
  generalize wO ν4 11 4 (.int ASK) = ν5 at *
  refine ⟨ν5, ?_, t4.tr (s5.mono (by simp) (by unfold YW; simp)), PGV_K V4 hA s5 (by simp) (by simp), ?_, ?_⟩
  · rw [e1]
    simp (disch := first | omega | decide | with_reducible assumption) only [i1_20, i1_21, i1_24, i1_25, i1_28, i1_29, gF5 F1, b_v_s, b_i_s, b_n_s, b_r_s, b_r_n, b_m_s, b_c_s, b_c_v, e2]
    refine (show _ = _ from e3).trans ?_
    try dsimp only
    rw [i1_30]
    simp (disch := first | omega | decide | with_reducible assumption) only [i1_31, i1_32, i1_47, i1_48, lt_f, if_false]
    refine (show _ = _ from e4).trans ?_
    try dsimp only
    rw [i1_49]
    simp (disch := first | omega | decide | with_reducible assumption) only [i1_50, i1_53, i1_78, i1_79, i1_80, i1_81, i1_82, i1_85, i1_88, n3615, lt_f, if_false, hb, b_v_s, b_i_s, b_n_s, b_r_s, b_r_n, b_m_s, b_c_s, b_c_v, p5]
  · obtain ⟨a0, a1, a2, a3, a4⟩ := S4
    exact ⟨by rw [K_FI s5 (by simp)]; exact a0, by rw [K_FI s5 (by simp)]; exact a1, by rw [K_FI s5 (by simp)]; exact a2, by rw [K_FI s5 (by simp)]; exact a3, LDs_K a4 s5 (by simp)⟩
  · rw [r5, if_pos ⟨rfl, rfl⟩]
end cwork
/-! which is chosen: the model's search from the end is the class's from the start -/
theorem fst_ls (fit : Nat → Bool) (n : Nat) : lsF fit n = fst fit n 0 := by
  induction n with
  | zero => rfl
  | succ n ih =>
    rw [lsF_st]
    have key : ∀ r i, fst fit (r + 1) i = match fst fit r i with
        | some k => some k
        | none => if fit (i + r) = true then some (i + r) else none := by
      intro r
      induction r with
      | zero => intro i; rw [fst, fst, fst]; rfl
      | succ r ihr =>
        intro i
        rw [fst, ihr (i + 1)]
        by_cases q : fit i = true
        · rw [if_pos q, fst, if_pos q]
        · rw [if_neg q, fst, if_neg q, show i + 1 + r = i + (r + 1) by omega]
    rw [key n 0, ← ih, Nat.zero_add]
    have z : lsF fit n = none ↔ cnt fit n = 0 := by
      clear ih key
      induction n with
      | zero => exact ⟨fun _ => rfl, fun _ => rfl⟩
      | succ n ih =>
        rw [lsF_st, cnt_st]
        by_cases q : fit n = true
        · rw [if_pos q]
          by_cases r : cnt fit n = 0
          · rw [if_pos ⟨q, r⟩]; exact ⟨fun e => (by cases e), fun e => (by omega)⟩
          · rw [if_neg (fun w => r w.2), ih]; exact ⟨fun e => absurd e r, fun e => by omega⟩
        · rw [if_neg (fun w => q w.1), if_neg q, ih, Nat.add_zero]
    cases h : lsF fit n with
    | none =>
      dsimp only
      have c0 := z.mp h
      by_cases q : fit n = true
      · rw [if_pos ⟨q, c0⟩, if_pos q]
      · rw [if_neg (fun w => q w.1), if_neg q]
    | some k =>
      dsimp only
      rw [if_neg (fun w => by rw [z.mpr w.2] at h; cases h)]
theorem chs_ls (fit : Nat → Bool) (EV : Nat → Nat) (N i : Nat) (hi : i ≤ N) : chs false fit EV N i = fst fit i (N - i) := by
  induction i with
  | zero => rfl
  | succ i ih =>
    rw [chs_st, ih (by omega), fst, show N - 1 - i = N - (i + 1) by omega, show N - (i + 1) + 1 = N - i by omega]
    by_cases q : fit (N - (i + 1)) = true
    · rw [if_pos q, if_pos q]
      cases fst fit i (N - i) <;> simp
    · rw [if_neg q, if_neg q]
/-- the first of greatest EV among those of fit in [lo, hi) -/
def isMx (fit : Nat → Bool) (EV : Nat → Nat) (lo hi : Nat) : Option Nat → Prop
  | none => ∀ y, lo ≤ y → y < hi → fit y = false
  | some c => lo ≤ c ∧ c < hi ∧ fit c = true ∧ ∀ y, lo ≤ y → y < hi → fit y = true → EV y < EV c ∨ (EV y = EV c ∧ c ≤ y)
theorem isMx_un {fit : Nat → Bool} {EV : Nat → Nat} {lo hi : Nat} {o o' : Option Nat} (h : isMx fit EV lo hi o) (h' : isMx fit EV lo hi o') : o = o' := by
  cases o with
  | none =>
    cases o' with
    | none => rfl
    | some c => obtain ⟨a, b, c', _⟩ := h'; rw [h c a b] at c'; cases c'
  | some d =>
    obtain ⟨a, b, c', e⟩ := h
    cases o' with
    | none => rw [h' d a b] at c'; cases c'
    | some c =>
      obtain ⟨a1, b1, c1, e1⟩ := h'
      have x1 := e c a1 b1 c1
      have x2 := e1 d a b c'
      congr 1
      omega
theorem lkF_mx (fit : Nat → Bool) (EV : Nat → Nat) (n : Nat) : isMx fit EV 0 n (lkF fit EV n) := by
  induction n with
  | zero => intro y _ h; omega
  | succ n ih =>
    rw [lkF_st]
    by_cases q : fit n = true
    · rw [if_pos q]
      cases hk : lkF fit EV n with
      | none =>
        rw [hk] at ih
        refine ⟨Nat.zero_le n, by omega, q, fun y y1 y2 y3 => ?_⟩
        by_cases e : y = n
        · subst e; exact Or.inr ⟨rfl, Nat.le_refl _⟩
        · rw [ih y y1 (by omega)] at y3; cases y3
      | some c =>
        rw [hk] at ih
        obtain ⟨i1, i2, i3, i4⟩ := ih
        dsimp only
        by_cases r : EV c < EV n
        · rw [if_pos r]
          refine ⟨Nat.zero_le n, by omega, q, fun y y1 y2 y3 => ?_⟩
          by_cases e : y = n
          · subst e; exact Or.inr ⟨rfl, Nat.le_refl _⟩
          · have := i4 y y1 (by omega) y3; omega
        · rw [if_neg r]
          refine ⟨i1, by omega, i3, fun y y1 y2 y3 => ?_⟩
          by_cases e : y = n
          · subst e; omega
          · exact i4 y y1 (by omega) y3
    · rw [if_neg q]
      cases hk : lkF fit EV n with
      | none =>
        rw [hk] at ih
        intro y y1 y2
        by_cases e : y = n
        · subst e; simpa using q
        · exact ih y y1 (by omega)
      | some c =>
        rw [hk] at ih
        obtain ⟨i1, i2, i3, i4⟩ := ih
        refine ⟨i1, by omega, i3, fun y y1 y2 y3 => ?_⟩
        by_cases e : y = n
        · subst e; exact absurd y3 q
        · exact i4 y y1 (by omega) y3
theorem chs_mx (fit : Nat → Bool) (EV : Nat → Nat) (N i : Nat) (hi : i ≤ N) : isMx fit EV (N - i) N (chs true fit EV N i) := by
  induction i with
  | zero => intro y _ h; omega
  | succ i ih =>
    have ih := ih (by omega)
    rw [chs_st, show N - 1 - i = N - (i + 1) by omega]
    by_cases q : fit (N - (i + 1)) = true
    · rw [if_pos q]
      cases hk : chs true fit EV N i with
      | none =>
        rw [hk] at ih
        refine ⟨Nat.le_refl _, by omega, q, fun y y1 y2 y3 => ?_⟩
        by_cases e : y = N - (i + 1)
        · subst e; exact Or.inr ⟨rfl, Nat.le_refl _⟩
        · rw [ih y (by omega) y2] at y3; cases y3
      | some c =>
        rw [hk] at ih
        obtain ⟨i1, i2, i3, i4⟩ := ih
        dsimp only
        by_cases r : EV c ≤ EV (N - (i + 1))
        · rw [if_pos (Or.inr r)]
          refine ⟨Nat.le_refl _, by omega, q, fun y y1 y2 y3 => ?_⟩
          by_cases e : y = N - (i + 1)
          · subst e; exact Or.inr ⟨rfl, Nat.le_refl _⟩
          · have := i4 y (by omega) y2 y3; omega
        · rw [if_neg (fun z => z.elim (fun z => by cases z) (fun z => r z))]
          refine ⟨by omega, i2, i3, fun y y1 y2 y3 => ?_⟩
          by_cases e : y = N - (i + 1)
          · subst e; omega
          · exact i4 y (by omega) y2 y3
    · rw [if_neg q]
      cases hk : chs true fit EV N i with
      | none =>
        rw [hk] at ih
        intro y y1 y2
        by_cases e : y = N - (i + 1)
        · subst e; simpa using q
        · exact ih y (by omega) y2
      | some c =>
        rw [hk] at ih
        obtain ⟨i1, i2, i3, i4⟩ := ih
        refine ⟨by omega, i2, i3, fun y y1 y2 y3 => ?_⟩
        by_cases e : y = N - (i + 1)
        · subst e; exact absurd y3 q
        · exact i4 y (by omega) y2 y3
theorem chs_eq (fit : Nat → Bool) (EV : Nat → Nat) (N : Nat) : chs false fit EV N N = lsF fit N ∧ chs true fit EV N N = lkF fit EV N := by
  refine ⟨?_, ?_⟩
  · rw [chs_ls _ _ _ _ (Nat.le_refl N), Nat.sub_self, fst_ls]
  · have h := chs_mx fit EV N N (Nat.le_refl N)
    rw [Nat.sub_self] at h
    exact isMx_un h (lkF_mx fit EV N)
