/-! what a method of the model leaves as it was: all but the rows X and the numbers Y -/
def SC (X Y : List Nat) (μ ν : mM) : Prop := MS ν ∧ ν.1 = μ.1 ∧ (ν.2.1 = μ.2.1 ∧ ∀ k, FL ν 19 k = FL μ 19 k) ∧ (∀ a, a ≠ 19 → a ∉ X → mF ν a = mF μ a) ∧ ∀ k, k ∉ Y → FI ν 19 k = FI μ 19 k
theorem SC_A {X Y : List Nat} {μ ν : mM} (h : SC X Y μ ν) {a : Nat} (h19 : a ≠ 19) (ha : a ∉ X) : A ν a = A μ a := by unfold A; rw [h.2.2.2.1 a h19 ha]
theorem SC.rf {X Y : List Nat} {μ : mM} (h : MS μ) : SC X Y μ μ := ⟨h, rfl, ⟨rfl, fun _ => rfl⟩, fun _ _ _ => rfl, fun _ _ => rfl⟩
theorem SC.tr {X Y : List Nat} {μ ν ξ : mM} (h1 : SC X Y μ ν) (h2 : SC X Y ν ξ) : SC X Y μ ξ := ⟨h2.1, h2.2.1.trans h1.2.1, ⟨h2.2.2.1.1.trans h1.2.2.1.1, fun k => (h2.2.2.1.2 k).trans (h1.2.2.1.2 k)⟩, fun a h19 ha => (h2.2.2.2.1 a h19 ha).trans (h1.2.2.2.1 a h19 ha), fun k hk => (h2.2.2.2.2 k hk).trans (h1.2.2.2.2 k hk)⟩
theorem SC.mono {X Y X' Y' : List Nat} {μ ν : mM} (h : SC X Y μ ν) (hX : ∀ a ∈ X, a ∈ X') (hY : ∀ k ∈ Y, k ∈ Y') : SC X' Y' μ ν := ⟨h.1, h.2.1, h.2.2.1, fun a h19 ha => h.2.2.2.1 a h19 (fun q => ha (hX a q)), fun k hk => h.2.2.2.2 k (fun q => hk (hY k q))⟩
theorem SC_wA {X Y : List Nat} {μ : mM} (h : MS μ) {a k n : Nat} (ha : isA μ a k n) (f : Nat → Int32) (hX : a ∈ X) : SC X Y μ (wA μ a f) := by
  refine ⟨MS_wA h ha f, by rw [wA_eq ha]; rfl, ⟨by rw [wA_eq ha]; rfl, fun k => ?_⟩, fun b _ hb => ?_, fun k _ => wA_FI ha f 19 k⟩
  · have e : mF (wA μ a f) 19 = mF μ 19 := (wA_ob ha f h.1).trans h.1.symm
    unfold FL
    rw [e]
  have q : ¬ b = a := fun q => hb (by rw [q]; exact hX)
  rw [wA_F ha, if_neg q]
theorem SC_w23 {X Y : List Nat} {μ : mM} (h : MS μ) (x : Int32) (hY : 23 ∈ Y) : SC X Y μ (wO μ 19 23 (.int x)) := by
  refine ⟨MS_w23 h x, by rw [wO_eq h.1]; rfl, ⟨by rw [wO_eq h.1]; rfl, fun k => ?_⟩, fun b h19 hb => ?_, fun k hk => ?_⟩
  · unfold FL
    rw [wO_F h.1, if_pos rfl, h.1]
    by_cases r : k = 23
    · subst r; rfl
    · show (match ((oM μ).set 23 (.int x))[k]? with | some (.long x) => x | _ => 0) = (match (oM μ)[k]? with | some (.long x) => x | _ => 0)
      rw [List.getElem?_set_ne (Ne.symm r)]
  · rw [wO_F h.1, if_neg h19]
  · have q : ¬ ((19 : Nat) = 19 ∧ k = 23) := fun q => hk (by rw [q.2]; exact hY)
    rw [fM23 h, if_neg q]
/-- a loop over memories that keep something -/
theorem loop_inv {X V : Type} (cfg : Nat → mM → V → X) (P : Nat → mM → Prop) (n : Nat) (hs : ∀ i ν v, i < n → P i ν → ∃ ν' v', cfg i ν v = cfg (i + 1) ν' v' ∧ P (i + 1) ν') (μ : mM) (v : V) (h0 : P 0 μ) : ∃ ν v', cfg 0 μ v = cfg n ν v' ∧ P n ν := by
  have key : ∀ k, k ≤ n → ∃ ν v', cfg 0 μ v = cfg k ν v' ∧ P k ν := by
    intro k
    induction k with
    | zero => intro _; exact ⟨μ, v, rfl, h0⟩
    | succ k ih =>
      intro hk
      obtain ⟨ν, v1, e1, p1⟩ := ih (by omega)
      obtain ⟨ν', v2, e2, p2⟩ := hs k ν v1 (by omega) p1
      exact ⟨ν', v2, e1.trans e2, p2⟩
  exact key n (Nat.le_refl n)
/-- pages: how many boxes, and their parents -/
def bnn (BM : Nat → Int32) (p : Nat) : Nat := (BM p).toNatClampNeg
def PGs (BM PR : Nat → Int32) (np : Nat) : Prop := np ≤ 8 ∧ ∀ p, p < np → BM p = nI (bnn BM p) ∧ 1 ≤ bnn BM p ∧ bnn BM p ≤ 24 ∧ PW PR p (bnn BM p)
/-- the marks of a page as sets -/
def mks (BM MK : Nat → Int32) (p : Nat) (as : Int32) : Int32 := mk (fun b => decide (MK (24 * p + b) = as)) (bnn BM p)
def met (s y n w : Int32) : Bool := decide (s &&& y = y) && (decide (s &&& n = 0) && (decide (w = 0) || decide (s = y)))
/-- whether sentence x fits the first pages -/
def fitU (BM PR KD MK WH : Nat → Int32) (x : Nat) : Nat → Bool
  | 0 => true
  | p + 1 => fitU BM PR KD MK WH x p && met (sn PR KD p (bnn BM p) x) (mks BM MK p 1) (mks BM MK p 2) (WH p)
theorem ne10 : ((1 : Int32) = 0) = False := eq_false (by decide)
theorem bI_n0 (b : Bool) : (bI b = nI 0) = (b = false) := bI_0 b
theorem n3615 : (3615 : Int32) = nI 3615 := rfl
theorem upd_at (f : Nat → Int32) (k : Nat) (x : Int32) (j : Nat) : upd f k x j = if j = k then x else f j := rfl
section fits
variable {μ : mM}
set_option maxHeartbeats 2000000 in
theorem E_findFits {np : Nat} (h : MS μ) (hp : FI μ 19 0 = nI np) (hg : PGs (A μ 20) (A μ 23) np) : ∃ ν, m_D 140 [.ref 19] μ = some (none, ν) ∧ SC [34, 35] [23] μ ν ∧ (∀ x, x < 3615 → A ν 35 x = bI (fitU (A μ 20) (A μ 23) (A μ 21) (A μ 24) (A μ 25) x np)) ∧ FI ν 19 23 = nI (cnt (fun x => fitU (A μ 20) (A μ 23) (A μ 21) (A μ 24) (A μ 25) x np) 3615) := by
  -- all fit at first
  obtain ⟨ν1, w1, e1, s1, f1⟩ := loop_inv (fun x ν (_ : Unit) => m_G 140 2 [.ref 19, .int (nI x), m_d, m_d, m_d, m_d] [] ν) (fun x ν => SC [34, 35] [23] μ ν ∧ ∀ y, y < x → A ν 35 y = 1) 3615 (fun x ν v hx P => by
    obtain ⟨s, f⟩ := P
    have hν := s.1
    refine ⟨wA ν 35 (upd (A ν 35) x (1 &&& 1)), (), ?_, s.tr (SC_wA hν (aM35 hν) _ (by decide)), fun y hy => ?_⟩
    · try dsimp only
      rw [i140_2]
      simp (disch := first | omega | assumption) only [i140_3, i140_6, i140_9, i140_10, i140_13, i140_14, i140_15, i140_16, i140_19, n3615, lt_t, if_true, gM22 hν, gb_A (aM35 hν) (Or.inl rfl), b_v_s, b_i_s, b_n_s, b_r_s, b_r_n, b_m_s, b_c_s, b_c_v, pb_A (aM35 hν), nI_add1]
    · rw [wA_A (aM35 hν), if_pos rfl, upd_at]
      by_cases q : y = x
      · rw [if_pos q]; rfl
      · rw [if_neg q]; exact f y (by omega)) μ () ⟨SC.rf h, fun y hy => by omega⟩
  -- page by page
  obtain ⟨ν2, w2, e2, s2, f2⟩ := loop_inv (fun p ν (v : Value × Value × Value × Value) => m_G 140 24 [.ref 19, .int (nI p), v.1, v.2.1, v.2.2.1, v.2.2.2] [] ν) (fun p ν => SC [34, 35] [23] μ ν ∧ ∀ y, y < 3615 → A ν 35 y = bI (fitU (A μ 20) (A μ 23) (A μ 21) (A μ 24) (A μ 25) y p)) np (fun p ν v hpn P => by
    obtain ⟨s, f⟩ := P
    obtain ⟨v2, v3, v4, v5⟩ := v
    obtain ⟨b1, b2, b3, b4⟩ := hg.2 p hpn
    have hnp8 := hg.1
    have hp8 : p < 8 := by omega
    have hν := s.1
    have hoν := oM_oc hν
    have n20' : A ν 20 = A μ 20 := SC_A s (by decide) (by decide)
    have n23' : A ν 23 = A μ 23 := SC_A s (by decide) (by decide)
    have n21' : A ν 21 = A μ 21 := SC_A s (by decide) (by decide)
    have n24' : A ν 24 = A μ 24 := SC_A s (by decide) (by decide)
    have n25' : A ν 25 = A μ 25 := SC_A s (by decide) (by decide)
    have hnp : FI ν 19 0 = nI np := (s.2.2.2.2 0 (by decide)).trans hp
    have hly := E_layLeads (n := bnn (A μ 20) p) hν hp8 b3 (by rw [n20']; exact b1) (by rw [n23']; exact b4)
    rw [n23', n21'] at hly
    generalize hξ : wA ν 34 (lay (A μ 23) (A μ 21) p (bnn (A μ 20) p) (A ν 34) 15 0) = ξ at hly
    have sξ : SC [34, 35] [23] ν ξ := by rw [← hξ]; exact SC_wA hν (aM34 hν) _ (by decide)
    have hM := sξ.1
    have hoξ := oM_oc hM
    have x34 : A ξ 34 = lay (A μ 23) (A μ 21) p (bnn (A μ 20) p) (A ν 34) 15 0 := by rw [← hξ, wA_A (aM34 hν), if_pos rfl]
    have x35 : A ξ 35 = A ν 35 := by rw [← hξ, wA_A (aM34 hν), if_neg (by decide)]
    have x20 : A ξ 20 = A μ 20 := (SC_A sξ (by decide) (by decide)).trans n20'
    have x24 : A ξ 24 = A μ 24 := (SC_A sξ (by decide) (by decide)).trans n24'
    have x25 : A ξ 25 = A μ 25 := (SC_A sξ (by decide) (by decide)).trans n25'
    have hy1 := E_marked (as := 1) (n := bnn (A μ 20) p) hM hp8 b3 (by rw [x20]; exact b1)
    have hy2 := E_marked (as := 2) (n := bnn (A μ 20) p) hM hp8 b3 (by rw [x20]; exact b1)
    rw [x24] at hy1 hy2
    -- sentence by sentence
    obtain ⟨ρ, w3, e3, s3, f3⟩ := loop_inv (fun x ρ (v : Value) => m_G 140 54 [.ref 19, .int (nI p), .int (mks (A μ 20) (A μ 24) p 1), .int (mks (A μ 20) (A μ 24) p 2), .int (nI x), v] [] ρ) (fun x ρ => SC [35] [] ξ ρ ∧ ∀ y, y < 3615 → A ρ 35 y = bI (fitU (A μ 20) (A μ 23) (A μ 21) (A μ 24) (A μ 25) y (if y < x then p + 1 else p))) 3615 (fun x ρ v hx P => by
      obtain ⟨s', f'⟩ := P
      have hρ := s'.1
      have hoρ := oM_oc hρ
      have r34 : A ρ 34 = lay (A μ 23) (A μ 21) p (bnn (A μ 20) p) (A ν 34) 15 0 := (SC_A s' (by decide) (by decide)).trans x34
      have r25 : A ρ 25 = A μ 25 := (SC_A s' (by decide) (by decide)).trans x25
      have hld := E_leadsOn (x := x) hρ hx
      rw [r34, ldo_ss b2 b3 hx (stps x) (Nat.le_refl _)] at hld
      have hfx := f' x hx
      rw [if_neg (Nat.lt_irrefl x)] at hfx
      have key : ∀ (w : Bool) (v' : Value), w = fitU (A μ 20) (A μ 23) (A μ 21) (A μ 24) (A μ 25) x (p + 1) → m_G 140 54 [.ref 19, .int (nI p), .int (mks (A μ 20) (A μ 24) p 1), .int (mks (A μ 20) (A μ 24) p 2), .int (nI x), v] [] ρ = m_G 140 54 [.ref 19, .int (nI p), .int (mks (A μ 20) (A μ 24) p 1), .int (mks (A μ 20) (A μ 24) p 2), .int (nI (x + 1)), v'] [] (wA ρ 35 (upd (A ρ 35) x (bI w &&& 1))) → ∃ ν' v', m_G 140 54 [.ref 19, .int (nI p), .int (mks (A μ 20) (A μ 24) p 1), .int (mks (A μ 20) (A μ 24) p 2), .int (nI x), v] [] ρ = m_G 140 54 [.ref 19, .int (nI p), .int (mks (A μ 20) (A μ 24) p 1), .int (mks (A μ 20) (A μ 24) p 2), .int (nI (x + 1)), v'] [] ν' ∧ SC [35] [] ξ ν' ∧ ∀ y, y < 3615 → A ν' 35 y = bI (fitU (A μ 20) (A μ 23) (A μ 21) (A μ 24) (A μ 25) y (if y < x + 1 then p + 1 else p)) := by
        intro w v' hw he
        refine ⟨_, v', he, s'.tr (SC_wA hρ (aM35 hρ) _ (by decide)), fun y hy => ?_⟩
        rw [wA_A (aM35 hρ), if_pos rfl, upd_at]
        by_cases q : y = x
        · subst q
          rw [if_pos rfl, if_pos (by omega), bI_and, hw]
        · rw [if_neg q, f' y hy]
          by_cases q2 : y < x
          · rw [if_pos q2, if_pos (by omega)]
          · rw [if_neg q2, if_neg (by omega)]
      cases hF : fitU (A μ 20) (A μ 23) (A μ 21) (A μ 24) (A μ 25) x p with
      | false =>
        rw [hF] at hfx
        refine key false (.int 0) (by rw [fitU, hF]; rfl) ?_
        rw [i140_54]
        simp (disch := first | omega | assumption) only [i140_56, i140_59, i140_62, i140_63, i140_66, i140_68, i140_69, i140_72, i140_73, i140_75, i140_78, i140_81, i140_82, i140_84, i140_85, i140_88, i140_90, i140_91, i140_94, i140_96, i140_97, i140_100, i140_102, i140_103, i140_104, i140_105, i140_108, i140_110, i140_111, i140_112, i140_115, i140_116, i140_119, i140_120, i140_121, i140_124, i140_126, i140_127, i140_130, i140_131, i140_134, i140_135, i140_136, i140_139, n3615, lt_t, if_true, if_false, gM22 hρ, gb_A (aM35 hρ) (Or.inl rfl), gM6 hρ, gb_A (aM25 hρ) (Or.inl rfl), b_v_s, b_i_s, b_n_s, b_r_s, b_r_n, b_m_s, b_c_s, b_c_v, hfx, bI_0, bI_t, bI_f, ne10, eq_self, Bool.true_eq_false, Bool.false_eq_true, hld, pb_A (aM35 hρ), nI_add1, r25]
      | true =>
        rw [hF] at hfx
        have hm : fitU (A μ 20) (A μ 23) (A μ 21) (A μ 24) (A μ 25) x (p + 1) = met (sn (A μ 23) (A μ 21) p (bnn (A μ 20) p) x) (mks (A μ 20) (A μ 24) p 1) (mks (A μ 20) (A μ 24) p 2) (A μ 25 p) := by rw [fitU, hF, Bool.true_and]
        change m_D _ _ _ = some (some (.int (sn (A μ 23) (A μ 21) p (bnn (A μ 20) p) x)), ρ) at hld
        generalize sn (A μ 23) (A μ 21) p (bnn (A μ 20) p) x = S at hld hm
        rw [i140_54]
        simp (disch := first | omega | assumption) only [i140_56, i140_59, i140_62, i140_63, i140_66, i140_68, i140_69, i140_72, i140_73, i140_75, i140_78, i140_81, i140_82, n3615, lt_t, if_true, if_false, gM22 hρ, gb_A (aM35 hρ) (Or.inl rfl), gM6 hρ, gb_A (aM25 hρ) (Or.inl rfl), b_v_s, b_i_s, b_n_s, b_r_s, b_r_n, b_m_s, b_c_s, b_c_v, hfx, bI_0, bI_t, bI_f, ne10, eq_self, Bool.true_eq_false, Bool.false_eq_true, hld, pb_A (aM35 hρ), nI_add1, r25]
        rw [i140_54] at key
        simp (disch := first | omega | assumption) only [i140_56, i140_59, i140_62, i140_63, i140_66, i140_68, i140_69, i140_72, i140_73, i140_75, i140_78, i140_81, i140_82, n3615, lt_t, if_true, if_false, gM22 hρ, gb_A (aM35 hρ) (Or.inl rfl), gM6 hρ, gb_A (aM25 hρ) (Or.inl rfl), b_v_s, b_i_s, b_n_s, b_r_s, b_r_n, b_m_s, b_c_s, b_c_v, hfx, bI_0, bI_t, bI_f, ne10, eq_self, Bool.true_eq_false, Bool.false_eq_true, hld, pb_A (aM35 hρ), nI_add1, r25] at key
        refine key (met S (mks (A μ 20) (A μ 24) p 1) (mks (A μ 20) (A μ 24) p 2) (A μ 25 p)) (.int S) hm.symm ?_
        unfold met
        generalize mks (A μ 20) (A μ 24) p 1 = Y1
        generalize mks (A μ 20) (A μ 24) p 2 = N1
        by_cases c1 : S &&& Y1 = Y1 <;> by_cases c2 : S &&& N1 = 0 <;> by_cases c3 : A μ 25 p = 0 <;> by_cases c4 : S = Y1 <;> (
          (first | rw [decide_eq_true c1] | rw [decide_eq_false c1])
          (first | rw [decide_eq_true c2] | rw [decide_eq_false c2])
          (first | rw [decide_eq_true c3] | rw [decide_eq_false c3])
          (first | rw [decide_eq_true c4] | rw [decide_eq_false c4])
          simp (disch := first | omega | assumption) only [i140_84, i140_85, i140_88, i140_90, i140_91, i140_94, i140_96, i140_97, i140_100, i140_102, i140_103, i140_104, i140_105, i140_108, i140_110, i140_111, i140_112, i140_115, i140_116, i140_119, i140_120, i140_121, i140_124, i140_126, i140_127, i140_130, i140_131, i140_134, i140_135, i140_136, i140_139, n3615, lt_t, if_true, if_false, gM22 hρ, gb_A (aM35 hρ) (Or.inl rfl), gM6 hρ, gb_A (aM25 hρ) (Or.inl rfl), b_v_s, b_i_s, b_n_s, b_r_s, b_r_n, b_m_s, b_c_s, b_c_v, hfx, bI_0, bI_t, bI_f, ne10, eq_self, Bool.true_eq_false, Bool.false_eq_true, hld, pb_A (aM35 hρ), nI_add1, r25, Bool.and_true, Bool.and_false, Bool.or_true, Bool.or_false, Bool.or_self, Bool.and_self, Bool.true_or, Bool.false_and, Bool.true_and]
          (try (first | simp only [if_pos c1] | simp only [if_neg c1]))
          (try (first | simp only [if_pos c2] | simp only [if_neg c2]))
          (try (first | simp only [if_pos c3] | simp only [if_neg c3]))
          (try (first | simp only [if_pos c4] | simp only [if_neg c4])))) ξ v5 ⟨SC.rf hM, fun y hy => by rw [x35, f y hy]; rw [if_neg (by omega)]⟩
    refine ⟨ρ, (.int (mks (A μ 20) (A μ 24) p 1), .int (mks (A μ 20) (A μ 24) p 2), .int (nI 3615), w3), ?_, s.tr (sξ.tr (s3.mono (by decide) (by decide))), fun y hy => ?_⟩
    · try dsimp only
      rw [i140_24]
      simp (disch := first | omega | assumption) only [i140_25, i140_26, i140_29, i140_32, i140_33, i140_34, i140_37, i140_38, i140_39, i140_40, i140_43, i140_44, i140_45, i140_46, i140_47, i140_50, i140_51, i140_52, gM0 hν, hnp, lt_t, if_true, b_v_s, b_i_s, b_n_s, b_r_s, b_r_n, b_m_s, b_c_s, b_c_v, hly, hy1, hy2, n0]
      refine e3.trans ?_
      try dsimp only
      rw [i140_54]
      simp (disch := first | omega | assumption) only [i140_56, i140_59, i140_142, i140_145, n3615, lt_f, if_false, nI_add1]
    · have := f3 y hy
      rw [if_pos hy] at this
      exact this) ν1 (m_d, m_d, m_d, m_d) ⟨s1, fun y hy => by rw [f1 y hy]; rfl⟩
  have hν2 := s2.1
  obtain ⟨ν3, w4, e4, s4, f4, g4⟩ := loop_inv (fun x ν (_ : Unit) => m_G 140 155 [.ref 19, .int (nI x), w2.1, w2.2.1, w2.2.2.1, w2.2.2.2] [] ν) (fun x ν => SC [34, 35] [23] μ ν ∧ (∀ y, y < 3615 → A ν 35 y = bI (fitU (A μ 20) (A μ 23) (A μ 21) (A μ 24) (A μ 25) y np)) ∧ FI ν 19 23 = nI (cnt (fun x => fitU (A μ 20) (A μ 23) (A μ 21) (A μ 24) (A μ 25) x np) x)) 3615 (fun x ν v hx P => by
    obtain ⟨s, f, g⟩ := P
    have hν := s.1
    have hfx := f x hx
    have hc := cnt_le (fun x => fitU (A μ 20) (A μ 23) (A μ 21) (A μ 24) (A μ 25) x np) x
    refine ⟨wO ν 19 23 (.int (nI (cnt (fun x => fitU (A μ 20) (A μ 23) (A μ 21) (A μ 24) (A μ 25) x np) (x + 1)))), (), ?_, s.tr (SC_w23 hν _ (by decide)), fun y hy => by rw [bM23 hν]; exact f y hy, by rw [fM23 hν, if_pos ⟨rfl, rfl⟩]⟩
    try dsimp only
    rw [i140_155, cnt]
    cases hF : fitU (A μ 20) (A μ 23) (A μ 21) (A μ 24) (A μ 25) x np with
    | false =>
      rw [hF] at hfx
      simp (disch := first | omega | assumption) only [i140_156, i140_159, i140_162, i140_163, i140_163I, i140_164, i140_167, i140_168, i140_171, i140_172, i140_173, i140_176, i140_177, i140_180, i140_181, i140_182, i140_185, i140_188, n3615, lt_t, if_true, if_false, gM22 hν, gb_A (aM35 hν) (Or.inl rfl), gM23 hν, b_v_s, b_i_s, b_n_s, b_r_s, b_r_n, b_m_s, b_c_s, b_c_v, hfx, g, bI_0, bI_n0, Bool.false_eq_true, pM23 hν, nI_add1, n0, nI_plus]
    | true =>
      rw [hF] at hfx
      simp (disch := first | omega | assumption) only [i140_156, i140_159, i140_162, i140_163, i140_163I, i140_164, i140_167, i140_168, i140_171, i140_172, i140_173, i140_176, i140_177, i140_180, i140_181, i140_182, i140_185, i140_188, n3615, lt_t, if_true, if_false, gM22 hν, gb_A (aM35 hν) (Or.inl rfl), gM23 hν, b_v_s, b_i_s, b_n_s, b_r_s, b_r_n, b_m_s, b_c_s, b_c_v, hfx, g, bI_0, Bool.true_eq_false, pM23 hν, nI_add1, n1, nI_plus]) (wO ν2 19 23 (.int 0)) () ⟨s2.tr (SC_w23 hν2 _ (by decide)), fun y hy => by rw [bM23 hν2]; exact f2 y hy, by rw [fM23 hν2, if_pos ⟨rfl, rfl⟩]; rfl⟩
  refine ⟨ν3, ?_, s4, f4, g4⟩
  have hnp1 : FI ν1 19 0 = nI np := (s1.2.2.2.2 0 (by decide)).trans hp
  have hnp2 : FI ν2 19 0 = nI np := (s2.2.2.2.2 0 (by decide)).trans hp
  have hnp8 := hg.1
  simp only [D140, i140_0, i140_1, n0]
  refine e1.trans ?_
  try dsimp only
  rw [i140_2]
  simp (disch := first | omega | assumption) only [i140_3, i140_6, i140_22, i140_23, n3615, lt_f, if_false, n0]
  refine e2.trans ?_
  try dsimp only
  rw [i140_24]
  simp (disch := first | omega | assumption) only [i140_25, i140_26, i140_29, i140_148, i140_149, i140_150, i140_153, i140_154, gM0 hν2, gM23 hν2, hnp2, b_v_s, b_i_s, b_n_s, b_r_s, b_r_n, b_m_s, b_c_s, b_c_v, lt_f, if_false, pM23 hν2]
  refine e4.trans ?_
  try dsimp only
  rw [i140_155]
  simp (disch := first | omega | assumption) only [i140_156, i140_159, i140_191, n3615, lt_f, if_false]
end fits
