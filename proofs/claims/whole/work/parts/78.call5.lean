/-! more may change: marks, and what was worked out of them -/
theorem INV_K3 {C : Nat × (Nat → Int32)} {X : List Nat} {Y : List (Nat × Nat)} {μ ν : mM} {np nr nl ns : Nat} {PA QA LA sh : Nat → Nat} (h : INV C μ np nr nl ns PA QA LA sh) (k : K X Y μ ν) (hX : ∀ a ∈ X, a ∈ scrX ∨ a = 12 ∨ a = 24 ∨ a = 25 ∨ ∃ p, p < np ∧ a = PA p + 2) (hY : ∀ y ∈ Y, y ∈ scrY ∨ y.1 = 11 ∨ y = (0, 11) ∨ ∃ p, p < np ∧ y.1 = PA p ∧ 11 ≤ y.2) (hV : PGV ν np PA (A ν 20) (A ν 23) (A ν 21) (A ν 22) (A ν 24) (A ν 25)) (hF : FI ν 0 11 = 0 ∨ (FI ν 0 11 = 1 ∧ FOK ν np)) (hZ : Zr ν np) : INV C ν np nr nl ns PA QA LA sh := by
  obtain ⟨hM, ⟨c1, c2, c3, c4, c5, c6, c7⟩, ⟨n1, n2, n3, n4, n5, n6⟩, ⟨s1, s2⟩, hG, hV0, hR, hL, _, ⟨ad1, ad2, ad3, ad4⟩, ⟨r1, r2, r3, _⟩, hC⟩ := h
  have nx : ∀ a, a < 48 → a ∉ scrX → a ≠ 12 → a ≠ 24 → a ≠ 25 → a ∉ X := fun a h1 h2 h3 h4 h5 q => by
    rcases hX a q with z | z | z | z | ⟨p, p1, p2⟩
    · exact h2 z
    · exact h3 z
    · exact h4 z
    · exact h5 z
    · have := (ad1 p p1).1; omega
  have ny : ∀ a j, a < 48 → (a, j) ∉ scrY → a ≠ 11 → (a, j) ≠ (0, 11) → (a, j) ∉ Y := fun a j h1 h2 h3 h4 q => by
    rcases hY _ q with z | z | z | ⟨p, p1, p2, _⟩
    · exact h2 z
    · exact h3 z
    · exact h4 z
    · have := (ad1 p p1).1
      dsimp only at p2
      omega
  have ny2 : ∀ a j, 48 ≤ a → j < 11 → (a, j) ∉ Y := fun a j h1 h2 q => by
    rcases hY _ q with z | z | z | ⟨p, p1, p2, p3⟩
    · have : a < 48 := scrY_lt _ ((by decide : ∀ y ∈ scrY, y ∈ scrY2) _ z); omega
    · dsimp only at z; omega
    · injection z with z; omega
    · dsimp only at p3; omega
  have e20 := K_A k (nx 20 (by decide) (by decide) (by decide) (by decide) (by decide))
  have e23 := K_A k (nx 23 (by decide) (by decide) (by decide) (by decide) (by decide))
  have e31 := K_A k (nx 31 (by decide) (by decide) (by decide) (by decide) (by decide))
  have e32 := K_A k (nx 32 (by decide) (by decide) (by decide) (by decide) (by decide))
  have e33 := K_A k (nx 33 (by decide) (by decide) (by decide) (by decide) (by decide))
  have e39 := K_A k (nx 39 (by decide) (by decide) (by decide) (by decide) (by decide))
  have e40 := K_A k (nx 40 (by decide) (by decide) (by decide) (by decide) (by decide))
  have e41 := K_A k (nx 41 (by decide) (by decide) (by decide) (by decide) (by decide))
  have eN : mN ν = mN μ := by unfold mN; rw [k.2.1.1]
  have eS : mS ν = mS μ := by unfold mS; rw [k.2.1.1]
  refine ⟨MS_K hM k, ⟨CV_K c1 k, PrV_K c2 k, RrV_K c3 k, FV_K c4 k, MeV_K c5 k, PiV_K c6 k, K_isA k c7⟩, ⟨?_, ?_, ?_, ?_, ?_, ?_⟩, ⟨SHo_K s1 k (nx 1 (by decide) (by decide) (by decide) (by decide) (by decide)) (ny 0 1 (by decide) (by decide) (by decide) (by decide)), SHm_K s2 k (nx 26 (by decide) (by decide) (by decide) (by decide) (by decide)) (ny 19 8 (by decide) (by decide) (by decide) (by decide))⟩, ?_, hV, ?_, ?_, hF, ?_, ?_, ?_⟩
  · rw [K_FI k (ny 19 0 (by decide) (by decide) (by decide) (by decide))]; exact n1
  · rw [K_FI k (ny 19 17 (by decide) (by decide) (by decide) (by decide))]; exact n2
  · rw [K_FI k (ny 19 27 (by decide) (by decide) (by decide) (by decide))]; exact n3
  · rw [K_FI k (ny 0 3 (by decide) (by decide) (by decide) (by decide))]; exact n4
  · rw [K_FI k (ny 0 5 (by decide) (by decide) (by decide) (by decide))]; exact n5
  · rw [K_FI k (ny 0 7 (by decide) (by decide) (by decide) (by decide))]; exact n6
  · rw [e20, e23]; exact hG
  · refine ⟨hR.1, K_isR k hR.2.1, fun r hr => ?_⟩
    obtain ⟨g1, kk, q, g2, g3, g4⟩ := hR.2.2 r hr
    have h48 := (ad3 r hr).1
    refine ⟨by rw [K_RA k]; exact g1, kk, q, by rw [e32, e33]; exact g2, by rw [e31]; exact g3, ?_⟩
    rw [e33]
    refine RV_K g4 k (fun z => ?_) (ny2 _ _ h48 (by decide))
    rcases hX _ z with z | z | z | z | ⟨p, p1, p2⟩
    · have := scrX_lt _ ((by decide : ∀ y ∈ scrX, y ∈ scrX2) _ z); omega
    · omega
    · omega
    · omega
    · have i1 := g4.2.1
      have i2 := (hV0.2.2 p p1).2.1.1.2.2.1
      rw [p2] at i1
      have i3 := i1.symm.trans i2
      injection i3 with i3
      injection i3 with i3
      injection i3 with _ i3
      injection i3 with i3
      have := g4.2.2.2.2.1
      omega
  · refine ⟨hL.1, K_isR k hL.2.1, fun l hl => ?_⟩
    obtain ⟨g1, g2, g3⟩ := hL.2.2 l hl
    have h48 := (ad4 l hl).1
    have ef : fq ν l = fq μ l := by unfold fq; rw [e39]
    refine ⟨by rw [K_RA k]; exact g1, ?_, by rw [ef, e39]; exact g3⟩
    rw [ef, e40, e41]
    exact LV_K g2 k (fun j hj => ny2 _ _ h48 (by omega))
  · exact ⟨ad1, by rw [eN]; exact ad2, by rw [eN]; exact ad3, by rw [eN]; exact ad4⟩
  · exact ⟨by rw [eN]; exact fun a ha => k.1.2.2.2 a (r1 a ha), by rw [eN]; exact r2, by rw [eS]; exact r3, hZ⟩
  · rw [k.2.1.2]; exact hC
section calls5
variable {C : Nat × (Nat → Int32)} {μ : mM} {np nr nl ns : Nat} {PA QA LA sh : Nat → Nat}
/-- a page's sentences were drawn -/
theorem INV_draw {Y : List (Nat × Nat)} {ν : mM} {p : Nat} (I : INV C μ np nr nl ns PA QA LA sh) (hp : p < np) (k : K [PA p + 2] Y μ ν) (hY : ∀ y ∈ Y, y ∈ scrY ∨ y = (PA p, 15)) (h1 : FI ν (PA p) 15 = 1) (h2 : ∀ x, x < 3615 → A ν (PA p + 2) x = sn (A μ 23) (A μ 21) p (bnn (A μ 20) p) x) : INV C ν np nr nl ns PA QA LA sh := by
  have hA := I_A I
  have h48 := (hA p hp).1
  have nx : ∀ a, a < 48 → a ∉ [PA p + 2] := fun a ha => by simp; omega
  have ny : ∀ a j, a < 48 → (a, j) ∉ scrY → (a, j) ∉ Y := fun a j h1 h2 q => by
    rcases hY _ q with z | z
    · exact h2 z
    · injection z with z; omega
  have ny2 : ∀ a j, 48 ≤ a → j ≠ 15 → (a, j) ∉ Y := fun a j h1 h2 q => by
    rcases hY _ q with z | z
    · have : a < 48 := scrY_lt _ ((by decide : ∀ y ∈ scrY, y ∈ scrY2) _ z); omega
    · injection z with z1 z2; exact h2 z2
  have e20 := K_A k (nx 20 (by decide))
  have e21 := K_A k (nx 21 (by decide))
  have e22 := K_A k (nx 22 (by decide))
  have e23 := K_A k (nx 23 (by decide))
  have e24 := K_A k (nx 24 (by decide))
  have e25 := K_A k (nx 25 (by decide))
  obtain ⟨f1, f2, f3⟩ := Kp_FT (μ := μ) (ν := ν) ⟨e20, e21, e22, e23, e24, e25⟩ np
  refine INV_K3 I k (fun a ha => ?_) (fun y hy => ?_) ?_ ?_ (by unfold Zr; rw [e24, e25]; exact I.2.2.2.2.2.2.2.2.2.2.1.2.2.2)
  · rw [List.mem_singleton] at ha
    exact Or.inr (Or.inr (Or.inr (Or.inr ⟨p, hp, ha⟩)))
  · rcases hY y hy with z | z
    · exact Or.inl z
    · rw [z]; exact Or.inr (Or.inr (Or.inr ⟨p, hp, rfl, Nat.le_of_ble_eq_true rfl⟩))
  · rw [e20, e21, e22, e23, e24, e25]
    have V := I_V I
    refine ⟨V.1, K_isR k V.2.1, fun q hq => ?_⟩
    obtain ⟨g1, g2, g3, g4⟩ := V.2.2 q hq
    have hq48 := (hA q hq).1
    by_cases e : q = p
    · subst e
      exact ⟨by rw [K_RA k]; exact g1, PV_K g2 k (fun j _ _ _ => by simp; omega) ⟨ny2 _ _ hq48 (by decide), ny2 _ _ hq48 (by decide), ny2 _ _ hq48 (by decide)⟩, PMk_K g3 k ⟨ny2 _ _ hq48 (by decide), ny2 _ _ hq48 (by decide), ny2 _ _ hq48 (by decide)⟩, Or.inr ⟨h1, h2⟩⟩
    · have hd := (hA q hq).2 p hp e
      refine ⟨by rw [K_RA k]; exact g1, PV_K g2 k (fun j _ _ _ => by simp; omega) ⟨ny2 _ _ hq48 (by decide), ny2 _ _ hq48 (by decide), ny2 _ _ hq48 (by decide)⟩, PMk_K g3 k ⟨ny2 _ _ hq48 (by decide), ny2 _ _ hq48 (by decide), ny2 _ _ hq48 (by decide)⟩, DRN_K g4 k (by simp; omega) (fun z => ?_)⟩
      rcases hY _ z with z | z
      · have : PA q < 48 := scrY_lt _ ((by decide : ∀ y ∈ scrY, y ∈ scrY2) _ z); omega
      · injection z with z; omega
  · have hF := I.2.2.2.2.2.2.2.2.1
    rw [K_FI k (ny 0 11 (by decide) (by decide))]
    refine hF.imp id (fun z => ⟨z.1, ?_⟩)
    obtain ⟨_, ⟨b0, b1, b2, b3, b4⟩, b5⟩ := z
    unfold FOK FS
    rw [f1, f2, f3, e20, e21, e23, K_FI k (ny 11 0 (by decide) (by decide)), K_FI k (ny 11 1 (by decide) (by decide)), K_FI k (ny 11 2 (by decide) (by decide)), K_FI k (ny 11 3 (by decide) (by decide)), K_FI k (ny 11 4 (by decide) (by decide))]
    exact ⟨⟨b0, b1, b2, b3, LDs_K b4 k (nx 12 (by decide))⟩, b5⟩
theorem in_1012 {x : Int32} : m_D 102 [.long x.toInt64, .long 10, .long 12] μ = some (some (.int (bI (decide (10 ≤ x.toInt ∧ x.toInt ≤ 12)))), μ) := by
  rw [E_in, toInt_i2l, show (10 : Int64).toInt = 10 by decide, show (12 : Int64).toInt = 12 by decide, ← Bool.decide_and]
def bfO (μ : mM) (r p : Nat) : Nat → Bool := fun w => decide (0 < oft (A μ 22) p (giv μ r p (bnn (A μ 20) p) 1) (bnn (A μ 20) p) w)
def mdV (μ : mM) (r p q : Nat) : mdT := mdS (fun x => lks (oft (A μ 22) q (sn (A μ 23) (A μ 21) q (bnn (A μ 20) q) x) (bnn (A μ 20) q)) (fun w => decide (0 < oft (A μ 22) p (giv μ r p (bnn (A μ 20) p) 1) (bnn (A μ 20) p) w)) 100) (sn (A μ 23) (A μ 21) q (bnn (A μ 20) q)) 3615
theorem mdV_def (μ : mM) (r p q : Nat) : mdV μ r p q = mdS (fun x => lks (oft (A μ 22) q (sn (A μ 23) (A μ 21) q (bnn (A μ 20) q) x) (bnn (A μ 20) q)) (fun w => decide (0 < oft (A μ 22) p (giv μ r p (bnn (A μ 20) p) 1) (bnn (A μ 20) p) w)) 100) (sn (A μ 23) (A μ 21) q (bnn (A μ 20) q)) 3615 := by unfold mdV; rfl
theorem mdV_lt (μ : mM) (r p q : Nat) : ∃ c, (mdV μ r p q).1 = some c ∧ c < 3615 := by rw [mdV_def]; exact mdS_lt _ _ 3614
theorem wd0_iff {WD : Nat → Int32} {p n : Nat} {G : Int32} (hw : WW WD p n) (hn : n ≤ 24) : (G &&& mk (wordM WD p) n = 0) ↔ exB (fun w => decide (0 < oft WD p G n w)) 100 = false := by
  constructor
  · intro h
    cases hE : exB (fun w => decide (0 < oft WD p G n w)) 100 with
    | false => rfl
    | true =>
      obtain ⟨w, w1, w2⟩ := (exB_iff _ _).mp hE
      rw [decide_eq_true_eq, oft_pos] at w2
      obtain ⟨b, b1, b2, b3⟩ := w2
      have : bt (G &&& mk (wordM WD p) n) b = true := (b_sw hn G b).mpr ⟨b2, b1, by rw [b3, nI_ne1 (by omega)]; exact fun z => z⟩
      rw [h, b_0] at this; cases this
  · intro h
    refine b_ext' fun i hi => ?_
    rw [b_0]
    refine ⟨fun z => ?_, fun z => by cases z⟩
    obtain ⟨z1, z2, z3⟩ := (b_sw hn G i).mp z
    rcases hw i z2 with q | ⟨w, w1, w2⟩
    · exact absurd q z3
    · have : exB (fun w => decide (0 < oft WD p G n w)) 100 = true := (exB_iff _ _).mpr ⟨w, w1, decide_eq_true (oft_pos.mpr ⟨i, z2, z1, w2⟩)⟩
      rw [h] at this; cases this
/-- what mend answers -/
def mdW (R : mdT) (c : Nat) (w : Int32) : Int32 := if w = 0 then R.2.1 else if w = 1 then nI (stps c) else if w = 2 then bI R.2.2.2 else if w = 3 then R.2.2.1 else if (w - 10).toNatClampNeg < stps c then nI (stO c (w - 10).toNatClampNeg) else -1
def mdC (R : mdT) : Nat := R.1.getD 0
def wOK (w : Int32) : Prop := (0 ≤ w.toInt ∧ w.toInt ≤ 3) ∨ (10 ≤ w.toInt ∧ w.toInt ≤ 12)
theorem wOK_sp {w : Int32} (h : wOK w) : ∃ t, w = nI t ∧ (t ≤ 3 ∨ (10 ≤ t ∧ t ≤ 12)) := by
  have hx := Int32.toInt_lt w
  refine ⟨w.toInt.toNat, Int32.toInt_inj.mp ?_, ?_⟩
  · unfold wOK at h
    rw [nI_toInt (by omega)]; omega
  · unfold wOK at h
    omega
def mdR (μ : mM) (r p q : Nat) (w : Int32) : Int32 := if exB (bfO μ r p) 100 = false then -103 else mdW (mdV μ r p q) (mdC (mdV μ r p q)) w
set_option maxHeartbeats 4000000 in
theorem E_mendC {r p q : Nat} {w : Int32} (I : INV C μ np nr nl ns PA QA LA sh) (hr1 : r < nr) (hp : p < np) (hq : q < np) (hyz : ¬ nI p = nI q) (wok : wOK w) : ∃ ν, m_D 156 [.ref 19, .int (nI r), .int (nI p), .int (nI q), .int w] μ = some (some (.int (mdR μ r p q w)), ν) ∧ SC [34, 42, 43] [] μ ν := by
  have hM := I_M I
  have hoM := oM_oc hM
  have hr := I_isRule I (nI r)
  have ho := I_isPage I (nI p)
  have hw := I_isPage I (nI q)
  have h10 := I_nr I
  have hnp := I_np I
  rw [inR_of hr1 (by omega)] at hr
  rw [inR_of hp (by omega)] at ho
  rw [inR_of hq (by omega)] at hw
  have go2 : m_D 156 [.ref 19, .int (nI r), .int (nI p), .int (nI q), .int w] μ = m_G 156 32 [.ref 19, .int (nI r), .int (nI p), .int (nI q), .int w, m_d, m_d, m_d, m_d, m_d, m_d, m_d, m_d] [] μ := by
    simp (disch := first | omega | decide | with_reducible assumption) only [D156, i156_0, i156_1, i156_2, i156_5, i156_8, i156_9, i156_10, i156_13, i156_16, i156_17, i156_18, i156_21, i156_24, i156_25, i156_26, hr, ho, hw, hyz, bI_0, Bool.true_eq_false, b_v_s, b_i_s, b_n_s, b_r_s, b_r_n, b_m_s, b_c_s, b_c_v, if_false]
  have i3 := in_R (μ := μ) (x := w) (hi := 3) (k := 3) (by decide)
  have i12 := in_1012 (μ := μ) (x := w)
  have go4 : m_G 156 32 [.ref 19, .int (nI r), .int (nI p), .int (nI q), .int w, m_d, m_d, m_d, m_d, m_d, m_d, m_d, m_d] [] μ = m_G 156 63 [.ref 19, .int (nI r), .int (nI p), .int (nI q), .int w, m_d, m_d, m_d, m_d, m_d, m_d, m_d, m_d] [] μ := by
    by_cases d1 : 0 ≤ w.toInt ∧ w.toInt ≤ 3
    · have : inR w (3 + 1) = true := by unfold inR; exact decide_eq_true ⟨d1.1, by omega⟩
      rw [this] at i3
      simp (disch := first | omega | decide | with_reducible assumption) only [i156_32, i156_34, i156_35, i156_36, i156_39, i156_42, i156_45, i156_47, i156_48, i156_51, i156_54, i156_57, i3, bI_0, Bool.true_eq_false, b_v_s, b_i_s, b_n_s, b_r_s, b_r_n, b_m_s, b_c_s, b_c_v, if_false]
    · have : inR w (3 + 1) = false := by unfold inR; exact decide_eq_false (fun k => d1 ⟨k.1, by omega⟩)
      rw [this] at i3
      rw [decide_eq_true (show 10 ≤ w.toInt ∧ w.toInt ≤ 12 from wok.elim (fun k => absurd k d1) id)] at i12
      simp (disch := first | omega | decide | with_reducible assumption) only [i156_32, i156_34, i156_35, i156_36, i156_39, i156_42, i156_45, i156_47, i156_48, i156_51, i156_54, i156_57, i3, i12, bI_0, Bool.true_eq_false, b_v_s, b_i_s, b_n_s, b_r_s, b_r_n, b_m_s, b_c_s, b_c_v, if_true, if_false]
  obtain ⟨h8, hb, h1, h24, hpw, hww, hv, hPA⟩ := I_pg I hp
  obtain ⟨h8q, hbq, h1q, h24q, hpwq, hwwq, hvq, hPAq⟩ := I_pg I hq
  -- the model's words before
  obtain ⟨ν1, e1, s1, f1⟩ := E_countWords (s := giv μ r p (bnn (A μ 20) p) 1) hM h8 h24 hb hww
  have hM1 := s1.1
  obtain ⟨ν2, u2, e2, s2, f2⟩ := loop_inv (fun i ν (_ : Unit) => m_G 156 80 [.ref 19, .int (nI r), .int (nI p), .int (nI q), .int w, .int (bI (exB (bfO μ r p) i)), .int (nI i), m_d, m_d, m_d, m_d, m_d, m_d] [] ν) (fun i ν => SC [43] [] ν1 ν ∧ ∀ j, j < i → A ν 43 j = bI (bfO μ r p j)) 100 (fun i ν _ hi P => by
    obtain ⟨s, f⟩ := P
    have hν := s.1
    have o1 : A ν 42 i = nI (oft (A μ 22) p (giv μ r p (bnn (A μ 20) p) 1) (bnn (A μ 20) p) i) := by rw [SC_A s (by decide) (by decide)]; exact f1 i hi
    have ol := oft_le (A μ 22) p (giv μ r p (bnn (A μ 20) p) 1) (bnn (A μ 20) p) i
    have hbf : bfO μ r p i = decide (0 < oft (A μ 22) p (giv μ r p (bnn (A μ 20) p) 1) (bnn (A μ 20) p) i) := rfl
    refine ⟨wA ν 43 (upd (A ν 43) i (bI (bfO μ r p i))), (), ?_, s.tr (SC_wA hν (aM43 hν) _ (by decide)), fun j hj => ?_⟩
    · try dsimp only
      rw [i156_80, exB]
      have p43 := pb_A (k := i) (x := bI (bfO μ r p i)) (aM43 hν) (by omega) (by decide)
      rw [bI_and] at p43
      have hν2 := MS_wA hν (aM43 hν) (upd (A ν 43) i (bI (bfO μ r p i)))
      have g43 : m_gb (wA ν 43 (upd (A ν 43) i (bI (bfO μ r p i)))) 43 (nI i) = some (bI (bfO μ r p i)) := by
        rw [gb_A (aM43 hν2) (Or.inl rfl) (by omega) (by decide), wA_A (aM43 hν), if_pos rfl, upd_at, if_pos rfl]
      generalize oft (A μ 22) p (giv μ r p (bnn (A μ 20) p) 1) (bnn (A μ 20) p) i = O at *
      generalize exB (bfO μ r p) i = E
      by_cases c : O = 0
      · have hb0 : bfO μ r p i = false := by rw [hbf]; exact decide_eq_false (by omega)
        rw [hb0] at p43 g43 hν2 ⊢
        rw [bI_f] at p43 g43 hν2 ⊢
        cases E <;> simp (disch := first | omega | decide | with_reducible assumption) only [i156_82, i156_84, i156_87, i156_88, i156_91, i156_93, i156_94, i156_97, i156_99, i156_100, i156_103, i156_104, i156_107, i156_108, i156_109, i156_111, i156_114, i156_115, i156_118, i156_120, i156_121, i156_124, i156_125, i156_128, i156_129, i156_131, i156_134, n100, lt_t, if_true, if_false, gM31 hν, ga_A (aM42 hν), gM32 hν, gM32 hν2, o1, c, le_0, bI_0, Bool.true_eq_false, ne10, p43, g43, b_v_s, b_i_s, b_n_s, b_r_s, b_r_n, b_m_s, b_c_s, b_c_v, Bool.or_self, Bool.or_false, Bool.true_or, bI_t, bI_f, nI_add1]
      · have hb0 : bfO μ r p i = true := by rw [hbf]; exact decide_eq_true (by omega)
        rw [hb0] at p43 g43 hν2 ⊢
        rw [bI_t] at p43 g43 hν2 ⊢
        cases E <;> simp (disch := first | omega | decide | with_reducible assumption) only [i156_82, i156_84, i156_87, i156_88, i156_91, i156_93, i156_94, i156_97, i156_99, i156_100, i156_103, i156_104, i156_107, i156_108, i156_109, i156_111, i156_114, i156_115, i156_118, i156_120, i156_121, i156_124, i156_125, i156_128, i156_129, i156_131, i156_134, n100, lt_t, if_true, if_false, gM31 hν, ga_A (aM42 hν), gM32 hν, gM32 hν2, o1, c, le_0, bI_0, Bool.true_eq_false, ne10, p43, g43, b_v_s, b_i_s, b_n_s, b_r_s, b_r_n, b_m_s, b_c_s, b_c_v, Bool.or_true, bI_t, nI_add1]
    · rw [wA_A (aM43 hν), if_pos rfl, upd_at]
      by_cases k : j = i
      · rw [if_pos k, k]
      · rw [if_neg k]; exact f j (by omega)) ν1 () ⟨SC.rf hM1, fun j hj => absurd hj (Nat.not_lt_zero j)⟩
  have t2 : SC [42, 43] [] μ ν2 := (s1.mono (by decide) (by decide)).tr (s2.mono (by decide) (by decide))
  have hM2 := s2.1
  have hE : (giv μ r p (bnn (A μ 20) p) 1 &&& mk (wordM (A μ 22) p) (bnn (A μ 20) p) = 0) ↔ exB (bfO μ r p) 100 = false := wd0_iff hww h24
  have hgn := E_gn I hr1 hp
  have mdl : m_G 156 63 [.ref 19, .int (nI r), .int (nI p), .int (nI q), .int w, m_d, m_d, m_d, m_d, m_d, m_d, m_d, m_d] [] μ = m_G 156 137 [.ref 19, .int (nI r), .int (nI p), .int (nI q), .int w, .int (bI (exB (bfO μ r p) 100)), .int (nI 100), m_d, m_d, m_d, m_d, m_d, m_d] [] ν2 := by
    simp (disch := first | omega | decide | with_reducible assumption) only [i156_63, i156_64, i156_65, i156_66, i156_67, i156_68, i156_71, i156_74, i156_75, i156_77, i156_78, hgn, e1, b_v_s, b_i_s, b_n_s, b_r_s, b_r_n, b_m_s, b_c_s, b_c_v]
    refine (show _ = _ from e2).trans ?_
    try dsimp only
    rw [i156_80]
    simp (disch := first | omega | decide | with_reducible assumption) only [i156_82, i156_84, n100, lt_f, if_false]
  unfold mdR
  cases hex : exB (bfO μ r p) 100 with
  | false =>
    rw [if_pos rfl]
    refine ⟨ν2, ?_, t2.mono (by decide) (by decide)⟩
    rw [go2, go4, mdl, hex]
    simp (disch := first | omega | decide | with_reducible assumption) only [i156_137, i156_139, i156_142, i156_144, bI_0, if_true]
  | true =>
    rw [if_neg (by decide)]
    have ho2 := oM_oc hM2
    have T : ∀ a, 20 ≤ a → a < 34 → A ν2 a = A μ a := fun a h1 h2 => SC_A t2 (by omega) (by simp; omega)
    have ely := E_layLeads (n := bnn (A μ 20) q) hM2 h8q h24q (by rw [T 20 (by decide) (by decide)]; exact hbq) (by rw [T 23 (by decide) (by decide)]; exact hpwq)
    rw [T 23 (by decide) (by decide), T 21 (by decide) (by decide)] at ely
    generalize hν3 : wA ν2 34 (lay (A μ 23) (A μ 21) q (bnn (A μ 20) q) (A ν2 34) 15 0) = ν3 at ely
    have s3 : SC [34] [] ν2 ν3 := by rw [← hν3]; exact SC_wA hM2 (aM34 hM2) _ (by decide)
    have x34 : A ν3 34 = lay (A μ 23) (A μ 21) q (bnn (A μ 20) q) (A ν2 34) 15 0 := by rw [← hν3, wA_A (aM34 hM2), if_pos rfl]
    have hM3 := s3.1
    have T3 : ∀ a, 20 ≤ a → a < 34 → A ν3 a = A μ a := fun a h1 h2 => (SC_A s3 (by omega) (by simp; omega)).trans (T a h1 h2)
    obtain ⟨ν4, w1, w2, e4, s4⟩ := E_mendLoop (p := q) (n := bnn (A μ 20) q) (bf := fun w => decide (0 < oft (A μ 22) p (giv μ r p (bnn (A μ 20) p) 1) (bnn (A μ 20) p) w)) (v1 := .int (nI r)) (v2 := .int (nI p)) (v4 := .int w) (v5 := .int (bI true)) hM3 h8q h1q h24q (by rw [T3 20 (by decide) (by decide)]; exact hbq) (by rw [T3 22 (by decide) (by decide)]; exact hwwq) (fun w hw => by rw [SC_A s3 (by decide) (by decide)]; exact f2 w hw) (fun x hx => by rw [x34, ldo_ss h1q h24q hx (stps x) (Nat.le_refl _), T3 23 (by decide) (by decide), T3 21 (by decide) (by decide)]; rfl) m_d m_d
    rw [T3 22 (by decide) (by decide), T3 23 (by decide) (by decide), T3 21 (by decide) (by decide), ← mdV_def] at e4
    refine ⟨ν4, ?_, (t2.mono (by decide) (by decide)).tr ((s3.mono (by decide) (by decide)).tr (s4.mono (by decide) (by decide)))⟩
    rw [go2, go4, mdl, hex]
    simp (disch := first | omega | decide | with_reducible assumption) only [i156_137, i156_139, i156_142, i156_144, i156_145, i156_146, i156_147, i156_150, i156_151, i156_153, i156_154, i156_156, i156_157, i156_159, i156_160, i156_162, i156_163, bI_0, Bool.true_eq_false, ely, b_v_s, b_i_s, b_n_s, b_r_s, b_r_n, b_m_s, b_c_s, b_c_v, if_false]
    refine (show _ = _ from e4).trans ?_
    obtain ⟨c, hc, hc2⟩ := mdV_lt μ r p q
    have hcc : mdC (mdV μ r p q) = c := by unfold mdC; rw [hc]; rfl
    rw [hcc]
    generalize mdV μ r p q = R at *
    obtain ⟨R1, R2, R3, R4⟩ := R
    dsimp only at hc ⊢
    subst hc
    rw [i156_165]
    simp (disch := first | omega | decide | with_reducible assumption) only [i156_167, i156_170, n3615, lt_f, if_false, cI_s]
    unfold mdW
    obtain ⟨t, rfl, ht⟩ := wOK_sp wok
    have ne : ∀ a b : Nat, a < 100 → b < 100 → a ≠ b → ¬ nI a = nI b := fun a b h1 h2 h3 h4 => by rw [nI_eqE (by omega) (by omega)] at h4; exact h3 h4
    by_cases t0 : t = 0
    · subst t0
      rw [if_pos (show nI 0 = 0 from rfl)]
      simp (disch := first | omega | decide | with_reducible assumption) only [i156_253, i156_255, i156_258, i156_260, i156_263, i156_265, i156_266, i156_269, i156_271, i156_274, i156_277, i156_279, i156_280, i156_283, i156_285, i156_288, i156_289, i156_292, i156_293, i156_296, i156_298, i156_299, i156_302, i156_304, i156_307, i156_309, i156_311, i156_313, i156_314, i156_317, nI00, if_true]
    · have z0 : (nI t = 0) = False := eq_false (ne t 0 (by omega) (by decide) t0)
      rw [if_neg (by rw [z0]; exact fun z => z)]
      by_cases t1 : t = 1
      · subst t1
        have z1 : (nI 1 = 1) = True := eq_true rfl
        rw [if_pos (show nI 1 = 1 from rfl)]
        simp (disch := first | omega | decide | with_reducible assumption) only [i156_253, i156_255, i156_258, i156_260, i156_263, i156_265, i156_266, i156_269, i156_271, i156_274, i156_277, i156_279, i156_280, i156_283, i156_285, i156_288, i156_289, i156_292, i156_293, i156_296, i156_298, i156_299, i156_302, i156_304, i156_307, i156_309, i156_311, i156_313, i156_314, i156_317, z0, z1, E_stepsOf, b_v_s, b_i_s, b_n_s, b_r_s, b_r_n, b_m_s, b_c_s, b_c_v, if_true, if_false]
      · have z1 : (nI t = 1) = False := eq_false (ne t 1 (by omega) (by decide) t1)
        rw [if_neg (by rw [z1]; exact fun z => z)]
        by_cases t2' : t = 2
        · subst t2'
          have z2 : (nI 2 = 2) = True := eq_true rfl
          rw [if_pos (show nI 2 = 2 from rfl)]
          cases R4 <;> simp (disch := first | omega | decide | with_reducible assumption) only [i156_253, i156_255, i156_258, i156_260, i156_263, i156_265, i156_266, i156_269, i156_271, i156_274, i156_277, i156_279, i156_280, i156_283, i156_285, i156_288, i156_289, i156_292, i156_293, i156_296, i156_298, i156_299, i156_302, i156_304, i156_307, i156_309, i156_311, i156_313, i156_314, i156_317, z0, z1, z2, bI_0, Bool.true_eq_false, ne10, bI_t, bI_f, b_v_s, b_i_s, b_n_s, b_r_s, b_r_n, b_m_s, b_c_s, b_c_v, if_true, if_false]
        · have z2 : (nI t = 2) = False := eq_false (ne t 2 (by omega) (by decide) t2')
          rw [if_neg (by rw [z2]; exact fun z => z)]
          by_cases t3 : t = 3
          · subst t3
            have z3 : (nI 3 = 3) = True := eq_true rfl
            rw [if_pos (show nI 3 = 3 from rfl)]
            simp (disch := first | omega | decide | with_reducible assumption) only [i156_253, i156_255, i156_258, i156_260, i156_263, i156_265, i156_266, i156_269, i156_271, i156_274, i156_277, i156_279, i156_280, i156_283, i156_285, i156_288, i156_289, i156_292, i156_293, i156_296, i156_298, i156_299, i156_302, i156_304, i156_307, i156_309, i156_311, i156_313, i156_314, i156_317, z0, z1, z2, z3, b_v_s, b_i_s, b_n_s, b_r_s, b_r_n, b_m_s, b_c_s, b_c_v, if_true, if_false]
          · have z3 : (nI t = 3) = False := eq_false (ne t 3 (by omega) (by decide) t3)
            rw [if_neg (by rw [z3]; exact fun z => z)]
            have e10 : nI t - 10 = nI (t - 10) := by rw [n10, nI_minus (by omega)]
            have est := E_stepOf (μ := ν4) (x := c) (j := t - 10) hc2 (by omega)
            rw [e10, nI_clamp (by omega)]
            simp (disch := first | omega | decide | with_reducible assumption) only [i156_253, i156_255, i156_258, i156_260, i156_263, i156_265, i156_266, i156_269, i156_271, i156_274, i156_277, i156_279, i156_280, i156_283, i156_285, i156_288, i156_289, i156_292, i156_293, i156_296, i156_298, i156_299, i156_302, i156_304, i156_307, i156_309, i156_311, i156_313, i156_314, i156_317, z0, z1, z2, z3, e10, est, b_v_s, b_i_s, b_n_s, b_r_s, b_r_n, b_m_s, b_c_s, b_c_v, if_true, if_false]
set_option maxHeartbeats 4000000 in
theorem call_mend (x y z w : Int32) : CallOK C 85 156 [.int x, .int y, .int z, .int w] := by
  rintro μ ⟨np, nr, nl, ns, PA, QA, LA, sh, I⟩
  have hC := I_C I
  have hoC := CV_oc hC
  have hM := I_M I
  have hoM := oM_oc hM
  have hr := I_isRule I x
  have ho := I_isPage I y
  have hw := I_isPage I z
  have bad : (inR x nr && (inR y np && (inR z np && decide (¬ y = z)))) = false → ∃ v μ1 μ2, m_D 85 (.ref 0 :: [.int x, .int y, .int z, .int w]) μ = some (some (.int v), μ1) ∧ m_D 156 (.ref 19 :: [.int x, .int y, .int z, .int w]) μ1 = some (some (.int v), μ2) ∧ OKc C μ2 := by
    intro hbad
    refine ⟨(-101), μ, μ, ?_, ?_, I_ok I⟩
    · cases hx : inR x nr <;> cases hy : inR y np <;> cases hz : inR z np <;> (
        (first | have a1 := C_ruleAtN I hx | (obtain ⟨r, hr1, rfl⟩ := inR_nI hx; have a1 := C_ruleAt I hr1))
        (first | have a2 := C_pageAtN I hy | (obtain ⟨r, hr1, rfl⟩ := inR_nI hy; have a2 := C_pageAt I hr1))
        (first | have a3 := C_pageAtN I hz | (obtain ⟨r, hr1, rfl⟩ := inR_nI hz; have a3 := C_pageAt I hr1))
        (first | (simp (disch := first | omega | decide | with_reducible assumption) only [D85, i85_0, i85_1, i85_2, i85_5, i85_5N, i85_7, i85_8, i85_9, i85_12, i85_12N, i85_14, i85_15, i85_16, i85_19, i85_19N, i85_21, i85_21N, i85_23, i85_23N, i85_26, i85_26N, i85_28, i85_28N, i85_31, i85_31N, i85_33, i85_33N, i85_36, i85_37, i85_38, i85_41, i85_43, a1, a2, a3, b_v_s, b_i_s, b_n_s, b_r_s, b_r_n, b_m_s, b_c_s, b_c_v]; done) | skip))
      rename_i p1 _ p2 _
      rw [hx, hy, hz, Bool.true_and, Bool.true_and, Bool.true_and, decide_eq_false_iff_not] at hbad
      have e : (nI p2 = nI r) = True := by
        by_cases q : nI p2 = nI r
        · exact eq_true q
        · exact absurd q hbad
      simp (disch := first | omega | decide | with_reducible assumption) only [D85, i85_0, i85_1, i85_2, i85_5, i85_5N, i85_7, i85_8, i85_9, i85_12, i85_12N, i85_14, i85_15, i85_16, i85_19, i85_19N, i85_21, i85_21N, i85_23, i85_23N, i85_26, i85_26N, i85_28, i85_28N, i85_31, i85_31N, i85_33, i85_33N, i85_36, i85_37, i85_38, i85_41, i85_43, a1, a2, a3, e, b_v_s, b_i_s, b_n_s, b_r_s, b_r_n, b_m_s, b_c_s, b_c_v, if_true]
    · cases hx : inR x nr with
      | false =>
        rw [hx] at hr
        simp (disch := first | omega | decide | with_reducible assumption) only [D156, i156_0, i156_1, i156_2, i156_5, i156_8, i156_9, i156_10, i156_13, i156_16, i156_17, i156_18, i156_21, i156_24, i156_25, i156_26, i156_29, i156_31, hr, bI_0, b_v_s, b_i_s, b_n_s, b_r_s, b_r_n, b_m_s, b_c_s, b_c_v, if_true]
      | true =>
        rw [hx] at hr
        cases hy : inR y np with
        | false =>
          rw [hy] at ho
          simp (disch := first | omega | decide | with_reducible assumption) only [D156, i156_0, i156_1, i156_2, i156_5, i156_8, i156_9, i156_10, i156_13, i156_16, i156_17, i156_18, i156_21, i156_24, i156_25, i156_26, i156_29, i156_31, hr, ho, bI_0, Bool.true_eq_false, b_v_s, b_i_s, b_n_s, b_r_s, b_r_n, b_m_s, b_c_s, b_c_v, if_true, if_false]
        | true =>
          rw [hy] at ho
          cases hz : inR z np with
          | false =>
            rw [hz] at hw
            simp (disch := first | omega | decide | with_reducible assumption) only [D156, i156_0, i156_1, i156_2, i156_5, i156_8, i156_9, i156_10, i156_13, i156_16, i156_17, i156_18, i156_21, i156_24, i156_25, i156_26, i156_29, i156_31, hr, ho, hw, bI_0, Bool.true_eq_false, b_v_s, b_i_s, b_n_s, b_r_s, b_r_n, b_m_s, b_c_s, b_c_v, if_true, if_false]
          | true =>
            rw [hz] at hw
            rw [hx, hy, hz, Bool.true_and, Bool.true_and, Bool.true_and, decide_eq_false_iff_not] at hbad
            have e : y = z := by
              by_cases q : y = z
              · exact q
              · exact absurd q hbad
            subst e
            simp (disch := first | omega | decide | with_reducible assumption) only [D156, i156_0, i156_1, i156_2, i156_5, i156_8, i156_9, i156_10, i156_13, i156_16, i156_17, i156_18, i156_21, i156_24, i156_25, i156_26, i156_29, i156_31, hr, ho, bI_0, Bool.true_eq_false, b_v_s, b_i_s, b_n_s, b_r_s, b_r_n, b_m_s, b_c_s, b_c_v, if_true, if_false]
  cases hx : inR x nr with
  | false => exact bad (by rw [hx]; rfl)
  | true => cases hy : inR y np with
    | false => exact bad (by rw [hy, Bool.false_and, Bool.and_false])
    | true => cases hz : inR z np with
      | false => exact bad (by rw [hz, Bool.false_and, Bool.and_false, Bool.and_false])
      | true =>
        by_cases hyz : y = z
        · exact bad (by rw [decide_eq_false (fun k => k hyz), Bool.and_false, Bool.and_false, Bool.and_false])
        · clear bad
          rw [hx] at hr
          rw [hy] at ho
          rw [hz] at hw
          obtain ⟨r, hr1, rfl⟩ := inR_nI hx
          obtain ⟨p, hp, rfl⟩ := inR_nI hy
          obtain ⟨q, hq, rfl⟩ := inR_nI hz
          have go1 : m_D 85 [.ref 0, .int (nI r), .int (nI p), .int (nI q), .int w] μ = m_G 85 44 [.ref 0, .int (nI r), .int (nI p), .int (nI q), .int w, .ref (QA r), .ref (PA p), .ref (PA q), m_d] [] μ := by
            simp (disch := first | omega | decide | with_reducible assumption) only [D85, i85_0, i85_1, i85_2, i85_5, i85_5N, i85_7, i85_8, i85_9, i85_12, i85_12N, i85_14, i85_15, i85_16, i85_19, i85_19N, i85_21, i85_21N, i85_23, i85_23N, i85_26, i85_26N, i85_28, i85_28N, i85_31, i85_31N, i85_33, i85_33N, i85_36, i85_37, i85_38, C_ruleAt I hr1, C_pageAt I hp, C_pageAt I hq, hyz, b_v_s, b_i_s, b_n_s, b_r_s, b_r_n, b_m_s, b_c_s, b_c_v, if_false]
          have go2 : m_D 156 [.ref 19, .int (nI r), .int (nI p), .int (nI q), .int w] μ = m_G 156 32 [.ref 19, .int (nI r), .int (nI p), .int (nI q), .int w, m_d, m_d, m_d, m_d, m_d, m_d, m_d, m_d] [] μ := by
            simp (disch := first | omega | decide | with_reducible assumption) only [D156, i156_0, i156_1, i156_2, i156_5, i156_8, i156_9, i156_10, i156_13, i156_16, i156_17, i156_18, i156_21, i156_24, i156_25, i156_26, hr, ho, hw, hyz, bI_0, Bool.true_eq_false, b_v_s, b_i_s, b_n_s, b_r_s, b_r_n, b_m_s, b_c_s, b_c_v, if_false]
          have i3 := in_R (μ := μ) (x := w) (hi := 3) (k := 3) (by decide)
          have i12 := in_1012 (μ := μ) (x := w)
          have b12 : (12 : Int32).toInt = 12 := by decide
          have b3 : (3 : Int32).toInt = 3 := by decide
          have b10 : (10 : Int32).toInt = 10 := by decide
          have b0 : (0 : Int32).toInt = 0 := by decide
          by_cases wok : (0 ≤ w.toInt ∧ w.toInt ≤ 3) ∨ (10 ≤ w.toInt ∧ w.toInt ≤ 12)
          · have go3 : m_G 85 44 [.ref 0, .int (nI r), .int (nI p), .int (nI q), .int w, .ref (QA r), .ref (PA p), .ref (PA q), m_d] [] μ = m_G 85 72 [.ref 0, .int (nI r), .int (nI p), .int (nI q), .int w, .ref (QA r), .ref (PA p), .ref (PA q), m_d] [] μ := by
              have d1 : ¬ w < 0 := by rw [Int32.lt_iff_toInt_lt, b0]; omega
              have d2 : ¬ (12 : Int32) < w := by rw [Int32.lt_iff_toInt_lt, b12]; omega
              by_cases d3 : (3 : Int32) < w
              · have d4 : ¬ w < 10 := by rw [Int32.lt_iff_toInt_lt, b3] at d3; rw [Int32.lt_iff_toInt_lt, b10]; omega
                simp (disch := first | omega | decide | with_reducible assumption) only [i85_44, i85_46, i85_49, i85_51, i85_53, i85_56, i85_58, i85_59, i85_62, i85_64, i85_66, d1, d2, d3, d4, if_true, if_false]
              · simp (disch := first | omega | decide | with_reducible assumption) only [i85_44, i85_46, i85_49, i85_51, i85_53, i85_56, i85_58, i85_59, i85_62, i85_64, i85_66, d1, d2, d3, if_true, if_false]
            obtain ⟨h8, hb, h1, h24, hpw, hww, hv, hPA⟩ := I_pg I hp
            obtain ⟨h8q, hbq, h1q, h24q, hpwq, hwwq, hvq, hPAq⟩ := I_pg I hq
            have hor := (I_ru I hr1).2.2.2
            have hoP := P_oc hv
            have hoPq := P_oc hvq
            have hd := C_dr1 I hr1 hp
            have hE : (giv μ r p (bnn (A μ 20) p) 1 &&& mk (wordM (A μ 22) p) (bnn (A μ 20) p) = 0) ↔ exB (bfO μ r p) 100 = false := wd0_iff hww h24
            by_cases g0 : giv μ r p (bnn (A μ 20) p) 1 &&& mk (wordM (A μ 22) p) (bnn (A μ 20) p) = 0
            · obtain ⟨ζ, em, sm⟩ := E_mendC I hr1 hp hq hyz wok
              have eR : mdR μ r p q w = -103 := by unfold mdR; rw [if_pos (hE.mp g0)]
              rw [eR] at em
              refine ⟨(-103), μ, ζ, ?_, em, I_ok (INV_SC I sm (by decide) (by decide))⟩
              rw [go1, go3]
              simp (disch := first | omega | decide | with_reducible assumption) only [i85_72, i85_72N, i85_74, i85_74N, i85_76, i85_77, i85_80, i85_82, i85_84, i85_84N, i85_86, i85_89, i85_90, i85_93, i85_95, hd, P_worded hv, g0, b_v_s, b_i_s, b_n_s, b_r_s, b_r_n, b_m_s, b_c_s, b_c_v, if_true]
            · have hex : ¬ exB (bfO μ r p) 100 = false := fun z => g0 (hE.mpr z)
              have hsw := C_sharedWords (s := mk (wordM (A μ 22) q) (bnn (A μ 20) q)) (s' := giv μ r p (bnn (A μ 20) p) 1) hvq hv
              obtain ⟨ξ, ec, kc, ⟨d15, dsn⟩, q0, q1, q2, q3⟩ := C_mendWork (p' := p) (n' := bnn (A μ 20) p) (G := giv μ r p (bnn (A μ 20) p) 1) hvq hPAq ((I_V I).2.2 q hq).2.2.2 I.2.1.2.2.2.2.1 h24
              have J := INV_draw I hq kc (fun y hy => by
                simp only [List.mem_cons, List.mem_nil_iff, or_false] at hy
                rcases hy with z | z | z | z | z
                · exact Or.inr z
                · exact Or.inl (by rw [z]; decide)
                · exact Or.inl (by rw [z]; decide)
                · exact Or.inl (by rw [z]; decide)
                · exact Or.inl (by rw [z]; decide)) d15 dsn
              rw [← mdV_def] at q0 q1 q2 q3
              have hCξ := I_C J
              have hMe := J.2.1.2.2.2.2.1
              have hoMe : m_oc μ 14 = some 2 := gO_oc I.2.1.2.2.2.2.1
              have cls : m_G 85 72 [.ref 0, .int (nI r), .int (nI p), .int (nI q), .int w, .ref (QA r), .ref (PA p), .ref (PA q), m_d] [] μ = m_G 85 121 [.ref 0, .int (nI r), .int (nI p), .int (nI q), .int w, .ref (QA r), .ref (PA p), .ref (PA q), .int (giv μ r p (bnn (A μ 20) p) 1)] [.int w] ξ := by
                simp (disch := first | omega | decide | with_reducible assumption) only [i85_72, i85_72N, i85_74, i85_74N, i85_76, i85_77, i85_80, i85_82, i85_84, i85_84N, i85_86, i85_89, i85_90, i85_93, i85_95, i85_96, i85_97, i85_100, i85_100N, i85_102, i85_102N, i85_104, i85_104N, i85_106, i85_109, i85_109N, i85_111, i85_113, i85_116, i85_119, hd, P_worded hv, P_worded hvq, g0, gC12 hC, hsw, ec, b_v_s, b_i_s, b_n_s, b_r_s, b_r_n, b_m_s, b_c_s, b_c_v, if_false]
              obtain ⟨ζ, em, sm⟩ := E_mendC J hr1 hp hq hyz wok
              have T : ∀ a, a < 48 → A ξ a = A μ a := fun a ha => K_A kc (by simp; omega)
              have gv' : ∀ n, giv ξ r p n 1 = giv μ r p n 1 := fun n => by unfold giv; rw [T 21 (by decide), T 22 (by decide), T 23 (by decide), T 31 (by decide), T 32 (by decide), T 33 (by decide)]
              have ebf : bfO ξ r p = bfO μ r p := by unfold bfO; rw [T 20 (by decide), T 22 (by decide), gv']
              have emd : mdV ξ r p q = mdV μ r p q := by rw [mdV_def, mdV_def, T 20 (by decide), T 21 (by decide), T 22 (by decide), T 23 (by decide), gv']
              have eR : mdR ξ r p q w = mdW (mdV μ r p q) (mdC (mdV μ r p q)) w := by unfold mdR; rw [ebf, emd, if_neg hex]
              rw [eR] at em
              refine ⟨(mdW (mdV μ r p q) (mdC (mdV μ r p q)) w), ξ, ζ, ?_, em, I_ok (INV_SC J sm (by decide) (by decide))⟩
              rw [go1, go3, cls]
              obtain ⟨c, hc, hc2⟩ := mdV_lt μ r p q
              have hcc : mdC (mdV μ r p q) = c := by unfold mdC; rw [hc]; rfl
              rw [hcc]
              rw [hc] at q0
              clear em eR emd hcc hc
              generalize mdV μ r p q = R at *
              obtain ⟨R1, R2, R3, R4⟩ := R
              dsimp only at q1 q2 q3
              rw [cI_s] at q0
              unfold mdW
              obtain ⟨t, rfl, ht⟩ := wOK_sp wok
              have ne : ∀ a b : Nat, a < 100 → b < 100 → a ≠ b → ¬ nI a = nI b := fun a b h1 h2 h3 h4 => by rw [nI_eqE (by omega) (by omega)] at h4; exact h3 h4
              by_cases t0 : t = 0
              · subst t0
                rw [if_pos (show nI 0 = 0 from rfl), show nI 0 = 0 from rfl]
                simp (disch := first | omega | decide | with_reducible assumption) only [i85_121_0, i85_152, i85_153, i85_156, i85_159, gC12 hCξ, gMe hMe, q1, b_v_s, b_i_s, b_n_s, b_r_s, b_r_n, b_m_s, b_c_s, b_c_v]
              · rw [if_neg (show ¬ nI t = 0 from ne t 0 (by omega) (by decide) t0)]
                by_cases t1 : t = 1
                · subst t1
                  rw [if_pos (show nI 1 = 1 from rfl), show nI 1 = 1 from rfl]
                  simp (disch := first | omega | decide | with_reducible assumption) only [i85_121_1, i85_160, i85_161, i85_164, i85_167, i85_170, gC12 hCξ, gMe hMe, q0, C_lengthOf, b_v_s, b_i_s, b_n_s, b_r_s, b_r_n, b_m_s, b_c_s, b_c_v]
                · rw [if_neg (show ¬ nI t = 1 from ne t 1 (by omega) (by decide) t1)]
                  by_cases t2' : t = 2
                  · subst t2'
                    rw [if_pos (show nI 2 = 2 from rfl), show nI 2 = 2 from rfl]
                    cases R4 <;> simp (disch := first | omega | decide | with_reducible assumption) only [i85_121_2, i85_171, i85_172, i85_175, i85_178, i85_181, i85_182, i85_185, i85_186, gC12 hCξ, gMe hMe, q3, bI_0, Bool.true_eq_false, ne10, bI_t, bI_f, b_v_s, b_i_s, b_n_s, b_r_s, b_r_n, b_m_s, b_c_s, b_c_v, if_true, if_false]
                  · rw [if_neg (show ¬ nI t = 2 from ne t 2 (by omega) (by decide) t2')]
                    by_cases t3 : t = 3
                    · subst t3
                      rw [if_pos (show nI 3 = 3 from rfl), show nI 3 = 3 from rfl]
                      simp (disch := first | omega | decide | with_reducible assumption) only [i85_121_3, i85_187, i85_188, i85_191, i85_194, gC12 hCξ, gMe hMe, q2, b_v_s, b_i_s, b_n_s, b_r_s, b_r_n, b_m_s, b_c_s, b_c_v]
                    · rw [if_neg (show ¬ nI t = 3 from ne t 3 (by omega) (by decide) t3)]
                      have e10 : nI t - 10 = nI (t - 10) := by rw [n10, nI_minus (by omega)]
                      have est := C_stepOf (μ := ξ) (x := c) (j := t - 10) hc2 (by omega)
                      have hdd : (nI t).toInt < 0 ∨ 3 < (nI t).toInt := by rw [nI_toInt (by omega)]; omega
                      rw [e10, nI_clamp (by omega), i85_121_d hdd]
                      simp (disch := first | omega | decide | with_reducible assumption) only [i85_195, i85_196, i85_199, i85_202, i85_204, i85_206, i85_207, i85_210, gC12 hCξ, gMe hMe, q0, e10, est, b_v_s, b_i_s, b_n_s, b_r_s, b_r_n, b_m_s, b_c_s, b_c_v]
          · refine ⟨(-102), μ, μ, ?_, ?_, I_ok I⟩
            · rw [go1]
              by_cases d1 : w < 0
              · simp (disch := first | omega | decide | with_reducible assumption) only [i85_44, i85_46, i85_49, i85_51, i85_53, i85_56, i85_58, i85_59, i85_62, i85_64, i85_66, i85_69, i85_71, d1, if_true]
              · by_cases d2 : (12 : Int32) < w
                · simp (disch := first | omega | decide | with_reducible assumption) only [i85_44, i85_46, i85_49, i85_51, i85_53, i85_56, i85_58, i85_59, i85_62, i85_64, i85_66, i85_69, i85_71, d1, d2, if_true, if_false]
                · rw [Int32.lt_iff_toInt_lt, b0] at d1
                  rw [Int32.lt_iff_toInt_lt, b12] at d2
                  have d3 : (3 : Int32) < w := by rw [Int32.lt_iff_toInt_lt, b3]; omega
                  have d4 : w < 10 := by rw [Int32.lt_iff_toInt_lt, b10]; omega
                  have d1' : ¬ w < 0 := by rw [Int32.lt_iff_toInt_lt, b0]; omega
                  have d2' : ¬ (12 : Int32) < w := by rw [Int32.lt_iff_toInt_lt, b12]; omega
                  simp (disch := first | omega | decide | with_reducible assumption) only [i85_44, i85_46, i85_49, i85_51, i85_53, i85_56, i85_58, i85_59, i85_62, i85_64, i85_66, i85_69, i85_71, d1', d2', d3, d4, if_true, if_false]
            · rw [go2]
              have : inR w (3 + 1) = false := by unfold inR; exact decide_eq_false (fun k => wok (Or.inl ⟨k.1, by omega⟩))
              rw [this] at i3
              rw [decide_eq_false (fun k => wok (Or.inr k))] at i12
              simp (disch := first | omega | decide | with_reducible assumption) only [i156_32, i156_34, i156_35, i156_36, i156_39, i156_42, i156_45, i156_47, i156_48, i156_51, i156_54, i156_57, i156_60, i156_62, i3, i12, bI_0, b_v_s, b_i_s, b_n_s, b_r_s, b_r_n, b_m_s, b_c_s, b_c_v, if_true]
end calls5
