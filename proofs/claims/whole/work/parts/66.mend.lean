/-! what is mended -/
abbrev mdT : Type := Option Nat × (Int32 × (Int32 × Bool))
def mdS (LK ST : Nat → Int32) : Nat → mdT
  | 0 => (none, 0, 0, true)
  | x + 1 => if (mdS LK ST x).1 = none ∨ (mdS LK ST x).2.1 < LK x then (some x, LK x, ST x, true)
    else if LK x = (mdS LK ST x).2.1 then ((mdS LK ST x).1, (mdS LK ST x).2.1, (mdS LK ST x).2.2.1, (mdS LK ST x).2.2.2 && decide (ST x = (mdS LK ST x).2.2.1))
    else mdS LK ST x
theorem mdS_st (LK ST : Nat → Int32) (x : Nat) : mdS LK ST (x + 1) = if (mdS LK ST x).1 = none ∨ (mdS LK ST x).2.1 < LK x then (some x, LK x, ST x, true)
    else if LK x = (mdS LK ST x).2.1 then ((mdS LK ST x).1, (mdS LK ST x).2.1, (mdS LK ST x).2.2.1, (mdS LK ST x).2.2.2 && decide (ST x = (mdS LK ST x).2.2.1))
    else mdS LK ST x := rfl
theorem mdS_lt (LK ST : Nat → Int32) (x : Nat) : ∃ c, (mdS LK ST (x + 1)).1 = some c ∧ c < x + 1 := by
  induction x with
  | zero => exact ⟨0, rfl, by omega⟩
  | succ x ih =>
    obtain ⟨c, h1, h2⟩ := ih
    rw [mdS_st]
    split
    · exact ⟨x + 1, rfl, by omega⟩
    · split
      · exact ⟨c, h1, by omega⟩
      · exact ⟨c, h1, by omega⟩
theorem mdS_congr {LK LK' ST ST' : Nat → Int32} {n : Nat} (h1 : ∀ x, x < n → LK x = LK' x) (h2 : ∀ x, x < n → ST x = ST' x) : mdS LK ST n = mdS LK' ST' n := by
  induction n with
  | zero => rfl
  | succ n ih => rw [mdS_st, mdS_st, ih (fun x hx => h1 x (by omega)) (fun x hx => h2 x (by omega)), h1 n (by omega), h2 n (by omega)]
theorem cI_m1 {o : Option Nat} (h : ∀ c, o = some c → c < 2147483648) : (cI o = -1) = (o = none) := by
  cases o with
  | none => exact propext ⟨fun _ => rfl, fun _ => rfl⟩
  | some c => exact propext ⟨fun q => by rw [cI, nI_ne1 (h c rfl)] at q; exact q.elim, fun q => by cases q⟩
theorem cI_s (c : Nat) : cI (some c) = nI c := rfl
theorem cI_n1 : (cI none = -1) = True := eq_true rfl
section mendM
variable {μ : mM}
set_option maxHeartbeats 2000000 in
theorem E_mendLoop {p n : Nat} {bf : Nat → Bool} {v1 v2 v4 v5 : Value} (h : MS μ) (hp : p < 8) (h1 : 1 ≤ n) (hn : n ≤ 24) (hb : A μ 20 p = nI n) (hw : WW (A μ 22) p n) (hf : ∀ w, w < 100 → A μ 43 w = bI (bf w)) (hl : ∀ x, x < 3615 → ldo (A μ 34) x (stps x) = sn (A μ 23) (A μ 21) p n x) (v11 v12 : Value) : ∃ ν w1 w2, m_G 156 165 [.ref 19, v1, v2, .int (nI p), v4, v5, .int (-1), .int 0, .int 0, .int 1, .int 0, v11, v12] [] μ = m_G 156 165 [.ref 19, v1, v2, .int (nI p), v4, v5, .int (cI (mdS (fun x => lks (oft (A μ 22) p (sn (A μ 23) (A μ 21) p n x) n) bf 100) (sn (A μ 23) (A μ 21) p n) 3615).1), .int (mdS (fun x => lks (oft (A μ 22) p (sn (A μ 23) (A μ 21) p n x) n) bf 100) (sn (A μ 23) (A μ 21) p n) 3615).2.1, .int (mdS (fun x => lks (oft (A μ 22) p (sn (A μ 23) (A μ 21) p n x) n) bf 100) (sn (A μ 23) (A μ 21) p n) 3615).2.2.1, .int (bI (mdS (fun x => lks (oft (A μ 22) p (sn (A μ 23) (A μ 21) p n x) n) bf 100) (sn (A μ 23) (A μ 21) p n) 3615).2.2.2), .int (nI 3615), w1, w2] [] ν ∧ SC [42] [] μ ν := by
  generalize hST : sn (A μ 23) (A μ 21) p n = ST at hl ⊢
  generalize hLK : (fun x => lks (oft (A μ 22) p (ST x) n) bf 100) = LK
  have hLKx : ∀ x, lks (oft (A μ 22) p (ST x) n) bf 100 = LK x := fun x => congrFun hLK x
  obtain ⟨ν, w, e, s⟩ := loop_inv (fun x ν (v : Value × Value) => m_G 156 165 [.ref 19, v1, v2, .int (nI p), v4, v5, .int (cI (mdS LK ST x).1), .int (mdS LK ST x).2.1, .int (mdS LK ST x).2.2.1, .int (bI (mdS LK ST x).2.2.2), .int (nI x), v.1, v.2] [] ν) (fun x ν => SC [42] [] μ ν) 3615 (fun x ν v hx s => by
    obtain ⟨v11, v12⟩ := v
    have hν := s.1
    have hoν := oM_oc hν
    have y20 : A ν 20 = A μ 20 := SC_A s (by decide) (by decide)
    have y22 : A ν 22 = A μ 22 := SC_A s (by decide) (by decide)
    have y34 : A ν 34 = A μ 34 := SC_A s (by decide) (by decide)
    have y43 : A ν 43 = A μ 43 := SC_A s (by decide) (by decide)
    have hld := E_leadsOn (x := x) hν hx
    rw [y34, hl x hx] at hld
    obtain ⟨ξ, e, t⟩ := E_likeness (s := ST x) (bf := bf) hν hp hn (by rw [y20]; exact hb) (by rw [y22]; exact hw) (by rw [y43]; exact hf)
    rw [y22, hLKx x] at e
    have go : m_G 156 165 [.ref 19, v1, v2, .int (nI p), v4, v5, .int (cI (mdS LK ST x).1), .int (mdS LK ST x).2.1, .int (mdS LK ST x).2.2.1, .int (bI (mdS LK ST x).2.2.2), .int (nI x), v11, v12] [] ν = m_G 156 190 [.ref 19, v1, v2, .int (nI p), v4, v5, .int (cI (mdS LK ST x).1), .int (mdS LK ST x).2.1, .int (mdS LK ST x).2.2.1, .int (bI (mdS LK ST x).2.2.2), .int (nI x), .int (ST x), .int (LK x)] [] ξ := by
      rw [i156_165]
      simp (disch := first | omega | with_reducible assumption) only [i156_167, i156_170, i156_173, i156_174, i156_176, i156_179, i156_181, i156_182, i156_183, i156_185, i156_188, n3615, lt_t, if_true, b_v_s, b_i_s, b_n_s, b_r_s, b_r_n, b_m_s, b_c_s, b_c_v, hld, e]
    refine ⟨ξ, (.int (ST x), .int (LK x)), ?_, s.tr t⟩
    try dsimp only
    rw [go]
    have hc1 : (cI (mdS LK ST x).1 = -1) = ((mdS LK ST x).1 = none) := cI_m1 (fun c hc => by
      cases x with
      | zero => cases hc
      | succ x =>
        obtain ⟨d, d1, d2⟩ := mdS_lt LK ST x
        rw [d1] at hc; injection hc with hc; omega)
    rw [mdS_st]
    generalize mdS LK ST x = R at hc1 ⊢
    obtain ⟨c, mo, to, su⟩ := R
    dsimp only at hc1 ⊢
    by_cases q1 : c = none
    · rw [if_pos (Or.inl q1)]
      simp (disch := first | omega | with_reducible assumption) only [i156_190, i156_192, i156_193, i156_196, i156_198, i156_200, i156_203, i156_205, i156_207, i156_209, i156_211, i156_213, i156_215, i156_216, i156_218, i156_221, i156_223, i156_225, i156_228, i156_230, i156_233, i156_235, i156_237, i156_240, i156_241, i156_244, i156_245, i156_247, i156_250, hc1, q1, cI_n1, if_true, nI_add1, cI_s, bI_t]
    · by_cases q2 : mo < LK x
      · rw [if_pos (Or.inr q2)]
        simp (disch := first | omega | with_reducible assumption) only [i156_190, i156_192, i156_193, i156_196, i156_198, i156_200, i156_203, i156_205, i156_207, i156_209, i156_211, i156_213, i156_215, i156_216, i156_218, i156_221, i156_223, i156_225, i156_228, i156_230, i156_233, i156_235, i156_237, i156_240, i156_241, i156_244, i156_245, i156_247, i156_250, hc1, q1, q2, if_true, if_false, nI_add1, cI_s, bI_t]
      · rw [if_neg (fun z => z.elim q1 q2)]
        by_cases q3 : LK x = mo
        · rw [if_pos q3]
          by_cases q4 : ST x = to
          · rw [decide_eq_true q4, Bool.and_true]
            cases su with
            | true => simp (disch := first | omega | with_reducible assumption) only [i156_190, i156_192, i156_193, i156_196, i156_198, i156_200, i156_203, i156_205, i156_207, i156_209, i156_211, i156_213, i156_215, i156_216, i156_218, i156_221, i156_223, i156_225, i156_228, i156_230, i156_233, i156_235, i156_237, i156_240, i156_241, i156_244, i156_245, i156_247, i156_250, hc1, q1, q2, q3, q4, if_true, if_false, bI_0, Bool.true_eq_false, ne10, nI_add1, bI_t, Int32.lt_irrefl]
            | false => simp (disch := first | omega | with_reducible assumption) only [i156_190, i156_192, i156_193, i156_196, i156_198, i156_200, i156_203, i156_205, i156_207, i156_209, i156_211, i156_213, i156_215, i156_216, i156_218, i156_221, i156_223, i156_225, i156_228, i156_230, i156_233, i156_235, i156_237, i156_240, i156_241, i156_244, i156_245, i156_247, i156_250, hc1, q1, q2, q3, q4, if_true, if_false, bI_0, nI_add1, bI_f, Int32.lt_irrefl]
          · rw [decide_eq_false q4, Bool.and_false]
            cases su with
            | true => simp (disch := first | omega | with_reducible assumption) only [i156_190, i156_192, i156_193, i156_196, i156_198, i156_200, i156_203, i156_205, i156_207, i156_209, i156_211, i156_213, i156_215, i156_216, i156_218, i156_221, i156_223, i156_225, i156_228, i156_230, i156_233, i156_235, i156_237, i156_240, i156_241, i156_244, i156_245, i156_247, i156_250, hc1, q1, q2, q3, q4, if_true, if_false, bI_0, Bool.true_eq_false, nI_add1, bI_f, Int32.lt_irrefl]
            | false => simp (disch := first | omega | with_reducible assumption) only [i156_190, i156_192, i156_193, i156_196, i156_198, i156_200, i156_203, i156_205, i156_207, i156_209, i156_211, i156_213, i156_215, i156_216, i156_218, i156_221, i156_223, i156_225, i156_228, i156_230, i156_233, i156_235, i156_237, i156_240, i156_241, i156_244, i156_245, i156_247, i156_250, hc1, q1, q2, q3, q4, if_true, if_false, bI_0, nI_add1, bI_f, Int32.lt_irrefl]
        · rw [if_neg q3]
          simp (disch := first | omega | with_reducible assumption) only [i156_190, i156_192, i156_193, i156_196, i156_198, i156_200, i156_203, i156_205, i156_207, i156_209, i156_211, i156_213, i156_215, i156_216, i156_218, i156_221, i156_223, i156_225, i156_228, i156_230, i156_233, i156_235, i156_237, i156_240, i156_241, i156_244, i156_245, i156_247, i156_250, hc1, q1, q2, q3, if_true, if_false, nI_add1]) μ (v11, v12) (SC.rf h)
  exact ⟨ν, w.1, w.2, e, s⟩
end mendM
/-! the class's -/
def TMe : Tm := [none, none, none, none]
def MeV (μ : mM) : Prop := isO μ 14 2 TMe
theorem MeV_K {X : List Nat} {Y : List (Nat × Nat)} {μ ν : mM} (h : MeV μ) (k : K X Y μ ν) : MeV ν := K_isO k h
theorem gMe {μ : mM} (h : MeV μ) {k : Nat} (hk : k < 4) : m_gf μ 14 2 k = some (.int (FI μ 14 k)) := gO (e := none) h ((by decide : ∀ k, k < 4 → TMe[k]? = some none) k hk)
section mendC
variable {μ : mM} {a p n p' n' : Nat} {PR KD WD : Nat → Int32}
theorem C_likenessOf {s G : Int32} (h : PV μ a p n PR KD WD) (hn' : n' ≤ 24) : m_D 14 [.ref a, .int s, .int (mk (fun b => bt (mk (wordM WD p) n &&& mk (wordM WD p) n) b && hsw WD p' n' G (WD (24 * p + b))) n)] μ = some (some (.int (lks (oft WD p s n) (fun w => decide (0 < oft WD p' G n' w)) 100)), μ) := by
  have hn := PV_n h
  have hww := h.2.2.2.2.1
  have ho := P_oc h
  have eu := C_unlikeWords (s := s) h
  generalize hW : mk (fun b => bt (mk (wordM WD p) n &&& mk (wordM WD p) n) b && hsw WD p' n' G (WD (24 * p + b))) n = W
  have hul : ∀ i, bt (ulw WD p n s) i = true → i < 24 := fun i hi => by have := ulw_lt hn hi; omega
  have bW : ∀ i, bt (ulw WD p n s) i = true → bt W i = decide (0 < oft WD p' G n' (wdN WD p i)) := by
    intro i hi
    have a1 := ulw_wd hww hn hi
    have a2 := ulw_lt hn hi
    rw [← hW, b_mk _ (by omega), decide_eq_true a2, Bool.true_and, a1.2.1, hsw_iff hn' a1.1]
    have : bt (mk (wordM WD p) n &&& mk (wordM WD p) n) i = true := by
      rw [b_and, Bool.and_self, b_mk _ (by omega), decide_eq_true a2, Bool.true_and]
      exact decide_eq_true a1.2.2.1
    rw [this, Bool.true_and]
  have e1 := C_bc (μ := μ) (s := ulw WD p n s &&& W) (fun i hi => hul i (by rw [b_and, Bool.and_eq_true] at hi; exact hi.1))
  have e2 := C_bc (μ := μ) (s := ulw WD p n s &&& (W ^^^ -1)) (fun i hi => hul i (by rw [b_and, Bool.and_eq_true] at hi; exact hi.1))
  have c1 : cnt (bt (ulw WD p n s &&& W)) 24 = cnt (fun w => decide (0 < oft WD p s n w) && decide (0 < oft WD p' G n' w)) 100 := by
    rw [← cntW hww hn (fun w => decide (0 < oft WD p' G n' w))]
    refine cnt_congr fun i hi => ?_
    rw [b_and]
    cases hq : bt (ulw WD p n s) i with
    | false => rfl
    | true => rw [bW i hq]
  have c2 : cnt (bt (ulw WD p n s &&& (W ^^^ -1))) 24 = cnt (fun w => decide (0 < oft WD p s n w) && !(decide (0 < oft WD p' G n' w))) 100 := by
    rw [← cntW hww hn (fun w => !(decide (0 < oft WD p' G n' w)))]
    refine cnt_congr fun i hi => ?_
    rw [b_and]
    cases hq : bt (ulw WD p n s) i with
    | false => rfl
    | true => rw [b_xor, b_m1 i (by omega), Bool.xor_true, bW i hq]
  rw [lks_cnt, ← c1, ← c2]
  by_cases z : s = 0
  · have u0 : ulw WD p n s = 0 := by
      rw [z]
      refine b_ext' fun i hi => ?_
      rw [b_ulw hn, b_0]
      exact ⟨fun ⟨b, _, q, _⟩ => (by rw [b_0] at q; cases q), fun q => (by cases q)⟩
    rw [u0] at e1 e2 ⊢
    simp (disch := first | omega | with_reducible assumption) only [D14, i14_0, i14_1, i14_4, i14_5, i14_8, i14_9, i14_10, i14_13, i14_14, i14_15, i14_16, i14_17, i14_20, i14_21, i14_22, i14_23, i14_24, i14_25, i14_28, i14_29, z, if_true, e1, e2, b_v_s, b_i_s, b_n_s, b_r_s, b_r_n, b_m_s, b_c_s, b_c_v]
  · simp (disch := first | omega | with_reducible assumption) only [D14, i14_0, i14_1, i14_4, i14_5, i14_8, i14_9, i14_10, i14_13, i14_14, i14_15, i14_16, i14_17, i14_20, i14_21, i14_22, i14_23, i14_24, i14_25, i14_28, i14_29, z, if_false, eu, e1, e2, b_v_s, b_i_s, b_n_s, b_r_s, b_r_n, b_m_s, b_c_s, b_c_v]
set_option maxHeartbeats 2000000 in
theorem C_mendWork {G : Int32} (h : PV μ a p n PR KD WD) (ha : 48 ≤ a) (hd : DRN μ a p n PR KD) (hM : MeV μ) (hn' : n' ≤ 24) : ∃ ν, m_D 13 [.ref 14, .ref a, .int (mk (fun b => bt (mk (wordM WD p) n &&& mk (wordM WD p) n) b && hsw WD p' n' G (WD (24 * p + b))) n)] μ = some (none, ν) ∧ K [a + 2] [(a, 15), (14, 0), (14, 1), (14, 2), (14, 3)] μ ν ∧ (FI ν a 15 = 1 ∧ ∀ x, x < 3615 → A ν (a + 2) x = sn PR KD p n x) ∧ FI ν 14 0 = cI (mdS (fun x => lks (oft WD p (sn PR KD p n x) n) (fun w => decide (0 < oft WD p' G n' w)) 100) (sn PR KD p n) 3615).1 ∧ FI ν 14 1 = (mdS (fun x => lks (oft WD p (sn PR KD p n x) n) (fun w => decide (0 < oft WD p' G n' w)) 100) (sn PR KD p n) 3615).2.1 ∧ FI ν 14 2 = (mdS (fun x => lks (oft WD p (sn PR KD p n x) n) (fun w => decide (0 < oft WD p' G n' w)) 100) (sn PR KD p n) 3615).2.2.1 ∧ FI ν 14 3 = bI (mdS (fun x => lks (oft WD p (sn PR KD p n x) n) (fun w => decide (0 < oft WD p' G n' w)) 100) (sn PR KD p n) 3615).2.2.2 := by
  have T : ∀ k, k < 4 → TMe[k]? = some none := by decide
  generalize hW : mk (fun b => bt (mk (wordM WD p) n &&& mk (wordM WD p) n) b && hsw WD p' n' G (WD (24 * p + b))) n = W
  generalize hST : sn PR KD p n = ST
  generalize hLK : (fun x => lks (oft WD p (ST x) n) (fun w => decide (0 < oft WD p' G n' w)) 100) = LK
  have hLKx : ∀ x, lks (oft WD p (ST x) n) (fun w => decide (0 < oft WD p' G n' w)) 100 = LK x := fun x => congrFun hLK x
  have ho := P_oc h
  obtain ⟨ν1, e1, s1, d1, f1⟩ := C_drawSentences h hd
  rw [hST] at f1
  have h1 : PV ν1 a p n PR KD WD := PV_K h s1 (fun j h1 h2 h3 => by simp; omega) (by simp)
  have M1 := MeV_K hM s1
  have s2 : K [] [(14, 0)] ν1 (wO ν1 14 0 (.int (-1))) := K_wO M1 (T 0 (by decide)) _ (by simp)
  have p2 := pO M1 (T 0 (by decide)) (-1)
  have r2 := wO_FIo M1 (T 0 (by decide)) (-1) 14
  generalize wO ν1 14 0 (.int (-1)) = ν2 at *
  have M2 := MeV_K M1 s2
  have s3 : K [] [(14, 1)] ν2 (wO ν2 14 1 (.int 0)) := K_wO M2 (T 1 (by decide)) _ (by simp)
  have p3 := pO M2 (T 1 (by decide)) 0
  have r3 := wO_FIo M2 (T 1 (by decide)) 0 14
  generalize wO ν2 14 1 (.int 0) = ν3 at *
  have t3 : K [a + 2] [(a, 15), (14, 0), (14, 1), (14, 2), (14, 3)] μ ν3 := (s1.mono (by simp) (by simp)).tr ((s2.mono (by simp) (by simp)).tr (s3.mono (by simp) (by simp)))
  have keep : ∀ ν, K [] [(14, 0), (14, 1), (14, 2), (14, 3)] ν3 ν → (∀ x, x < 3615 → A ν (a + 2) x = ST x) ∧ PV ν a p n PR KD WD ∧ FI ν a 15 = 1 := by
    intro ν k
    have k' : K [] [(14, 0), (14, 1), (14, 2), (14, 3)] ν1 ν := (s2.mono (by simp) (by simp)).tr ((s3.mono (by simp) (by simp)).tr k)
    refine ⟨fun x hx => by rw [K_A k' (by simp)]; exact f1 x hx, PV_K h1 k' (fun j _ _ _ => by simp) (by simp; omega), ?_⟩
    rw [K_FI k' (by simp)]; exact d1
  obtain ⟨ν, w, e, s, g0, g1, g2⟩ := loop_inv (fun x ν (v : Value) => m_G 13 22 [.ref 14, .ref a, .int W, .ref (a + 2), .int (nI x), v] [] ν) (fun x ν => K [] [(14, 0), (14, 1), (14, 2), (14, 3)] ν3 ν ∧ FI ν 14 0 = cI (mdS LK ST x).1 ∧ FI ν 14 1 = (mdS LK ST x).2.1 ∧ (0 < x → FI ν 14 2 = (mdS LK ST x).2.2.1 ∧ FI ν 14 3 = bI (mdS LK ST x).2.2.2)) 3615 (fun x ν v hx P => by
    obtain ⟨s, g0, g1, g2⟩ := P
    obtain ⟨fs, hν, _⟩ := keep ν s
    have hMν := MeV_K M2 (((s3.mono (X' := []) (Y' := [(14, 0), (14, 1), (14, 2), (14, 3)]) (by simp) (by simp)).tr s))
    have fx := fs x hx
    have hs := ga_A hν.1.2.2.1 hx (by decide)
    rw [fx] at hs
    have hl := C_likenessOf (p' := p') (n' := n') (s := ST x) (G := G) hν hn'
    rw [hW, hLKx x] at hl
    have hc1 : (cI (mdS LK ST x).1 = -1) = ((mdS LK ST x).1 = none) := cI_m1 (fun c hc => by
      cases x with
      | zero => cases hc
      | succ x =>
        obtain ⟨d, d1, d2⟩ := mdS_lt LK ST x
        rw [d1] at hc; injection hc with hc; omega)
    have hx0 : ¬ (mdS LK ST x).1 = none → 0 < x := fun z => by
      cases x with
      | zero => exact absurd rfl z
      | succ x => omega
    have yes : ((mdS LK ST x).1 = none ∨ (mdS LK ST x).2.1 < LK x) → ∃ ν' v', m_G 13 22 [.ref 14, .ref a, .int W, .ref (a + 2), .int (nI x), v] [] ν = (fun x ν (v : Value) => m_G 13 22 [.ref 14, .ref a, .int W, .ref (a + 2), .int (nI x), v] [] ν) (x + 1) ν' v' ∧ K [] [(14, 0), (14, 1), (14, 2), (14, 3)] ν3 ν' ∧ FI ν' 14 0 = cI (mdS LK ST (x + 1)).1 ∧ FI ν' 14 1 = (mdS LK ST (x + 1)).2.1 ∧ (0 < x + 1 → FI ν' 14 2 = (mdS LK ST (x + 1)).2.2.1 ∧ FI ν' 14 3 = bI (mdS LK ST (x + 1)).2.2.2) := by
      intro q
      rw [mdS_st, if_pos q]
      have sa : K [] [(14, 0), (14, 1), (14, 2), (14, 3)] ν (wO ν 14 0 (.int (nI x))) := K_wO hMν (T 0 (by decide)) _ (by simp)
      have pa := pO hMν (T 0 (by decide)) (nI x)
      have ra := wO_FIo hMν (T 0 (by decide)) (nI x) 14
      generalize wO ν 14 0 (.int (nI x)) = νa at *
      have Ma := MeV_K hMν sa
      have sb' : K [] [(14, 0), (14, 1), (14, 2), (14, 3)] νa (wO νa 14 1 (.int (LK x))) := K_wO Ma (T 1 (by decide)) _ (by simp)
      have pb := pO Ma (T 1 (by decide)) (LK x)
      have rb := wO_FIo Ma (T 1 (by decide)) (LK x) 14
      generalize wO νa 14 1 (.int (LK x)) = νb at *
      have Mb := MeV_K Ma sb'
      have tb := s.tr (sa.tr sb')
      obtain ⟨fb, hb, _⟩ := keep νb tb
      have hsb := ga_A hb.1.2.2.1 hx (by decide)
      rw [fb x hx] at hsb
      have sc : K [] [(14, 0), (14, 1), (14, 2), (14, 3)] νb (wO νb 14 2 (.int (ST x))) := K_wO Mb (T 2 (by decide)) _ (by simp)
      have pc := pO Mb (T 2 (by decide)) (ST x)
      have rc := wO_FIo Mb (T 2 (by decide)) (ST x) 14
      generalize wO νb 14 2 (.int (ST x)) = νc at *
      have Mc := MeV_K Mb sc
      have sd : K [] [(14, 0), (14, 1), (14, 2), (14, 3)] νc (wO νc 14 3 (.int (bI true))) := K_wO Mc (T 3 (by decide)) _ (by simp)
      have pd := pOb Mc (T 3 (by decide)) true
      have rd := wO_FIo Mc (T 3 (by decide)) (bI true) 14
      rw [bI_t] at sd pd rd
      generalize wO νc 14 3 (.int 1) = νd at *
      refine ⟨νd, .int (LK x), ?_, tb.tr (sc.tr sd), ?_, ?_, fun _ => ⟨?_, ?_⟩⟩
      · try dsimp only
        rw [i13_22]
        by_cases q1 : (mdS LK ST x).1 = none
        · simp (disch := first | omega | with_reducible assumption) only [i13_24, i13_27, i13_30, i13_31, i13_32, i13_34, i13_35, i13_36, i13_39, i13_41, i13_42, i13_45, i13_46, i13_49, i13_51, i13_52, i13_55, i13_58, i13_59, i13_61, i13_64, i13_65, i13_67, i13_70, i13_71, i13_72, i13_74, i13_75, i13_78, i13_79, i13_80, i13_83, i13_86, i13_88, i13_89, i13_92, i13_95, i13_96, i13_98, i13_99, i13_100, i13_103, i13_106, i13_107, i13_108, i13_111, i13_114, n3615, lt_t, if_true, hs, b_v_s, b_i_s, b_n_s, b_r_s, b_r_n, b_m_s, b_c_s, b_c_v, hl, gMe hMν, g0, hc1, q1, cI_n1, pa, pb, pc, pd, hsb, nI_add1]
        · have q2 : (mdS LK ST x).2.1 < LK x := q.elim (fun z => absurd z q1) id
          simp (disch := first | omega | with_reducible assumption) only [i13_24, i13_27, i13_30, i13_31, i13_32, i13_34, i13_35, i13_36, i13_39, i13_41, i13_42, i13_45, i13_46, i13_49, i13_51, i13_52, i13_55, i13_58, i13_59, i13_61, i13_64, i13_65, i13_67, i13_70, i13_71, i13_72, i13_74, i13_75, i13_78, i13_79, i13_80, i13_83, i13_86, i13_88, i13_89, i13_92, i13_95, i13_96, i13_98, i13_99, i13_100, i13_103, i13_106, i13_107, i13_108, i13_111, i13_114, n3615, lt_t, if_true, if_false, hs, b_v_s, b_i_s, b_n_s, b_r_s, b_r_n, b_m_s, b_c_s, b_c_v, hl, gMe hMν, g0, g1, hc1, q1, q2, pa, pb, pc, pd, hsb, nI_add1]
      · rw [rd, if_neg (by decide), rc, if_neg (by decide), rb, if_neg (by decide), ra, if_pos ⟨rfl, rfl⟩]; rfl
      · rw [rd, if_neg (by decide), rc, if_neg (by decide), rb, if_pos ⟨rfl, rfl⟩]
      · rw [rd, if_neg (by decide), rc, if_pos ⟨rfl, rfl⟩]
      · rw [rd, if_pos ⟨rfl, rfl⟩]; rfl
    by_cases q1 : (mdS LK ST x).1 = none
    · exact yes (Or.inl q1)
    · by_cases q2 : (mdS LK ST x).2.1 < LK x
      · exact yes (Or.inr q2)
      · obtain ⟨g2, g3⟩ := g2 (hx0 q1)
        rw [mdS_st, if_neg (fun z => z.elim q1 q2)]
        by_cases q3 : LK x = (mdS LK ST x).2.1
        · rw [if_pos q3]
          by_cases q4 : ST x = (mdS LK ST x).2.2.1
          · refine ⟨ν, .int (LK x), ?_, s, g0, g1, fun _ => ⟨g2, ?_⟩⟩
            · try dsimp only
              rw [i13_22]
              simp (disch := first | omega | with_reducible assumption) only [i13_24, i13_27, i13_30, i13_31, i13_32, i13_34, i13_35, i13_36, i13_39, n3615, lt_t, if_true, hs, b_v_s, b_i_s, b_n_s, b_r_s, b_r_n, b_m_s, b_c_s, b_c_v, hl]
              rw [q4] at hs
              simp (disch := first | omega | with_reducible assumption) only [i13_41, i13_42, i13_45, i13_46, i13_49, i13_51, i13_52, i13_55, i13_58, i13_59, i13_61, i13_64, i13_65, i13_67, i13_70, i13_71, i13_72, i13_74, i13_75, i13_78, i13_79, i13_80, i13_83, i13_86, i13_88, i13_89, i13_92, i13_95, i13_96, i13_98, i13_99, i13_100, i13_103, i13_106, i13_107, i13_108, i13_111, i13_114, if_true, if_false, hs, b_v_s, b_i_s, b_n_s, b_r_s, b_r_n, b_m_s, b_c_s, b_c_v, gMe hMν, g0, g1, g2, hc1, q1, q2, q3, Int32.lt_irrefl, nI_add1]
            · rw [decide_eq_true q4, Bool.and_true]; exact g3
          · have sd : K [] [(14, 0), (14, 1), (14, 2), (14, 3)] ν (wO ν 14 3 (.int (bI false))) := K_wO hMν (T 3 (by decide)) _ (by simp)
            have pd := pOb hMν (T 3 (by decide)) false
            have rd := wO_FIo hMν (T 3 (by decide)) (bI false) 14
            rw [bI_f] at sd pd rd
            generalize wO ν 14 3 (.int 0) = νd at *
            refine ⟨νd, .int (LK x), ?_, s.tr sd, ?_, ?_, fun _ => ⟨?_, ?_⟩⟩
            · try dsimp only
              rw [i13_22]
              simp (disch := first | omega | with_reducible assumption) only [i13_24, i13_27, i13_30, i13_31, i13_32, i13_34, i13_35, i13_36, i13_39, i13_41, i13_42, i13_45, i13_46, i13_49, i13_51, i13_52, i13_55, i13_58, i13_59, i13_61, i13_64, i13_65, i13_67, i13_70, i13_71, i13_72, i13_74, i13_75, i13_78, i13_79, i13_80, i13_83, i13_86, i13_88, i13_89, i13_92, i13_95, i13_96, i13_98, i13_99, i13_100, i13_103, i13_106, i13_107, i13_108, i13_111, i13_114, n3615, lt_t, if_true, if_false, hs, b_v_s, b_i_s, b_n_s, b_r_s, b_r_n, b_m_s, b_c_s, b_c_v, hl, gMe hMν, g0, g1, g2, hc1, q1, q2, q3, q4, Int32.lt_irrefl, pd, nI_add1]
            · rw [rd, if_neg (by decide)]; exact g0
            · rw [rd, if_neg (by decide)]; exact g1
            · rw [rd, if_neg (by decide)]; exact g2
            · rw [rd, if_pos ⟨rfl, rfl⟩, decide_eq_false q4, Bool.and_false]; rfl
        · rw [if_neg q3]
          refine ⟨ν, .int (LK x), ?_, s, g0, g1, fun _ => ⟨g2, g3⟩⟩
          try dsimp only
          rw [i13_22]
          simp (disch := first | omega | with_reducible assumption) only [i13_24, i13_27, i13_30, i13_31, i13_32, i13_34, i13_35, i13_36, i13_39, i13_41, i13_42, i13_45, i13_46, i13_49, i13_51, i13_52, i13_55, i13_58, i13_59, i13_61, i13_64, i13_65, i13_67, i13_70, i13_71, i13_72, i13_74, i13_75, i13_78, i13_79, i13_80, i13_83, i13_86, i13_88, i13_89, i13_92, i13_95, i13_96, i13_98, i13_99, i13_100, i13_103, i13_106, i13_107, i13_108, i13_111, i13_114, n3615, lt_t, if_true, if_false, hs, b_v_s, b_i_s, b_n_s, b_r_s, b_r_n, b_m_s, b_c_s, b_c_v, hl, gMe hMν, g0, g1, hc1, q1, q2, q3, nI_add1]) ν3 m_d ⟨K.rf ν3, by rw [r3, if_neg (by decide), r2, if_pos ⟨rfl, rfl⟩]; rfl, by rw [r3, if_pos ⟨rfl, rfl⟩]; rfl, fun z => absurd z (Nat.lt_irrefl 0)⟩
  obtain ⟨fs, hν, d⟩ := keep ν s
  obtain ⟨g2, g3⟩ := g2 (by decide)
  refine ⟨ν, ?_, t3.tr (s.mono (by simp) (by simp)), ⟨d, fs⟩, g0, g1, g2, g3⟩
  simp (disch := first | omega | with_reducible assumption) only [D13, i13_0, i13_1, i13_4, i13_5, i13_8, i13_9, i13_10, i13_11, i13_14, i13_15, i13_16, i13_19, i13_20, b_v_s, b_i_s, b_n_s, b_r_s, b_r_n, b_m_s, b_c_s, b_c_v, e1, P_fsentenceSets h1, p2, p3]
  refine (show _ = _ from e).trans ?_
  try dsimp only
  rw [i13_22]
  simp (disch := first | omega | with_reducible assumption) only [i13_24, i13_27, i13_117, n3615, lt_f, if_false]
end mendC
