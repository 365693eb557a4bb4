/-! the class: how like two pages are -/
def TPi : Tm := [some (some 16), some (some 17)]
def PiV (μ : mM) : Prop := isO μ 15 5 TPi ∧ isA μ 16 0 576 ∧ isA μ 17 0 25
theorem PiV_K {X : List Nat} {Y : List (Nat × Nat)} {μ ν : mM} (h : PiV μ) (k : K X Y μ ν) : PiV ν := ⟨K_isO k h.1, K_isA k h.2.1, K_isA k h.2.2⟩
theorem gPi0 {μ : mM} (h : PiV μ) : m_gf μ 15 5 0 = some (.ref 16) := gO (e := some (some 16)) h.1 rfl
theorem gPi1 {μ : mM} (h : PiV μ) : m_gf μ 15 5 1 = some (.ref 17) := gO (e := some (some 17)) h.1 rfl
theorem PiV_oc {μ : mM} (h : PiV μ) : m_oc μ 15 = some 5 := gO_oc h.1
section likeC
variable {μ : mM}
set_option maxHeartbeats 2000000 in
theorem C_pairOneMore {c : Nat} {S : Int32} {prev : Nat → Int32} (h : PiV μ) (hc : c < 24) (h0 : prev 0 = 0) (hf : ∀ d, bt S d = false → prev (d + 1) = prev d) (hb : ∀ d, d ≤ 24 → A μ 17 (cnt (bt S) d) = prev d) : ∃ ν, m_D 43 [.ref 15, .int (nI c), .int S] μ = some (some (.int (dqE (fun c d => A μ 16 (24 * c + d)) (bt S) c prev 24)), ν) ∧ K [17] [] μ ν ∧ ∀ d, d ≤ 24 → A ν 17 (cnt (bt S) d) = dqE (fun c d => A μ 16 (24 * c + d)) (bt S) c prev d := by
  obtain ⟨ν, w, e, s, f, g⟩ := loop_inv (fun d ν (v : Value) => m_G 43 8 [.ref 15, .int (nI c), .int S, .int (nI (cnt (bt S) d)), .int (prev d), .int (nI d), v] [] ν) (fun d ν => K [17] [] μ ν ∧ (∀ e, e ≤ d → A ν 17 (cnt (bt S) e) = dqE (fun c d => A μ 16 (24 * c + d)) (bt S) c prev e) ∧ ∀ e, d < e → e ≤ 24 → cnt (bt S) d < cnt (bt S) e → A ν 17 (cnt (bt S) e) = prev e) 24 (fun d ν v hd P => by
    obtain ⟨s, f, g⟩ := P
    have hν := PiV_K h s
    have hcl := cnt_le (bt S) d
    have x16 : A ν 16 = A μ 16 := K_A s (by simp)
    cases hS : bt S d with
    | false =>
      have e1 : cnt (bt S) (d + 1) = cnt (bt S) d := by rw [cnt_st, hS, if_neg (by decide), Nat.add_zero]
      have e2 := hf d hS
      refine ⟨ν, v, ?_, s, fun e he => ?_, fun e he1 he2 he3 => g e (by omega) he2 (by rw [e1] at he3; exact he3)⟩
      · try dsimp only
        rw [i43_8, e1, e2]
        simp (disch := first | omega | with_reducible assumption) only [i43_10, i43_12, i43_15, i43_16, i43_18, i43_21, i43_80, i43_83, n24, lt_t, if_true, E_isIn, hS, bI_0, b_v_s, b_i_s, b_n_s, b_r_s, b_r_n, b_m_s, b_c_s, b_c_v, nI_add1]
      · by_cases z : e = d + 1
        · rw [z, e1, dqE_st, hS, if_neg (by decide)]; exact f d (Nat.le_refl d)
        · exact f e (by omega)
    | true =>
      have e1 : cnt (bt S) (d + 1) = cnt (bt S) d + 1 := by rw [cnt_st, hS, if_pos rfl]
      have g1 := g (d + 1) (by omega) (by omega) (by omega)
      have f1 := f d (Nat.le_refl d)
      rw [e1] at g1
      have a17 := hν.2.2
      refine ⟨wA ν 17 (upd (A ν 17) (cnt (bt S) d + 1) (dqE (fun c d => A μ 16 (24 * c + d)) (bt S) c prev (d + 1))), .int (prev d + A μ 16 (24 * c + d)), ?_, s.tr (K_wA a17 _ (by simp)), fun e he => ?_, fun e he1 he2 he3 => ?_⟩
      · try dsimp only
        rw [i43_8, e1, dqE_st, hS, if_pos rfl]
        unfold mx3 mxI
        generalize dqE (fun c d => A μ 16 (24 * c + d)) (bt S) c prev d = D at *
        generalize cnt (bt S) d = U at *
        simp (disch := first | omega | with_reducible assumption) only [i43_10, i43_12, i43_15, i43_16, i43_18, i43_21, i43_24, i43_27, i43_29, i43_30, i43_33, i43_34, i43_36, i43_37, i43_39, i43_40, i43_41, i43_42, i43_44, i43_45, i43_48, i43_49, i43_50, i43_52, i43_53, i43_56, i43_57, i43_59, i43_60, i43_63, i43_64, i43_65, i43_66, i43_69, i43_70, i43_71, i43_72, i43_73, i43_76, i43_79, i43_80, i43_83, n24, lt_t, if_true, if_false, Bool.true_eq_false, E_isIn, hS, bI_0, b_v_s, b_i_s, b_n_s, b_r_s, b_r_n, b_m_s, b_c_s, b_c_v, nI_add1, gPi0 hν, gPi1 hν, nI_times, nI_plus, Nat.mul_comm c 24, ga_A hν.2.1, ga_A a17, x16, g1, nI_m1, f1, pa_A a17]
      · rw [wA_A a17, if_pos rfl, upd_at]
        by_cases z : e = d + 1
        · rw [z, e1, if_pos rfl]
        · have : cnt (bt S) e ≤ cnt (bt S) d := cnt_lt_mono _ (by omega)
          rw [if_neg (by omega)]; exact f e (by omega)
      · rw [wA_A a17, if_pos rfl, upd_at, if_neg (by omega)]
        exact g e (by omega) he2 (by omega)) μ m_d ⟨K.rf μ, fun e he => by
        rw [Nat.le_zero.mp he, dqE_z, hb 0 (by omega), h0], fun e _ he2 _ => hb e he2⟩
  have hν := PiV_K h s
  have fl := f 24 (Nat.le_refl _)
  refine ⟨ν, ?_, s, f⟩
  simp only [D43, i43_0, i43_1, i43_2, i43_3, i43_5, i43_6]
  rw [h0] at e
  refine (show _ = _ from e).trans ?_
  try dsimp only
  have hcl := cnt_le (bt S) 24
  rw [i43_8]
  generalize cnt (bt S) 24 = U at *
  simp (disch := first | omega | with_reducible assumption) only [i43_10, i43_12, i43_86, i43_87, i43_90, i43_91, i43_92, n24, lt_f, if_false, gPi1 hν, ga_A hν.2.2, b_v_s, b_i_s, b_n_s, b_r_s, b_r_n, b_m_s, b_c_s, b_c_v, fl]
set_option maxHeartbeats 2000000 in
theorem C_likeWithin {S1 S2 : Int32} (h : PiV μ) : ∃ ν, m_D 42 [.ref 15, .int S1, .int S2] μ = some (some (.int (dq (bt S1) (bt S2) (fun c d => A μ 16 (24 * c + d)) 24 24)), ν) ∧ K [17] [] μ ν := by
  have ho := PiV_oc h
  obtain ⟨ν1, e1, s1, f1⟩ := C_fill (v := 0) h.2.2 (by decide)
  obtain ⟨ν, w, e, s, f⟩ := loop_inv (fun c ν (_ : Unit) => m_G 42 13 [.ref 15, .int S1, .int S2, .int (dq (bt S1) (bt S2) (fun c d => A μ 16 (24 * c + d)) c 24), .int (nI c)] [] ν) (fun c ν => K [17] [] μ ν ∧ ∀ d, d ≤ 24 → A ν 17 (cnt (bt S2) d) = dq (bt S1) (bt S2) (fun c d => A μ 16 (24 * c + d)) c d) 24 (fun c ν _ hc P => by
    obtain ⟨s, f⟩ := P
    have hν := PiV_K h s
    have hoν := PiV_oc hν
    have x16 : A ν 16 = A μ 16 := K_A s (by simp)
    cases hS : bt S1 c with
    | false =>
      have e1 : dq (bt S1) (bt S2) (fun c d => A μ 16 (24 * c + d)) (c + 1) = dq (bt S1) (bt S2) (fun c d => A μ 16 (24 * c + d)) c := by rw [dq_st, hS, if_neg (by decide)]
      refine ⟨ν, (), ?_, s, fun d hd => by rw [e1]; exact f d hd⟩
      try dsimp only
      rw [i42_13, e1]
      simp (disch := first | omega | with_reducible assumption) only [i42_15, i42_17, i42_20, i42_21, i42_23, i42_26, i42_29, i42_30, i42_32, i42_33, i42_36, i42_37, i42_40, n24, lt_t, if_true, E_isIn, hS, bI_0, b_v_s, b_i_s, b_n_s, b_r_s, b_r_n, b_m_s, b_c_s, b_c_v, nI_add1]
    | true =>
      have e1 : dq (bt S1) (bt S2) (fun c d => A μ 16 (24 * c + d)) (c + 1) = dqE (fun c d => A μ 16 (24 * c + d)) (bt S2) c (dq (bt S1) (bt S2) (fun c d => A μ 16 (24 * c + d)) c) := by rw [dq_st, hS, if_pos rfl]
      obtain ⟨ξ, e2, s2, f2⟩ := C_pairOneMore (c := c) (S := S2) (prev := dq (bt S1) (bt S2) (fun c d => A μ 16 (24 * c + d)) c) hν hc (dq_0 _ _ _ _) (fun d hd => dq_nq _ _ _ _ (by rw [hd]; decide)) f
      rw [x16, ← e1] at e2 f2
      refine ⟨ξ, (), ?_, s.tr s2, f2⟩
      try dsimp only
      rw [i42_13]
      simp (disch := first | omega | with_reducible assumption) only [i42_15, i42_17, i42_20, i42_21, i42_23, i42_26, i42_29, i42_30, i42_32, i42_33, i42_36, i42_37, i42_40, n24, lt_t, if_true, if_false, Bool.true_eq_false, E_isIn, hS, bI_0, b_v_s, b_i_s, b_n_s, b_r_s, b_r_n, b_m_s, b_c_s, b_c_v, e2, nI_add1]) ν1 () ⟨s1, fun d hd => by rw [f1 _ (by have := cnt_le (bt S2) d; omega)]; rfl⟩
  refine ⟨ν, ?_, s⟩
  simp (disch := first | omega | with_reducible assumption) only [D42, i42_0, i42_1, i42_4, i42_5, i42_8, i42_9, i42_10, i42_11, gPi1 h, b_v_s, b_i_s, b_n_s, b_r_s, b_r_n, b_m_s, b_c_s, b_c_v, e1]
  refine (show _ = _ from e).trans ?_
  try dsimp only
  generalize dq (bt S1) (bt S2) (fun c d => A μ 16 (24 * c + d)) 24 24 = D
  rw [i42_13]
  simp (disch := first | omega | with_reducible assumption) only [i42_15, i42_17, i42_43, i42_44, n24, lt_f, if_false]
theorem inn_z {PR : Nat → Int32} {p n a : Nat} (hn : n ≤ 24) (h : inn PR p n a = 0) : ∀ c, c ≤ n → cnt (fun c => decide (PR (24 * p + c) = nI a)) c = 0 := by
  intro c
  induction c with
  | zero => intro _; rfl
  | succ c ih =>
    intro hc
    rw [cnt_st, ih (by omega)]
    have q : bt (inn PR p n a) c = false := by rw [h, b_0]
    unfold inn at q
    rw [b_mk _ (by omega), decide_eq_true (by omega : c < n), Bool.true_and] at q
    rw [q]; rfl
theorem dq_inn {PR : Nat → Int32} {p q n m a b : Nat} {AL : Nat → Nat → Int32} (hn : n ≤ 24) (hm : m ≤ 24) : dq (bt (inn PR p n a)) (bt (inn PR q m b)) AL 24 24 = dq (fun c => decide (PR (24 * p + c) = nI a)) (fun d => decide (PR (24 * q + d) = nI b)) AL n m := by
  have key : ∀ (p n a : Nat), n ≤ 24 → cnt (bt (inn PR p n a)) 24 = cnt (bt (inn PR p n a)) n ∧ ∀ c, c < n → bt (inn PR p n a) c = decide (PR (24 * p + c) = nI a) := by
    intro p n a hn
    refine ⟨?_, fun c hc => by unfold inn; rw [b_mk _ (by omega), decide_eq_true hc, Bool.true_and]⟩
    rw [show (24 : Nat) = n + (24 - n) by omega, cnt_add]
    have : cnt (fun i => bt (inn PR p n a) (n + i)) (24 - n) = cnt (fun _ => false) (24 - n) := cnt_congr fun i _ => by unfold inn; rw [b_mk _ (by omega), decide_eq_false (by omega), Bool.false_and]
    rw [this]
    have z : ∀ k, cnt (fun _ => false) k = 0 := by intro k; induction k with | zero => rfl | succ k ih => rw [cnt_st, ih]; rfl
    rw [z, Nat.add_zero]
  obtain ⟨k1, k2⟩ := key p n a hn
  obtain ⟨k3, k4⟩ := key q m b hm
  rw [dq_flat _ _ _ k1 k3]
  exact dq_congr k2 k4 (fun c d _ _ _ _ => rfl) n (Nat.le_refl n) m (Nat.le_refl m)
set_option maxHeartbeats 2000000 in
theorem C_likeOfBoxes {p q n m a b u v : Nat} {PR KD WD : Nat → Int32} (h : PiV μ) (h1 : PV μ u p n PR KD WD) (h2 : PV μ v q m PR KD WD) (ha : a < n) (hb : b < m) : ∃ ν, m_D 41 [.ref 15, .ref u, .int (nI a), .ref v, .int (nI b)] μ = some (some (.int (lkS PR KD WD p q n m (fun c d => A μ 16 (24 * c + d)) a b)), ν) ∧ K [17] [] μ ν := by
  have ho := PiV_oc h
  have hn := PV_n h1
  have hm := PV_n h2
  unfold lkS
  by_cases c1 : KD (24 * p + a) = KD (24 * q + b)
  · rw [if_pos c1]
    have fin : ∀ (W D : Int32) (ν : mM), dq (fun c => decide (PR (24 * p + c) = nI a)) (fun d => decide (PR (24 * q + d) = nI b)) (fun c d => A μ 16 (24 * c + d)) n m = D → (∀ W, m_G 41 41 [.ref 15, .ref u, .int (nI a), .ref v, .int (nI b), .int W, m_d] [] μ = m_G 41 81 [.ref 15, .ref u, .int (nI a), .ref v, .int (nI b), .int W, m_d] [.int D] ν) → m_D 41 [.ref 15, .ref u, .int (nI a), .ref v, .int (nI b)] μ = some (some (.int ((if WD (24 * p + a) = WD (24 * q + b) then 2 else 1) + dq (fun c => decide (PR (24 * p + c) = nI a)) (fun d => decide (PR (24 * q + d) = nI b)) (fun c d => A μ 16 (24 * c + d)) n m)), ν) := by
      intro W D ν hD he
      rw [hD]
      by_cases c2 : WD (24 * p + a) = WD (24 * q + b)
      · rw [if_pos c2]
        simp (disch := first | omega | with_reducible assumption) only [D41, i41_0, i41_1, i41_4, i41_5, i41_6, i41_7, i41_10, i41_12, i41_13, i41_16, i41_17, i41_18, i41_19, i41_22, i41_23, i41_24, i41_25, i41_28, i41_30, i41_31, i41_34, i41_35, i41_38, i41_39, P_fkinds h1, P_kinds h1, P_fwords h1, P_words h1, P_fkinds h2, P_kinds h2, P_fwords h2, P_words h2, b_v_s, b_i_s, b_n_s, b_r_s, b_r_n, b_m_s, b_c_s, b_c_v, c1, c2, if_true, he, i41_81, i41_83, i41_85, i41_87, i41_88]
      · rw [if_neg c2]
        simp (disch := first | omega | with_reducible assumption) only [D41, i41_0, i41_1, i41_4, i41_5, i41_6, i41_7, i41_10, i41_12, i41_13, i41_16, i41_17, i41_18, i41_19, i41_22, i41_23, i41_24, i41_25, i41_28, i41_30, i41_31, i41_34, i41_35, i41_38, i41_39, P_fkinds h1, P_kinds h1, P_fwords h1, P_words h1, P_fkinds h2, P_kinds h2, P_fwords h2, P_words h2, b_v_s, b_i_s, b_n_s, b_r_s, b_r_n, b_m_s, b_c_s, b_c_v, c1, c2, if_true, if_false, he, i41_81, i41_83, i41_85, i41_87, i41_88]
    by_cases z1 : inn PR p n a = 0
    · refine ⟨μ, fin 0 0 μ ?_ (fun W => ?_), K.rf μ⟩
      · rw [dq_flat _ _ _ (c' := 0) (d' := m) (inn_z hn z1 n (Nat.le_refl n)) rfl]; rfl
      · simp (disch := first | omega | with_reducible assumption) only [i41_41, i41_42, i41_45, i41_46, i41_47, i41_50, i41_51, i41_54, i41_56, i41_57, i41_60, i41_61, i41_64, i41_65, i41_66, i41_69, i41_70, i41_71, i41_72, i41_75, i41_77, i41_78, P_finner h1, P_inner h1, b_v_s, b_i_s, b_n_s, b_r_s, b_r_n, b_m_s, b_c_s, b_c_v, z1, if_true]
    · by_cases z2 : inn PR q m b = 0
      · refine ⟨μ, fin 0 0 μ ?_ (fun W => ?_), K.rf μ⟩
        · rw [dq_flat _ _ _ (c' := n) (d' := 0) rfl (inn_z hm z2 m (Nat.le_refl m))]; exact dq_0 _ _ _ _
        · simp (disch := first | omega | with_reducible assumption) only [i41_41, i41_42, i41_45, i41_46, i41_47, i41_50, i41_51, i41_54, i41_56, i41_57, i41_60, i41_61, i41_64, i41_65, i41_66, i41_69, i41_70, i41_71, i41_72, i41_75, i41_77, i41_78, P_finner h1, P_inner h1, P_finner h2, P_inner h2, b_v_s, b_i_s, b_n_s, b_r_s, b_r_n, b_m_s, b_c_s, b_c_v, z1, z2, if_true, if_false]
      · obtain ⟨ν, e, s⟩ := C_likeWithin (S1 := inn PR p n a) (S2 := inn PR q m b) h
        rw [dq_inn hn hm] at e
        refine ⟨ν, fin 0 _ ν rfl (fun W => ?_), s⟩
        simp (disch := first | omega | with_reducible assumption) only [i41_41, i41_42, i41_45, i41_46, i41_47, i41_50, i41_51, i41_54, i41_56, i41_57, i41_60, i41_61, i41_64, i41_65, i41_66, i41_69, i41_70, i41_71, i41_72, i41_75, i41_77, i41_78, P_finner h1, P_inner h1, P_finner h2, P_inner h2, b_v_s, b_i_s, b_n_s, b_r_s, b_r_n, b_m_s, b_c_s, b_c_v, z1, z2, if_false, e]
  · rw [if_neg c1]
    refine ⟨μ, ?_, K.rf μ⟩
    simp (disch := first | omega | with_reducible assumption) only [D41, i41_0, i41_1, i41_4, i41_5, i41_6, i41_7, i41_10, i41_12, i41_13, i41_16, i41_17, P_fkinds h1, P_kinds h1, P_fkinds h2, P_kinds h2, b_v_s, b_i_s, b_n_s, b_r_s, b_r_n, b_m_s, b_c_s, b_c_v, c1, if_false]
set_option maxHeartbeats 2000000 in
theorem C_likeOf {p q n m u v : Nat} {PR KD WD : Nat → Int32} (h : PiV μ) (hu : 48 ≤ u) (hv : 48 ≤ v) (h1 : PV μ u p n PR KD WD) (h2 : PV μ v q m PR KD WD) : ∃ ν, m_D 40 [.ref 15, .ref u, .ref v] μ = some (some (.int (lkV PR KD WD p q n m)), ν) ∧ K [16, 17] [] μ ν := by
  have hn := PV_n h1
  have hm := PV_n h2
  have hw := h1.2.2.2.1
  generalize hL : lkN PR KD WD p q n m 24 = L
  obtain ⟨ν1, w1, e1, s1, f1⟩ := loop_dn (fun i ν (v4 : Value) => m_G 40 7 [.ref 15, .ref u, .ref v, .int (nI i - 1), v4] [] ν) (fun i ν => K [16, 17] [] μ ν ∧ ∀ a b, i ≤ a → a < n → b < m → A ν 16 (24 * a + b) = L a b) n (fun i ν v4 hi P => by
    obtain ⟨s, f⟩ := P
    have g2 : PV ν v q m PR KD WD := PV_K h2 s (fun j _ _ _ => by simp; omega) (by simp)
    obtain ⟨ρ, w, e, s', f'⟩ := loop_dn (fun j ρ (_ : Unit) => m_G 40 19 [.ref 15, .ref u, .ref v, .int (nI i), .int (nI j - 1)] [] ρ) (fun j ρ => K [16, 17] [] μ ρ ∧ ∀ a b, (i < a ∨ (a = i ∧ j ≤ b)) → a < n → b < m → A ρ 16 (24 * a + b) = L a b) m (fun j ρ _ hj P => by
      obtain ⟨s, f⟩ := P
      have hρ := PiV_K h s
      have hoρ := PiV_oc hρ
      have k1 : PV ρ u p n PR KD WD := PV_K h1 s (fun j _ _ _ => by simp; omega) (by simp)
      have k2 : PV ρ v q m PR KD WD := PV_K h2 s (fun j _ _ _ => by simp; omega) (by simp)
      have hrec : lkS PR KD WD p q n m (fun c d => A ρ 16 (24 * c + d)) i j = L i j := by
        rw [← hL]
        refine lkN_rec hw hn hi (fun c d h1 h2 h3 => ?_)
        rw [hL]
        exact f c d (Or.inl h1) h2 h3
      have dn : nI j + -1 = nI j - 1 := (Int32.sub_eq_add_neg _ _).symm
      obtain ⟨ξ, e5, s5⟩ := C_likeOfBoxes hρ k1 k2 hi hj
      rw [hrec] at e5
      have hξ := PiV_K hρ s5
      refine ⟨wA ξ 16 (upd (A ξ 16) (24 * i + j) (L i j)), (), ?_, s.tr ((s5.mono (by simp) (by simp)).tr (K_wA hξ.2.1 _ (by simp))), fun a b hab ha hb => ?_⟩
      · try dsimp only
        rw [nI_m1, i40_19]
        simp (disch := first | omega | with_reducible assumption) only [i40_21, i40_24, i40_25, i40_28, i40_29, i40_31, i40_32, i40_34, i40_35, i40_36, i40_37, i40_38, i40_39, i40_41, i40_44, i40_45, i40_48, nI_lt0, if_false, gPi0 hρ, b_v_s, b_i_s, b_n_s, b_r_s, b_r_n, b_m_s, b_c_s, b_c_v, n24, nI_times, nI_plus, Nat.mul_comm i 24, e5, pa_A hξ.2.1, dn]
      · rw [wA_A hξ.2.1, if_pos rfl, upd_at, K_A s5 (by simp)]
        by_cases z : a = i ∧ b = j
        · rw [z.1, z.2, if_pos rfl]
        · rw [if_neg (by omega)]
          exact f a b (by omega) ha hb) ν () ⟨s, fun a b hab ha hb => f a b (by omega) ha hb⟩
    refine ⟨ρ, .int (nI 0 - 1), ?_, s', fun a b hab ha hb => f' a b (by omega) ha hb⟩
    try dsimp only
    rw [nI_m1, i40_7]
    simp (disch := first | omega | with_reducible assumption) only [i40_8, i40_11, i40_12, i40_15, i40_16, i40_17, nI_lt0, if_false, P_size g2, b_v_s, b_i_s, b_n_s, b_r_s, b_r_n, b_m_s, b_c_s, b_c_v]
    refine (show _ = _ from e).trans ?_
    try dsimp only
    rw [i40_19]
    have dn : nI i + -1 = nI i - 1 := (Int32.sub_eq_add_neg _ _).symm
    have lt0 : (nI 0 - 1 < 0) = True := eq_true (by decide)
    simp (disch := first | omega | with_reducible assumption) only [i40_21, i40_51, i40_54, lt0, if_true, dn]) μ m_d ⟨K.rf μ, fun a b h1 h2 => by omega⟩
  have hν := PiV_K h s1
  refine ⟨ν1, ?_, s1⟩
  have lt0 : (nI 0 - 1 < 0) = True := eq_true (by decide)
  have f0 := f1 0 0 (Nat.le_refl 0) h1.2.2.1.1 h2.2.2.1.1
  have g0 : m_ga ν1 16 0 = some (lkV PR KD WD p q n m) := by
    have := ga_A (k := 0) hν.2.1 (by decide) (by decide)
    rw [f0, ← hL] at this
    exact this
  simp (disch := first | omega | with_reducible assumption) only [D40, i40_0, i40_1, i40_4, i40_5, i40_6, P_size h1, b_v_s, b_i_s, b_n_s, b_r_s, b_r_n, b_m_s, b_c_s, b_c_v]
  refine (show _ = _ from e1).trans ?_
  try dsimp only
  rw [i40_7]
  simp (disch := first | omega | with_reducible assumption) only [i40_8, i40_57, i40_58, i40_61, i40_62, i40_63, lt0, if_true, gPi0 hν, b_v_s, b_i_s, b_n_s, b_r_s, b_r_n, b_m_s, b_c_s, b_c_v, g0]
end likeC
