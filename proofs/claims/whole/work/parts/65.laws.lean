/-! the class: laws -/
def TLw : Tm := [none, none, none]
def LV (μ : mM) (l q : Nat) (X Y : Int32) : Prop := isO μ l 1 TLw ∧ FI μ l 0 = nI q ∧ FI μ l 1 = X ∧ FI μ l 2 = Y ∧ q ≤ 3
theorem inL_b (v X Y : Int32) : inL v X Y = (decide (¬ v < X) && decide (¬ Y < v)) := by
  unfold inL
  rw [toInt_i2l, toInt_i2l, toInt_i2l]
  congr 1
  · congr 1; rw [Int32.lt_iff_toInt_lt]; exact propext ⟨fun h => by omega, fun h => by omega⟩
  · congr 1; rw [Int32.lt_iff_toInt_lt]; exact propext ⟨fun h => by omega, fun h => by omega⟩
def klw (q : Nat) (X Y : Int32) (p m n : Nat) (G B : Int32) (WD : Nat → Int32) : Bool :=
  if q = 0 then inL (nI (cnt (bt G) 24)) X Y
  else if q = 3 then (decide (p = 0) || shr X (cnt (fun w => decide (0 < oft WD (p - 1) B m w) && decide (0 < oft WD p G n w)) 100) (cnt (fun w => decide (0 < oft WD (p - 1) B m w)) 100))
  else alB (lwP q (oft WD p G n) X Y) 100
theorem hlw_klw {μ : mM} {l r p m n q : Nat} : hlw μ l r p m n q = klw q (A μ 40 l) (A μ 41 l) p m n (giv μ r p n 1) (giv μ r (p - 1) m 1) (A μ 22) := by
  unfold hlw klw
  by_cases q0 : q = 0
  · rw [if_pos q0, if_pos q0]
  · rw [if_neg q0, if_neg q0]
    by_cases q3 : q = 3
    · rw [if_pos q3, if_pos q3]
      cases p with
      | zero => simp
      | succ p => rfl
    · rw [if_neg q3, if_neg q3]
section claws
variable {μ : mM} {l q p n m a u : Nat} {X Y : Int32} {PR KD WD : Nat → Int32}
theorem LV_f0 (h : LV μ l q X Y) : m_gf μ l 1 0 = some (.int (nI q)) := by rw [gO (e := none) h.1 rfl, tmv, h.2.1]
theorem LV_f1 (h : LV μ l q X Y) : m_gf μ l 1 1 = some (.int X) := by rw [gO (e := none) h.1 rfl, tmv, h.2.2.1]
theorem LV_f2 (h : LV μ l q X Y) : m_gf μ l 1 2 = some (.int Y) := by rw [gO (e := none) h.1 rfl, tmv, h.2.2.2.1]
theorem LV_oc (h : LV μ l q X Y) : m_oc μ l = some 1 := gO_oc h.1
theorem C_isBetween {v : Int32} (h : LV μ l q X Y) : m_D 9 [.ref l, .int v] μ = some (some (.int (bI (inL v X Y))), μ) := by
  rw [inL_b]
  by_cases c1 : v < X <;> by_cases c2 : Y < v <;> (simp (disch := first | omega | decide) only [D9, i9_0, i9_1, i9_2, i9_5, i9_8, i9_9, i9_10, i9_13, i9_16, i9_17, i9_20, i9_21, LV_f1 h, LV_f2 h, b_v_s, b_i_s, b_n_s, b_r_s, b_r_n, b_m_s, b_c_s, b_c_v, c1, c2, if_true, if_false, not_true, not_false_eq_true, decide_true, decide_false, Bool.false_and, Bool.and_false, Bool.and_self, bI_t, bI_f])
theorem C_wordsAreBetween {s : Int32} (h : LV μ l q X Y) (hp : PV μ a p n PR KD WD) : m_D 10 [.ref l, .ref a, .int s] μ = some (some (.int (bI (fst (fun b => bt (s &&& mk (wordM WD p) n) b && !(inL (WD (24 * p + b)) X Y)) n 0).isNone)), μ) := by
  have hn := PV_n hp
  have ho := LV_oc h
  have L := loop_ret (fun i => m_G 10 2 [.ref l, .ref a, .int s, .int (nI i)] [] μ) (fun b => bt (s &&& mk (wordM WD p) n) b && !(inL (WD (24 * p + b)) X Y)) (fun _ => some (some (.int 0), μ)) (some (some (.int 1), μ)) n (fun i hi => by
    try dsimp only
    rw [i10_2]
    cases hb : bt (s &&& mk (wordM WD p) n) i with
    | false => simp (disch := first | omega | with_reducible assumption) only [i10_3, i10_4, i10_7, i10_10, i10_11, i10_12, i10_15, i10_16, i10_17, i10_20, i10_23, i10_24, i10_25, i10_28, i10_29, i10_30, i10_33, i10_36, i10_37, i10_38, i10_41, P_size hp, P_worded hp, b_v_s, b_i_s, b_n_s, b_r_s, b_r_n, b_m_s, b_c_s, b_c_v, lt_t, if_true, E_isIn, bI_0, hb, nI_add1, Bool.false_and, Bool.false_eq_true, if_false]
    | true =>
      have hib := C_isBetween (v := WD (24 * p + i)) h
      cases hq : inL (WD (24 * p + i)) X Y with
      | false =>
        rw [hq] at hib
        simp (disch := first | omega | decide | with_reducible assumption) only [i10_3, i10_4, i10_7, i10_10, i10_11, i10_12, i10_15, i10_16, i10_17, i10_20, i10_23, i10_24, i10_25, i10_28, i10_29, i10_30, i10_33, i10_36, i10_37, i10_38, i10_41, P_size hp, P_worded hp, P_fwords hp, P_words hp, b_v_s, b_i_s, b_n_s, b_r_s, b_r_n, b_m_s, b_c_s, b_c_v, lt_t, if_true, E_isIn, bI_0, hb, hib, nI_add1, Bool.true_eq_false, if_false, Bool.not_false, Bool.and_self]
      | true =>
        rw [hq] at hib
        simp (disch := first | omega | with_reducible assumption) only [i10_3, i10_4, i10_7, i10_10, i10_11, i10_12, i10_15, i10_16, i10_17, i10_20, i10_23, i10_24, i10_25, i10_28, i10_29, i10_30, i10_33, i10_36, i10_37, i10_38, i10_41, P_size hp, P_worded hp, P_fwords hp, P_words hp, b_v_s, b_i_s, b_n_s, b_r_s, b_r_n, b_m_s, b_c_s, b_c_v, lt_t, if_true, E_isIn, bI_0, hb, hib, nI_add1, Bool.true_eq_false, if_false, Bool.not_true, Bool.and_false, Bool.false_eq_true]) (by
    try dsimp only
    rw [i10_2]
    simp (disch := first | omega | decide | with_reducible assumption) only [i10_3, i10_4, i10_7, i10_44, i10_45, P_size hp, b_v_s, b_i_s, b_n_s, b_r_s, b_r_n, b_m_s, b_c_s, b_c_v, lt_f, if_false])
  simp only [D10, i10_0, i10_1, n0]
  refine (show _ = _ from L).trans ?_
  cases fst (fun b => bt (s &&& mk (wordM WD p) n) b && !(inL (WD (24 * p + b)) X Y)) n 0 <;> rfl
/-- bitCount of a set of boxes -/
theorem C_bc {s : Int32} (h : ∀ i, bt s i = true → i < 24) : m_D 169 [.int s] μ = some (some (.int (nI (cnt (bt s) 24))), μ) := by rw [E_bitCount, cnt_hi h]
theorem shared_cnt {p p' n n' : Nat} {WD : Nat → Int32} {s s' : Int32} (hw : WW WD p n) (hn : n ≤ 24) (hn' : n' ≤ 24) : cnt (bt (mk (fun b => bt (ulw WD p n s &&& mk (wordM WD p) n) b && hsw WD p' n' s' (WD (24 * p + b))) n)) 24 = cnt (fun w => decide (0 < oft WD p s n w) && decide (0 < oft WD p' s' n' w)) 100 := by
  rw [← cntW hw hn (fun w => decide (0 < oft WD p' s' n' w))]
  refine cnt_congr fun i hi => bool_ext ?_
  rw [b_mk _ (by omega), Bool.and_eq_true, Bool.and_eq_true, Bool.and_eq_true, decide_eq_true_eq, b_sw hn]
  constructor
  · rintro ⟨h1, ⟨h2, h3, h4⟩, h5⟩
    have a := ulw_wd hw hn h2
    rw [a.2.1, hsw_iff hn' a.1] at h5
    exact ⟨h2, h5⟩
  · rintro ⟨h2, h5⟩
    have a := ulw_wd hw hn h2
    have := ulw_lt hn h2
    refine ⟨this, ⟨h2, this, a.2.2.1⟩, ?_⟩
    rw [a.2.1, hsw_iff hn' a.1]
    exact h5
theorem ulw_cnt {p n : Nat} {WD : Nat → Int32} {s : Int32} (hw : WW WD p n) (hn : n ≤ 24) : cnt (bt (ulw WD p n s)) 24 = cnt (fun w => decide (0 < oft WD p s n w)) 100 := by
  have := cntW (s := s) hw hn (fun _ => true)
  simp only [Bool.and_true] at this
  exact this
theorem mk_lt {P : Nat → Bool} {n : Nat} (hn : n ≤ 24) : ∀ i, bt (mk P n) i = true → i < 24 := fun i h => by
  rw [b_mk _ (by omega), Bool.and_eq_true, decide_eq_true_eq] at h
  omega
theorem C_isAsBefore {G B : Int32} {p' : Nat} (h : LV μ l q X Y) (hp : PV μ a p n PR KD WD) (hu : PV μ u p' m PR KD WD) : m_D 11 [.ref l, .ref a, .int G, .ref u, .int B] μ = some (some (.int (bI (shr X (cnt (fun w => decide (0 < oft WD p' B m w) && decide (0 < oft WD p G n w)) 100) (cnt (fun w => decide (0 < oft WD p' B m w)) 100)))), μ) := by
  have hn := PV_n hp
  have hm := PV_n hu
  have hoa := P_oc hp
  have hou := P_oc hu
  have hww := hu.2.2.2.2.1
  have e1 := C_unlikeWords (s := B) hu
  have e2 := C_sharedWords (s := ulw WD p' m B) (s' := G) hu hp
  have e3 := C_bc (μ := μ) (s := ulw WD p' m B) (fun i hi => by have := ulw_lt hm hi; omega)
  have e4 := C_bc (μ := μ) (s := mk (fun b => bt (ulw WD p' m B &&& mk (wordM WD p') m) b && hsw WD p n G (WD (24 * p' + b))) m) (mk_lt hm)
  rw [ulw_cnt hww hm] at e3
  rw [shared_cnt hww hm hn] at e4
  generalize cnt (fun w => decide (0 < oft WD p' B m w) && decide (0 < oft WD p G n w)) 100 = U at *
  generalize cnt (fun w => decide (0 < oft WD p' B m w)) 100 = W at *
  unfold shr
  have hc : nI U * 100 = nI 100 * nI U := Int32.mul_comm _ _
  by_cases c : nI 100 * nI U < X * nI W
  · rw [decide_eq_false (fun z => z c), bI_f]
    simp (disch := first | omega | decide | with_reducible assumption) only [D11, i11_0, i11_1, i11_3, i11_6, i11_8, i11_9, i11_11, i11_12, i11_13, i11_16, i11_18, i11_20, i11_23, i11_25, i11_26, i11_27, i11_30, i11_32, i11_35, i11_36, i11_39, i11_40, i11_43, i11_44, e1, e2, e3, e4, b_v_s, b_i_s, b_n_s, b_r_s, b_r_n, b_m_s, b_c_s, b_c_v, LV_f1 h, hc, c, if_true]
  · rw [decide_eq_true c, bI_t]
    simp (disch := first | omega | decide | with_reducible assumption) only [D11, i11_0, i11_1, i11_3, i11_6, i11_8, i11_9, i11_11, i11_12, i11_13, i11_16, i11_18, i11_20, i11_23, i11_25, i11_26, i11_27, i11_30, i11_32, i11_35, i11_36, i11_39, i11_40, i11_43, i11_44, e1, e2, e3, e4, b_v_s, b_i_s, b_n_s, b_r_s, b_r_n, b_m_s, b_c_s, b_c_v, LV_f1 h, hc, c, if_false]
theorem C_isKept {G B : Int32} (h : LV μ l q X Y) (hp : PV μ a p n PR KD WD) (hG : ∀ i, bt G i = true → i < 24) (v : Value) (hv : (p = 0 ∧ v = .null) ∨ (0 < p ∧ v = .ref u ∧ PV μ u (p - 1) m PR KD WD)) : m_D 8 [.ref l, .ref a, .int G, v, .int B] μ = some (some (.int (bI (klw q X Y p m n G B WD))), μ) := by
  have hn := PV_n hp
  have hol := LV_oc h
  have hoa := P_oc hp
  have hww := hp.2.2.2.2.1
  have hq3 := h.2.2.2.2
  have eD : m_D 8 [.ref l, .ref a, .int G, v, .int B] μ = m_G 8 0 [.ref l, .ref a, .int G, v, .int B] [] μ := by
    rcases hv with ⟨_, rfl⟩ | ⟨_, rfl, _⟩
    · first | exact D8N | exact d_def (by decide) rfl
    · first | exact D8 | exact d_def (by decide) rfl
  rw [eD]
  unfold klw
  rcases (show q = 0 ∨ q = 1 ∨ q = 2 ∨ q = 3 by omega) with rfl | rfl | rfl | rfl
  · rw [if_pos rfl]
    have e1 := C_bc (μ := μ) hG
    have e2 := C_isBetween (v := nI (cnt (bt G) 24)) h
    have f0 : m_gf μ l 1 0 = some (.int 0) := LV_f0 h
    simp (disch := first | omega | exact bI_and _ | decide | with_reducible assumption) only [i8_0, i8_1, i8_4_0, i8_4_1, i8_4_2, i8_4_d, i8_32, i8_33, i8_34, i8_37, i8_40, f0, b_v_s, b_i_s, b_n_s, b_r_s, b_r_n, b_m_s, b_c_s, b_c_v, e1, e2]
  · rw [if_neg (by decide), if_neg (by decide)]
    have e2 := C_wordsAreBetween (s := G) h hp
    have f0 : m_gf μ l 1 0 = some (.int 1) := LV_f0 h
    have e3 : alB (lwP 1 (oft WD p G n) X Y) 100 = alB (fun w => decide (oft WD p G n w = 0) || inL (nI w) X Y) 100 := rfl
    rw [e3, between_eq hww hn (fun w => inL w X Y)]
    simp (disch := first | omega | exact bI_and _ | decide | with_reducible assumption) only [i8_0, i8_1, i8_4_0, i8_4_1, i8_4_2, i8_4_d, i8_32, i8_33, i8_34, i8_37, i8_40, i8_41, i8_42, i8_42N, i8_43, i8_44, i8_47, f0, b_v_s, b_i_s, b_n_s, b_r_s, b_r_n, b_m_s, b_c_s, b_c_v, e2]
  · rw [if_neg (by decide), if_neg (by decide)]
    have f0 : m_gf μ l 1 0 = some (.int 2) := LV_f0 h
    have e1 := C_bc (μ := μ) (s := G &&& mk (wordM WD p) n) (fun i hi => by have := ((b_sw hn G i).mp hi).2.1; omega)
    have e2 := C_unlikeWords (s := G) hp
    have e3 := C_bc (μ := μ) (s := ulw WD p n G) (fun i hi => by have := ulw_lt hn hi; omega)
    have iff := unlike_iff (s := G) hww hn
    have l1 := cnt_le (bt (G &&& mk (wordM WD p) n)) 24
    have l2 := cnt_le (bt (ulw WD p n G)) 24
    have e4 : alB (lwP 2 (oft WD p G n) X Y) 100 = alB (fun w => decide (oft WD p G n w < 2)) 100 := rfl
    rw [e4]
    generalize cnt (bt (G &&& mk (wordM WD p) n)) 24 = U at *
    generalize cnt (bt (ulw WD p n G)) 24 = W at *
    cases hA : alB (fun w => decide (oft WD p G n w < 2)) 100 with
    | true =>
      have : U = W := iff.mpr hA
      subst this
      rw [bI_t]
      simp (disch := first | omega | decide | with_reducible assumption) only [i8_0, i8_1, i8_4_0, i8_4_1, i8_4_2, i8_4_d, i8_48, i8_49, i8_49N, i8_50, i8_53, i8_54, i8_57, i8_57N, i8_58, i8_59, i8_62, i8_65, i8_68, i8_69, i8_72, i8_73, f0, b_v_s, b_i_s, b_n_s, b_r_s, b_r_n, b_m_s, b_c_s, b_c_v, P_worded hp, e1, e2, e3, if_true]
    | false =>
      have : U ≠ W := fun z => by rw [iff.mp z] at hA; cases hA
      rw [bI_f]
      simp (disch := first | omega | decide | with_reducible assumption) only [i8_0, i8_1, i8_4_0, i8_4_1, i8_4_2, i8_4_d, i8_48, i8_49, i8_49N, i8_50, i8_53, i8_54, i8_57, i8_57N, i8_58, i8_59, i8_62, i8_65, i8_68, i8_69, i8_72, i8_73, f0, b_v_s, b_i_s, b_n_s, b_r_s, b_r_n, b_m_s, b_c_s, b_c_v, P_worded hp, e1, e2, e3, eq_f, if_false]
  · rw [if_neg (by decide), if_pos rfl]
    have f0 : m_gf μ l 1 0 = some (.int (nI 3)) := LV_f0 h
    have td : (nI 3).toInt < 0 ∨ 2 < (nI 3).toInt := Or.inr (by decide)
    rcases hv with ⟨rfl, rfl⟩ | ⟨hp0, rfl, hu⟩
    · rw [decide_eq_true rfl, Bool.true_or, bI_t]
      simp (disch := first | omega | exact td | decide | with_reducible assumption) only [i8_0, i8_1, i8_4_d, i8_74, i8_74N, i8_75, i8_75N, i8_78, i8_79, i8_79N, i8_80, i8_81, i8_81N, i8_82, i8_84, i8_87, i8_90, i8_91, i8_94, i8_95, f0, b_v_s, b_i_s, b_n_s, b_r_s, b_r_n, b_m_s, b_c_s, b_c_v]
    · rw [decide_eq_false (by omega), Bool.false_or]
      have e := C_isAsBefore (G := G) (B := B) h hp hu
      cases hS : shr X (cnt (fun w => decide (0 < oft WD (p - 1) B m w) && decide (0 < oft WD p G n w)) 100) (cnt (fun w => decide (0 < oft WD (p - 1) B m w)) 100) with
      | false =>
        rw [hS] at e
        rw [bI_f] at e ⊢
        simp (disch := first | omega | exact td | decide | with_reducible assumption) only [i8_0, i8_1, i8_4_d, i8_74, i8_74N, i8_75, i8_75N, i8_78, i8_79, i8_79N, i8_80, i8_81, i8_81N, i8_82, i8_84, i8_87, i8_90, i8_91, i8_94, i8_95, f0, b_v_s, b_i_s, b_n_s, b_r_s, b_r_n, b_m_s, b_c_s, b_c_v, e, if_true]
      | true =>
        rw [hS] at e
        rw [bI_t] at e ⊢
        simp (disch := first | omega | exact td | decide | with_reducible assumption) only [i8_0, i8_1, i8_4_d, i8_74, i8_74N, i8_75, i8_75N, i8_78, i8_79, i8_79N, i8_80, i8_81, i8_81N, i8_82, i8_84, i8_87, i8_90, i8_91, i8_94, i8_95, f0, b_v_s, b_i_s, b_n_s, b_r_s, b_r_n, b_m_s, b_c_s, b_c_v, e, ne10, if_false]
end claws
