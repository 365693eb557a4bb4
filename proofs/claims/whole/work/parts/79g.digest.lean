/-! the digest -/
theorem FL_wL {μ : mM} {a c k : Nat} {fs : List Value} (h : mF μ a = some (m_ob c fs)) (hl : k < fs.length) (x : Int64) (j i : Nat) : FL (wO μ a k (.long x)) j i = if j = a ∧ i = k then x else FL μ j i := by
  unfold FL
  rw [wO_F h]
  by_cases q : j = a
  · subst q
    rw [if_pos rfl, h]
    dsimp only
    by_cases r : i = k
    · subst r
      rw [List.getElem?_set_self hl, if_pos ⟨rfl, rfl⟩]
    · rw [List.getElem?_set_ne (Ne.symm r), if_neg (fun z => r z.2)]
  · rw [if_neg q, if_neg (fun z => q z.1)]
theorem FI_wL {μ : mM} {a c k : Nat} {fs : List Value} (h : mF μ a = some (m_ob c fs)) {y : Int64} (hy : fs[k]? = some (.long y)) (x : Int64) (j i : Nat) : FI (wO μ a k (.long x)) j i = FI μ j i := by
  unfold FI
  rw [wO_F h]
  by_cases q : j = a
  · subst q
    rw [if_pos rfl, h]
    dsimp only
    by_cases r : i = k
    · subst r
      have hl : i < fs.length := (List.getElem?_eq_some_iff.mp hy).1
      rw [List.getElem?_set_self hl, hy]
    · rw [List.getElem?_set_ne (Ne.symm r)]
  · rw [if_neg q]
theorem K_wL {X : List Nat} {Y : List (Nat × Nat)} {μ : mM} {a c k : Nat} {T : Tm} (h : isO μ a c T) (hk : T[k]? = some (some none)) (x : Int64) (hY : (a, k) ∈ Y) : K X Y μ (wO μ a k (.long x)) := by
  have hl : k < (tm μ a 0 T).length := by rw [tm_len]; exact (List.getElem?_eq_some_iff.mp hk).1
  have hy : (tm μ a 0 T)[k]? = some (.long (FL μ a k)) := by rw [tm_get, hk]; simp [tmv]
  have hL := FL_wL h hl x
  have hF := FI_wL h hy x
  refine ⟨⟨fun j k' n' hj => wO_isA h _ _ hj, fun j c' T' hj => ?_, fun j c' n' hj => ?_, fun j hj => ?_⟩, ⟨by rw [wO_eq h]; rfl, by rw [wO_eq h]; rfl⟩, fun j hj => wO_A h _ _ j, fun j i hji => ⟨hF j i, ?_⟩, wO_RA h _ _⟩
  · unfold isO
    rw [wO_F h]
    by_cases q : j = a
    · subst q
      rw [if_pos rfl]
      have e := h.symm.trans hj
      injection e with e
      injection e with e
      injection e with e
      injection e with e1 e2
      subst e1
      have hk' : T'[k]? = some (some none) := by
        have e3 := congrArg (fun l => l[k]?) e2
        try dsimp only at e3
        rw [hy, tm_get] at e3
        cases hT : T'[k]? with
        | none => rw [hT] at e3; cases e3
        | some u =>
          rw [hT] at e3
          cases u with
          | none => simp [tmv] at e3
          | some u => cases u with
            | none => rfl
            | some u => simp [tmv] at e3
      rw [e2]
      congr 3
      refine List.ext_getElem? fun i => ?_
      rw [tm_get]
      by_cases r : i = k
      · subst r
        rw [List.getElem?_set_self (by rw [← e2]; exact hl), hk', Option.map_some, tmv, Nat.zero_add, hL, if_pos ⟨rfl, rfl⟩]
      · rw [List.getElem?_set_ne (Ne.symm r), tm_get]
        cases hT : T'[i]? with
        | none => rfl
        | some u =>
          rw [Option.map_some, Option.map_some, Nat.zero_add]
          cases u with
          | none => rw [tmv, tmv, hF]
          | some u => cases u with
            | none => rw [tmv, tmv, hL, if_neg (fun z => r z.2)]
            | some u => rfl
    · rw [if_neg q]
      rw [tm_congr (μ := μ) (fun i => hF j i) (fun i => by rw [hL, if_neg (fun z => q z.1)])]
      exact hj
  · unfold isR
    rw [wO_RA h, wO_F h]
    have q : ¬ j = a := fun q => by subst q; have z := hj.symm.trans h; cases z
    rw [if_neg q]; exact hj
  · rw [wO_F h]
    have q : ¬ j = a := fun q => by subst q; have z := hj.symm.trans h; cases z
    rw [if_neg q]; exact hj
  · have q : ¬ (j = a ∧ i = k) := fun q => hji (by rw [q.1, q.2]; exact hY)
    rw [hL, if_neg q]
theorem pL {μ : mM} {a c k : Nat} {T : Tm} (h : isO μ a c T) (hk : T[k]? = some (some none)) (x : Int64) : m_pf μ a c k .long (.long x) = some (wO μ a k (.long x)) := by
  have hl : k < (tm μ a 0 T).length := by rw [tm_len]; exact (List.getElem?_eq_some_iff.mp hk).1
  unfold m_pf
  rw [wO_eq h, h]
  simp [hl, fits, narrow]
/-- one more number is told -/
def tl (h : Int64) (x : Int32) : Int64 := 31 * h + x.toInt64
theorem tl_def (h : Int64) (x : Int32) : 31 * h + x.toInt64 = tl h x := rfl
def dgB (μ : mM) (p : Nat) (h : Int64) : Nat → Int64
  | 0 => h
  | b + 1 => tl (tl (tl (tl (dgB μ p h b) (A μ 21 (24 * p + b))) (A μ 22 (24 * p + b))) (A μ 23 (24 * p + b))) (A μ 24 (24 * p + b))
theorem dgB_st (μ : mM) (p : Nat) (h : Int64) (b : Nat) : dgB μ p h (b + 1) = tl (tl (tl (tl (dgB μ p h b) (A μ 21 (24 * p + b))) (A μ 22 (24 * p + b))) (A μ 23 (24 * p + b))) (A μ 24 (24 * p + b)) := rfl
def dgP (μ : mM) (p : Nat) (h : Int64) : Int64 := tl (tl (dgB μ p h (bnn (A μ 20) p)) (A μ 25 p)) (lkP μ p 0)
def dgPs (μ : mM) : Nat → Int64
  | 0 => 331
  | p + 1 => dgP μ p (dgPs μ p)
def dgRp (μ : mM) (r nl : Nat) (h : Int64) : Nat → Int64
  | 0 => h
  | p + 1 => tl (tl (dgRp μ r nl h p) (giv μ r p (bnn (A μ 20) p) 1)) (brI μ r p nl)
theorem dgRp_st (μ : mM) (r nl : Nat) (h : Int64) (p : Nat) : dgRp μ r nl h (p + 1) = tl (tl (dgRp μ r nl h p) (giv μ r p (bnn (A μ 20) p) 1)) (brI μ r p nl) := rfl
def dgRs (μ : mM) (np nl : Nat) (h : Int64) : Nat → Int64
  | 0 => h
  | r + 1 => dgRp μ r nl (tl (dgRs μ np nl h r) (A μ 31 r)) np
theorem dgRs_st (μ : mM) (np nl : Nat) (h : Int64) (r : Nat) : dgRs μ np nl h (r + 1) = dgRp μ r nl (tl (dgRs μ np nl h r) (A μ 31 r)) np := rfl
def dgLs (μ : mM) (h : Int64) : Nat → Int64
  | 0 => h
  | l + 1 => tl (tl (tl (dgLs μ h l) (A μ 39 l)) (A μ 40 l)) (A μ 41 l)
theorem dgLs_st (μ : mM) (h : Int64) (l : Nat) : dgLs μ h (l + 1) = tl (tl (tl (dgLs μ h l) (A μ 39 l)) (A μ 40 l)) (A μ 41 l) := rfl
def dgSh (sh : Nat → Nat) (h : Int64) : Nat → Int64
  | 0 => h
  | i + 1 => tl (dgSh sh h i) (nI (sh i))
theorem dgSh_st (sh : Nat → Nat) (h : Int64) (i : Nat) : dgSh sh h (i + 1) = tl (dgSh sh h i) (nI (sh i)) := rfl
def dgCt (μ : mM) (np nr nl ns : Nat) (h : Int64) : Nat → Int64
  | 0 => h
  | w + 1 => tl (dgCt μ np nr nl ns h w) (cntV μ np nr nl ns (nI w))
theorem dgCt_st (μ : mM) (np nr nl ns : Nat) (h : Int64) (w : Nat) : dgCt μ np nr nl ns h (w + 1) = tl (dgCt μ np nr nl ns h w) (cntV μ np nr nl ns (nI w)) := rfl
def dgAll (μ : mM) (np nr nl ns : Nat) (sh : Nat → Nat) : Int64 := dgCt μ np nr nl ns (dgSh sh (dgLs μ (dgRs μ np nl (dgPs μ np) nr) nl) ns) 7
/-- the rows that are told stay -/
def Rq (μ ν : mM) : Prop := (A ν 20 = A μ 20 ∧ A ν 21 = A μ 21 ∧ A ν 22 = A μ 22 ∧ A ν 23 = A μ 23 ∧ A ν 24 = A μ 24 ∧ A ν 25 = A μ 25) ∧ (A ν 31 = A μ 31 ∧ A ν 32 = A μ 32 ∧ A ν 33 = A μ 33) ∧ A ν 39 = A μ 39 ∧ A ν 40 = A μ 40 ∧ A ν 41 = A μ 41
theorem K_Rq {X : List Nat} {Y : List (Nat × Nat)} {μ ν : mM} (k : K X Y μ ν) (h : ∀ a ∈ X, a < 20 ∨ 41 < a) : Rq μ ν := by
  have n : ∀ a, 20 ≤ a → a ≤ 41 → A ν a = A μ a := fun a h1 h2 => K_A k (fun z => by have := h a z; omega)
  exact ⟨⟨n 20 (by decide) (by decide), n 21 (by decide) (by decide), n 22 (by decide) (by decide), n 23 (by decide) (by decide), n 24 (by decide) (by decide), n 25 (by decide) (by decide)⟩, ⟨n 31 (by decide) (by decide), n 32 (by decide) (by decide), n 33 (by decide) (by decide)⟩, n 39 (by decide) (by decide), n 40 (by decide) (by decide), n 41 (by decide) (by decide)⟩
section rq
variable {μ ν : mM}
theorem Rq_giv (h : Rq μ ν) (r p n : Nat) (s : Int32) : giv ν r p n s = giv μ r p n s := by
  obtain ⟨⟨a, b, c, d, e, f⟩, ⟨g, i, j⟩, k, l, m⟩ := h
  unfold giv; rw [b, c, d, g, i, j]
theorem Rq_lk (h : Rq μ ν) (p q : Nat) : lkP ν p q = lkP μ p q := by
  obtain ⟨⟨a, b, c, d, e, f⟩, ⟨g, i, j⟩, k, l, m⟩ := h
  unfold lkP; rw [a, b, c, d]
theorem Rq_cnt (h : Rq μ ν) (np nr nl ns : Nat) (w : Int32) : cntV ν np nr nl ns w = cntV μ np nr nl ns w := by
  obtain ⟨⟨a, b, c, d, e, f⟩, ⟨g, i, j⟩, k, l, m⟩ := h
  have : cPg ν w = cPg μ w := by funext p; unfold cPg; rw [a, e]
  unfold cntV; rw [this]
theorem Rq_br (h : Rq μ ν) (r p nl : Nat) : brI ν r p nl = brI μ r p nl := by
  have hg := Rq_giv h
  obtain ⟨⟨a, b, c, d, e, f⟩, ⟨g, i, j⟩, k, l, m⟩ := h
  have hb : ∀ r p n, hbf ν r p n = hbf μ r p n := fun r p n => by funext w; unfold hbf; rw [c, hg]
  have hs : ∀ r p m n x, shP ν r p m n x = shP μ r p m n x := fun r p m n x => by unfold shP; simp only [hb]
  have hh : ∀ x r p m n q, hlw ν x r p m n q = hlw μ x r p m n q := fun x r p y n q => by unfold hlw; rw [hg, hs, c, l, m]
  have hq : ∀ x, fq ν x = fq μ x := fun x => by unfold fq; rw [k]
  unfold brI brO
  rw [a, hg]
  simp only [hh, hq]
theorem Rq_dgB (h : Rq μ ν) (p : Nat) (g : Int64) : ∀ b, dgB ν p g b = dgB μ p g b := by
  intro b
  induction b with
  | zero => rfl
  | succ b ih => rw [dgB, dgB, ih, h.1.2.1, h.1.2.2.1, h.1.2.2.2.1, h.1.2.2.2.2.1]
theorem Rq_dgP (h : Rq μ ν) (p : Nat) (g : Int64) : dgP ν p g = dgP μ p g := by
  unfold dgP
  rw [Rq_dgB h, Rq_lk h, h.1.1, h.1.2.2.2.2.2]
theorem Rq_dgPs (h : Rq μ ν) : ∀ p, dgPs ν p = dgPs μ p := by
  intro p
  induction p with
  | zero => rfl
  | succ p ih => rw [dgPs, dgPs, ih, Rq_dgP h]
theorem Rq_dgRp (h : Rq μ ν) (r nl : Nat) (g : Int64) : ∀ p, dgRp ν r nl g p = dgRp μ r nl g p := by
  intro p
  induction p with
  | zero => rfl
  | succ p ih => rw [dgRp, dgRp, ih, Rq_giv h, Rq_br h, h.1.1]
theorem Rq_dgRs (h : Rq μ ν) (np nl : Nat) (g : Int64) : ∀ r, dgRs ν np nl g r = dgRs μ np nl g r := by
  intro r
  induction r with
  | zero => rfl
  | succ r ih => rw [dgRs, dgRs, ih, Rq_dgRp h, h.2.1.1]
theorem Rq_dgLs (h : Rq μ ν) (g : Int64) : ∀ l, dgLs ν g l = dgLs μ g l := by
  intro l
  induction l with
  | zero => rfl
  | succ l ih => rw [dgLs, dgLs, ih, h.2.2.1, h.2.2.2.1, h.2.2.2.2]
theorem Rq_dgCt (h : Rq μ ν) (np nr nl ns : Nat) (g : Int64) : ∀ w, dgCt ν np nr nl ns g w = dgCt μ np nr nl ns g w := by
  intro w
  induction w with
  | zero => rfl
  | succ w ih => rw [dgCt, dgCt, ih, Rq_cnt h]
theorem Rq_all (h : Rq μ ν) (np nr nl ns : Nat) (sh : Nat → Nat) : dgAll ν np nr nl ns sh = dgAll μ np nr nl ns sh := by
  unfold dgAll
  rw [Rq_dgCt h, Rq_dgLs h, Rq_dgRs h, Rq_dgPs h]
end rq
section digC
variable {C : Nat × (Nat → Int32)} {μ : mM} {np nr nl ns : Nat} {PA QA LA sh : Nat → Nat}
theorem C_likeR {p q : Nat} (I : INV C μ np nr nl ns PA QA LA sh) (hp : p < np) (hq : q < np) : ∃ ν, m_D 86 [.ref 0, .int (nI p), .int (nI q)] μ = some (some (.int (lkP μ p q)), ν) ∧ K [16, 17] [] μ ν ∧ INV C ν np nr nl ns PA QA LA sh := by
  have hC := I_C I
  have hoC := CV_oc hC
  have hoP := gO_oc I.2.1.2.2.2.2.2.1.1
  obtain ⟨ν, e, s, J⟩ := C_lk I hp hq
  refine ⟨ν, ?_, s, J⟩
  simp (disch := first | omega | decide | with_reducible assumption) only [D86, i86_0, i86_1, i86_2, i86_5, i86_5N, i86_6, i86_7, i86_8, i86_11, i86_11N, i86_13, i86_13N, i86_14, i86_14N, i86_17, i86_17N, i86_19, i86_19N, i86_22, i86_24, i86_25, i86_26, i86_29, i86_29N, i86_30, i86_30N, i86_32, i86_35, C_pageAt I hp, C_pageAt I hq, gC13 hC, e, b_v_s, b_i_s, b_n_s, b_r_s, b_r_n, b_m_s, b_c_s, b_c_v]
theorem C_givesR {r p : Nat} (I : INV C μ np nr nl ns PA QA LA sh) (hr : r < nr) (hp : p < np) : m_D 72 [.ref 0, .int (nI r), .int (nI p)] μ = some (some (.int (giv μ r p (bnn (A μ 20) p) 1)), μ) := by
  have hoC := CV_oc (I_C I)
  have hor := (I_ru I hr).2.2.2
  simp (disch := first | omega | decide | with_reducible assumption) only [D72, i72_0, i72_1, i72_2, i72_5, i72_5N, i72_6, i72_7, i72_8, i72_11, i72_11N, i72_13, i72_13N, i72_14, i72_14N, i72_17, i72_17N, i72_19, i72_19N, i72_22, i72_24, i72_25, i72_25N, i72_26, i72_26N, i72_28, i72_29, i72_32, C_ruleAt I hr, C_pageAt I hp, C_dr1 I hr hp, b_v_s, b_i_s, b_n_s, b_r_s, b_r_n, b_m_s, b_c_s, b_c_v]
set_option maxHeartbeats 2000000 in
theorem C_digestPage {p : Nat} {h : Int64} (I : INV C μ np nr nl ns PA QA LA sh) (hp : p < np) : ∃ ν, m_D 95 [.ref 0, .long h, .ref (PA p)] μ = some (some (.long (dgP μ p h)), ν) ∧ K [16, 17] [] μ ν ∧ INV C ν np nr nl ns PA QA LA sh := by
  have hC := I_C I
  have hoC := CV_oc hC
  have hoL := gO_oc I.2.1.2.2.2.2.2.1.1
  obtain ⟨h8, hb, h1, h24, hw, hww, hv, hPA⟩ := I_pg I hp
  have V := I_V I
  obtain ⟨g1, g2, g3, g4⟩ := V.2.2 p hp
  have hoP := P_oc hv
  have gr : m_gr μ 2 (nI 0) = some (some (PA 0)) := by rw [gR V.2.1 (by omega) (by decide), (V.2.2 0 (by omega)).1]
  rw [show nI 0 = (0 : Int32) from rfl] at gr
  obtain ⟨ν, w, e, s⟩ := loop_inv (fun b ν (_ : Unit) => m_G 95 6 [.ref 0, .long h, m_d, .ref (PA p), .long (dgB μ p h b), m_d, .int (nI b)] [] ν) (fun b ν => ν = μ) (bnn (A μ 20) p) (fun b ν _ hbn P => by
    subst P
    refine ⟨_, (), ?_, rfl⟩
    try dsimp only
    rw [i95_6]
    simp (disch := first | omega | decide | with_reducible assumption) only [i95_8, i95_9, i95_12, i95_15, i95_18, i95_20, i95_21, i95_22, i95_25, i95_27, i95_28, i95_29, i95_30, i95_32, i95_35, i95_37, i95_38, i95_39, i95_42, i95_44, i95_45, i95_46, i95_47, i95_49, i95_52, i95_54, i95_55, i95_56, i95_59, i95_61, i95_62, i95_63, i95_64, i95_66, i95_69, i95_71, i95_72, i95_73, i95_75, i95_78, i95_79, i95_80, i95_82, i95_85, P_size hv, P_fkinds hv, P_kinds hv, P_fwords hv, P_words hv, P_fparents hv, P_parents hv, lt_t, C_markOf hv g3 hbn, tl_def, b_v_s, b_i_s, b_n_s, b_r_s, b_r_n, b_m_s, b_c_s, b_c_v, if_true, nI_add1, dgB_st]) μ () rfl
  obtain ⟨ξ, e2, s2, J⟩ := C_lk I hp (show 0 < np by omega)
  refine ⟨ξ, ?_, s2, J⟩
  subst s
  obtain ⟨q1, q2, q3, q4, q5⟩ := g3
  simp (disch := first | omega | decide | with_reducible assumption) only [D95, i95_0, i95_1, i95_3, i95_4]
  refine (show _ = _ from e).trans ?_
  try dsimp only
  rw [i95_6]
  unfold dgP
  rcases q4 with w0 | w1
  · rw [w0] at q3
    rw [w0]
    simp (disch := first | omega | decide | with_reducible assumption) only [i95_8, i95_9, i95_12, i95_88, i95_91, i95_93, i95_94, i95_95, i95_98, i95_101, i95_102, i95_105, i95_106, i95_107, i95_108, i95_110, i95_113, i95_115, i95_116, i95_117, i95_120, i95_121, i95_122, i95_125, i95_126, i95_127, i95_130, i95_131, i95_132, P_size hv, P_fisWhole hv, lt_f, q3, gC13 hC, gC2 hC, gr, e2, tl_def, b_v_s, b_i_s, b_n_s, b_r_s, b_r_n, b_m_s, b_c_s, b_c_v, if_true, if_false]
  · rw [w1] at q3
    rw [w1]
    simp (disch := first | omega | decide | with_reducible assumption) only [i95_8, i95_9, i95_12, i95_88, i95_91, i95_93, i95_94, i95_95, i95_98, i95_101, i95_102, i95_105, i95_106, i95_107, i95_108, i95_110, i95_113, i95_115, i95_116, i95_117, i95_120, i95_121, i95_122, i95_125, i95_126, i95_127, i95_130, i95_131, i95_132, P_size hv, P_fisWhole hv, lt_f, q3, gC13 hC, gC2 hC, gr, e2, ne10, tl_def, b_v_s, b_i_s, b_n_s, b_r_s, b_r_n, b_m_s, b_c_s, b_c_v, if_true, if_false]
end digC
