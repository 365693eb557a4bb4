/-! memory that grows: new cells behind the old ones -/
def ext (μ : mM) (s : Nat) (es : List mE) : mM := ((mN μ + es.length, mS μ + s), μ.2.1, fun a => if a < mN μ then mF μ a else es[a - mN μ]?)
def NA (μ : mM) : Prop := ∀ a, mN μ ≤ a → mF μ a = none
theorem ext_N (μ : mM) (s : Nat) (es : List mE) : mN (ext μ s es) = mN μ + es.length := rfl
theorem ext_S (μ : mM) (s : Nat) (es : List mE) : mS (ext μ s es) = mS μ + s := rfl
theorem ext_C (μ : mM) (s : Nat) (es : List mE) : (ext μ s es).2.1 = μ.2.1 := rfl
theorem ext_F (μ : mM) (s : Nat) (es : List mE) (a : Nat) : mF (ext μ s es) a = if a < mN μ then mF μ a else es[a - mN μ]? := rfl
theorem ext_old {μ : mM} {s : Nat} {es : List mE} {a : Nat} (h : a < mN μ) : mF (ext μ s es) a = mF μ a := by rw [ext_F, if_pos h]
theorem ext_at (μ : mM) (s : Nat) (es : List mE) (j : Nat) : mF (ext μ s es) (mN μ + j) = es[j]? := by
  rw [ext_F, if_neg (by omega), show mN μ + j - mN μ = j by omega]
theorem ext_at0 (μ : mM) (s : Nat) (es : List mE) : mF (ext μ s es) (mN μ) = es[0]? := ext_at μ s es 0
theorem mM_ext {μ ν : mM} (h1 : mN μ = mN ν) (h2 : mS μ = mS ν) (h3 : μ.2.1 = ν.2.1) (h4 : ∀ a, mF μ a = mF ν a) : μ = ν := by
  obtain ⟨⟨a, b⟩, c, d⟩ := μ
  obtain ⟨⟨a', b'⟩, c', d'⟩ := ν
  have h5 : d = d' := funext h4
  have h1' : a = a' := h1
  have h2' : b = b' := h2
  have h3' : c = c' := h3
  subst h1' h2' h3' h5
  rfl
theorem NA_ext (μ : mM) (s : Nat) (es : List mE) : NA (ext μ s es) := fun a ha => by
  rw [ext_N] at ha
  rw [ext_F, if_neg (by omega), List.getElem?_eq_none (by omega)]
theorem new_ext {μ : mM} (h : NA μ) (k : Nat) (e : mE) : m_new μ k e = ext μ k [e] := by
  refine mM_ext rfl rfl rfl fun a => ?_
  rw [m_new_F, ext_F]
  by_cases q : a = mN μ
  · subst q; rw [if_pos rfl, if_neg (by omega), Nat.sub_self]; rfl
  · rw [if_neg q]
    by_cases r : a < mN μ
    · rw [if_pos r]
    · rw [if_neg r, h a (by omega), List.getElem?_eq_none (by simp; omega)]
theorem ext_new (μ : mM) (s : Nat) (es : List mE) (k : Nat) (e : mE) : m_new (ext μ s es) k e = ext μ (s + k) (es ++ [e]) := by
  refine mM_ext (by rw [m_new_N, ext_N, ext_N, List.length_append]; rfl) (by rw [m_new_S, ext_S, ext_S]; omega) rfl fun a => ?_
  rw [m_new_F, ext_F, ext_F, ext_N]
  by_cases q : a = mN μ + es.length
  · subst q
    rw [if_pos rfl, if_neg (by omega), show mN μ + es.length - mN μ = es.length by omega, List.getElem?_append_right (Nat.le_refl _), Nat.sub_self]; rfl
  · rw [if_neg q]
    by_cases r : a < mN μ
    · rw [if_pos r, if_pos r]
    · rw [if_neg r, if_neg r]
      by_cases t : a - mN μ < es.length
      · rw [List.getElem?_append_left t]
      · rw [List.getElem?_eq_none (by omega), List.getElem?_eq_none (by rw [List.length_append, List.length_singleton]; omega)]
theorem ext_set (μ : mM) (s : Nat) (es : List mE) {j : Nat} (hj : j < es.length) (e : mE) : m_set (ext μ s es) (mN μ + j) e = ext μ s (es.set j e) := by
  refine mM_ext (by rw [ext_N, List.length_set]; rfl) rfl rfl fun a => ?_
  rw [m_set_F, ext_F, ext_F]
  by_cases q : a = mN μ + j
  · subst q
    rw [if_pos rfl, if_neg (by omega), show mN μ + j - mN μ = j by omega, List.getElem?_set_self hj]
  · rw [if_neg q]
    by_cases r : a < mN μ
    · rw [if_pos r, if_pos r]
    · rw [if_neg r, if_neg r, List.getElem?_set_ne (by omega)]
theorem ext_seto {μ : mM} (s : Nat) (es : List mE) {a : Nat} (ha : a < mN μ) (e : mE) : m_set (ext μ s es) a e = ext (m_set μ a e) s es := by
  refine mM_ext rfl rfl rfl fun b => ?_
  rw [m_set_F, ext_F, ext_F]
  rw [show mN (m_set μ a e) = mN μ from rfl, m_set_F]
  by_cases q : b = a
  · subst q; rw [if_pos rfl, if_pos ha, if_pos rfl]
  · rw [if_neg q, if_neg q]
theorem gf_ext {μ : mM} {s : Nat} {es : List mE} {j c : Nat} {fs : List Value} (h : es[j]? = some (m_ob c fs)) (k : Nat) : m_gf (ext μ s es) (mN μ + j) c k = fs[k]? := gf_ok ((ext_at μ s es j).trans h)
theorem gf_ext0 {μ : mM} {s : Nat} {es : List mE} {c : Nat} {fs : List Value} (h : es[0]? = some (m_ob c fs)) (k : Nat) : m_gf (ext μ s es) (mN μ) c k = fs[k]? := gf_ok ((ext_at0 μ s es).trans h)
theorem gf_old {μ : mM} {s : Nat} {es : List mE} {a : Nat} (h : a < mN μ) (c k : Nat) : m_gf (ext μ s es) a c k = m_gf μ a c k := by unfold m_gf; rw [ext_old h]
theorem pf_ext {μ : mM} {s : Nat} {es : List mE} {j c k : Nat} {fs : List Value} {ty : FieldType} {v : Value} (h : es[j]? = some (m_ob c fs)) (hk : k < fs.length) (hf : fits ty v = true) (hn : narrow ty v = v) : m_pf (ext μ s es) (mN μ + j) c k ty v = some (ext μ s (es.set j (m_ob c (fs.set k v)))) := by
  unfold m_pf
  rw [ext_at, h]
  dsimp only
  rw [if_pos ⟨rfl, hk, hf, hn⟩, ext_set μ s es (List.getElem?_eq_some_iff.mp h).1]
theorem pf_ext0 {μ : mM} {s : Nat} {es : List mE} {c k : Nat} {fs : List Value} {ty : FieldType} {v : Value} (h : es[0]? = some (m_ob c fs)) (hk : k < fs.length) (hf : fits ty v = true) (hn : narrow ty v = v) : m_pf (ext μ s es) (mN μ) c k ty v = some (ext μ s (es.set 0 (m_ob c (fs.set k v)))) := pf_ext (j := 0) h hk hf hn
theorem oc_ext0 {μ : mM} {s : Nat} {es : List mE} {c : Nat} {fs : List Value} (h : es[0]? = some (m_ob c fs)) : m_oc (ext μ s es) (mN μ) = some c := oc_ok ((ext_at0 μ s es).trans h)
/-- a new object is set into an old row of them -/
def wR (μ : mM) (a i v : Nat) : mM := match mF μ a with
  | some (.inr (.inl q)) => m_set μ a (m_ra q.1 q.2.1 (va_up q.2.2 i (some v)))
  | _ => μ
theorem wR_eq {μ : mM} {a c n : Nat} (h : isR μ a c n) (i v : Nat) : wR μ a i v = m_set μ a (m_ra c n (va_up (RA μ a) i (some v))) := by unfold wR; rw [h]
theorem pr_ext {μ : mM} {s : Nat} {es : List mE} {a c n i : Nat} {fs : List Value} (hR : isR μ a c n) (ha : a < mN μ) (h : es[0]? = some (m_ob c fs)) (hi : i < n) (hn : n ≤ 100000) : m_pr (ext μ s es) a (nI i) (mN μ) = some (ext (wR μ a i (mN μ)) s es) := by
  unfold m_pr
  have h1 : (nI i).toNatClampNeg = i := nI_clamp (by omega)
  have h2 : m_ix (nI i) n = true := by
    unfold m_ix
    rw [h1, Bool.and_eq_true, decide_eq_true_eq, decide_eq_true_eq]
    exact ⟨nI_pos' (by omega), hi⟩
  rw [ext_old ha, ext_at0, h, hR]
  dsimp only
  rw [if_pos ⟨rfl, h2⟩, h1, ext_seto s es ha, wR_eq hR]
/-- old cells but X, Y and R are as they were, and there may be more of them -/
def KZ (X : List Nat) (Y R : List (Nat × Nat)) (μ ν : mM) : Prop := ((∀ a k n, isA μ a k n → isA ν a k n) ∧ (∀ a c T, isO μ a c T → isO ν a c T) ∧ ∀ a c n, isR μ a c n → isR ν a c n) ∧ ν.2.1 = μ.2.1 ∧ (∀ a, a < mN μ → a ∉ X → A ν a = A μ a) ∧ (∀ a k, a < mN μ → (a, k) ∉ Y → FI ν a k = FI μ a k ∧ FL ν a k = FL μ a k) ∧ (∀ a i, a < mN μ → (a, i) ∉ R → RA ν a i = RA μ a i) ∧ mN μ ≤ mN ν
theorem KZ.tr {X : List Nat} {Y R : List (Nat × Nat)} {μ ν ξ : mM} (h : KZ X Y R μ ν) (g : KZ X Y R ν ξ) : KZ X Y R μ ξ := ⟨⟨fun a k n q => g.1.1 a k n (h.1.1 a k n q), fun a c T q => g.1.2.1 a c T (h.1.2.1 a c T q), fun a c n q => g.1.2.2 a c n (h.1.2.2 a c n q)⟩, g.2.1.trans h.2.1, fun a ha hx => (g.2.2.1 a (by have := h.2.2.2.2.2; omega) hx).trans (h.2.2.1 a ha hx), fun a k ha hx => ⟨(g.2.2.2.1 a k (by have := h.2.2.2.2.2; omega) hx).1.trans (h.2.2.2.1 a k ha hx).1, (g.2.2.2.1 a k (by have := h.2.2.2.2.2; omega) hx).2.trans (h.2.2.2.1 a k ha hx).2⟩, fun a i ha hx => (g.2.2.2.2.1 a i (by have := h.2.2.2.2.2; omega) hx).trans (h.2.2.2.2.1 a i ha hx), Nat.le_trans h.2.2.2.2.2 g.2.2.2.2.2⟩
theorem KZ.mono {X X' : List Nat} {Y Y' R R' : List (Nat × Nat)} {μ ν : mM} (h : KZ X Y R μ ν) (hX : ∀ a ∈ X, a ∈ X') (hY : ∀ k ∈ Y, k ∈ Y') (hR : ∀ k ∈ R, k ∈ R') : KZ X' Y' R' μ ν := ⟨h.1, h.2.1, fun a ha q => h.2.2.1 a ha (fun z => q (hX _ z)), fun a k ha q => h.2.2.2.1 a k ha (fun z => q (hY _ z)), fun a i ha q => h.2.2.2.2.1 a i ha (fun z => q (hR _ z)), h.2.2.2.2.2⟩
theorem K.Z {X : List Nat} {Y R : List (Nat × Nat)} {μ ν : mM} (h : K X Y μ ν) : KZ X Y R μ ν := ⟨⟨h.1.1, h.1.2.1, h.1.2.2.1⟩, h.2.1.2, fun a _ q => h.2.2.1 a q, fun a k _ q => h.2.2.2.1 a k q, fun a i _ _ => by rw [h.2.2.2.2 a], by unfold mN; rw [h.2.1.1]; exact Nat.le_refl _⟩
theorem FI_F {μ ν : mM} {a : Nat} (h : mF ν a = mF μ a) (k : Nat) : FI ν a k = FI μ a k := by unfold FI; rw [h]
theorem FL_F {μ ν : mM} {a : Nat} (h : mF ν a = mF μ a) (k : Nat) : FL ν a k = FL μ a k := by unfold FL; rw [h]
theorem A_F {μ ν : mM} {a : Nat} (h : mF ν a = mF μ a) : A ν a = A μ a := by unfold A; rw [h]
theorem RA_F {μ ν : mM} {a : Nat} (h : mF ν a = mF μ a) : RA ν a = RA μ a := by unfold RA; rw [h]
theorem KZ_ext {X : List Nat} {Y R : List (Nat × Nat)} {μ : mM} (h : NA μ) (s : Nat) (es : List mE) : KZ X Y R μ (ext μ s es) := by
  have lt : ∀ {a : Nat} {e : mE}, mF μ a = some e → a < mN μ := fun {a e} q => by
    rcases Nat.lt_or_ge a (mN μ) with z | z
    · exact z
    · rw [h a z] at q; cases q
  refine ⟨⟨fun a k n q => ?_, fun a c T q => ?_, fun a c n q => ?_⟩, rfl, fun a ha _ => A_F (ext_old ha), fun a k ha _ => ⟨FI_F (ext_old ha) k, FL_F (ext_old ha) k⟩, fun a i ha _ => by rw [RA_F (ext_old ha)], by rw [ext_N]; omega⟩
  · have e := ext_old (s := s) (es := es) (lt q)
    unfold isA
    rw [A_F e, e]; exact q
  · have e := ext_old (s := s) (es := es) (lt q)
    unfold isO
    rw [tm_congr (fun k => FI_F e k) (fun k => FL_F e k), e]; exact q
  · have e := ext_old (s := s) (es := es) (lt q)
    unfold isR
    rw [RA_F e, e]; exact q
theorem wR_F {μ : mM} {a c n : Nat} (h : isR μ a c n) (i v b : Nat) : mF (wR μ a i v) b = if b = a then some (m_ra c n (va_up (RA μ a) i (some v))) else mF μ b := by rw [wR_eq h, m_set_F]
theorem wR_N {μ : mM} {a c n : Nat} (h : isR μ a c n) (i v : Nat) : mN (wR μ a i v) = mN μ ∧ mS (wR μ a i v) = mS μ := by rw [wR_eq h]; exact ⟨rfl, rfl⟩
theorem wR_NA {μ : mM} {a c n : Nat} (h : isR μ a c n) (i v : Nat) (hn : NA μ) : NA (wR μ a i v) := fun b hb => by
  rw [(wR_N h i v).1] at hb
  rw [wR_F h]
  by_cases q : b = a
  · subst q; have := (hn b hb).symm.trans h; cases this
  · rw [if_neg q]; exact hn b hb
theorem wR_RA {μ : mM} {a c n : Nat} (h : isR μ a c n) (i v b j : Nat) : RA (wR μ a i v) b j = if b = a ∧ j = i then some v else RA μ b j := by
  unfold RA
  rw [wR_F h]
  by_cases q : b = a
  · subst q
    rw [if_pos rfl, h]
    dsimp only
    unfold va_up
    by_cases r : j = i
    · rw [if_pos r, if_pos ⟨rfl, r⟩]
    · rw [if_neg r, if_neg (fun z => r z.2)]
  · rw [if_neg q, if_neg (fun z => q z.1)]
theorem KZ_wR {X : List Nat} {Y R : List (Nat × Nat)} {μ : mM} {a c n : Nat} (h : isR μ a c n) (i v : Nat) (hR : (a, i) ∈ R) : KZ X Y R μ (wR μ a i v) := by
  have o : ∀ b, ¬ b = a → mF (wR μ a i v) b = mF μ b := fun b q => by rw [wR_F h, if_neg q]
  have hA : ∀ b, A (wR μ a i v) b = A μ b := fun b => by
    by_cases q : b = a
    · subst q; unfold A; rw [wR_F h, if_pos rfl, h]
    · exact A_F (o b q)
  have hF : ∀ b k, FI (wR μ a i v) b k = FI μ b k := fun b k => by
    by_cases q : b = a
    · subst q; unfold FI; rw [wR_F h, if_pos rfl, h]
    · exact FI_F (o b q) k
  have hL : ∀ b k, FL (wR μ a i v) b k = FL μ b k := fun b k => by
    by_cases q : b = a
    · subst q; unfold FL; rw [wR_F h, if_pos rfl, h]
    · exact FL_F (o b q) k
  refine ⟨⟨fun b k m q => ?_, fun b c' T q => ?_, fun b c' m q => ?_⟩, by rw [wR_eq h]; rfl, fun b _ _ => hA b, fun b k _ _ => ⟨hF b k, hL b k⟩, fun b j _ q => ?_, by rw [(wR_N h i v).1]; exact Nat.le_refl _⟩
  · have z : ¬ b = a := fun z => by subst z; have := q.symm.trans h; cases this
    unfold isA
    rw [hA, o b z]; exact q
  · have z : ¬ b = a := fun z => by subst z; have := q.symm.trans h; cases this
    unfold isO
    rw [tm_congr (fun k => hF b k) (fun k => hL b k), o b z]; exact q
  · by_cases z : b = a
    · subst z
      have e := h.symm.trans q
      injection e with e
      injection e with e
      injection e with e
      injection e with e1 e2
      injection e2 with e2
      subst e1 e2
      exact isR_of (by rw [wR_F h, if_pos rfl])
    · unfold isR
      rw [RA_F (o b z), o b z]; exact q
  · rw [wR_RA h, if_neg (fun z => q (by rw [z.1, z.2]; exact hR))]
theorem Z_A {X : List Nat} {Y R : List (Nat × Nat)} {μ ν : mM} (h : KZ X Y R μ ν) {a : Nat} (ha : a < mN μ) (hx : a ∉ X) : A ν a = A μ a := h.2.2.1 a ha hx
theorem Z_FI {X : List Nat} {Y R : List (Nat × Nat)} {μ ν : mM} (h : KZ X Y R μ ν) {a k : Nat} (ha : a < mN μ) (hx : (a, k) ∉ Y) : FI ν a k = FI μ a k := (h.2.2.2.1 a k ha hx).1
theorem Z_RA {X : List Nat} {Y R : List (Nat × Nat)} {μ ν : mM} (h : KZ X Y R μ ν) {a k : Nat} (ha : a < mN μ) (hx : (a, k) ∉ R) : RA ν a k = RA μ a k := h.2.2.2.2.1 a k ha hx
section grow
variable {X : List Nat} {Y R : List (Nat × Nat)} {μ ν : mM}
theorem MS_Z (h : MS μ) (k : KZ X Y R μ ν) : MS ν := ⟨k.1.2.1 _ _ _ (MS_O h), k.1.1 _ _ _ (aM20 h), k.1.1 _ _ _ (aM21 h), k.1.1 _ _ _ (aM22 h), k.1.1 _ _ _ (aM23 h), k.1.1 _ _ _ (aM24 h), k.1.1 _ _ _ (aM25 h), k.1.1 _ _ _ (aM26 h), k.1.1 _ _ _ (aM27 h), k.1.1 _ _ _ (aM28 h), k.1.1 _ _ _ (aM29 h), k.1.1 _ _ _ (aM30 h), k.1.1 _ _ _ (aM31 h), k.1.1 _ _ _ (aM32 h), k.1.1 _ _ _ (aM33 h), k.1.1 _ _ _ (aM34 h), k.1.1 _ _ _ (aM35 h), k.1.1 _ _ _ (aM36 h), k.1.1 _ _ _ (aM37 h), k.1.1 _ _ _ (aM38 h), k.1.1 _ _ _ (aM39 h), k.1.1 _ _ _ (aM40 h), k.1.1 _ _ _ (aM41 h), k.1.1 _ _ _ (aM42 h), k.1.1 _ _ _ (aM43 h), k.1.1 _ _ _ (aM44 h), k.1.1 _ _ _ (aM45 h), k.1.1 _ _ _ (aM46 h), k.1.1 _ _ _ (aM47 h)⟩
theorem ShC_Z (h : ShC μ) (k : KZ X Y R μ ν) : ShC ν := by
  obtain ⟨⟨a1, a2⟩, ⟨b1, b2, b3, b4⟩, ⟨c1, c2⟩, ⟨d1, d2, d3⟩, e1, ⟨f1, f2, f3⟩, g1⟩ := h
  exact ⟨⟨k.1.2.1 _ _ _ a1, k.1.1 _ _ _ a2⟩, ⟨k.1.2.1 _ _ _ b1, k.1.1 _ _ _ b2, k.1.1 _ _ _ b3, k.1.1 _ _ _ b4⟩, ⟨k.1.2.1 _ _ _ c1, k.1.1 _ _ _ c2⟩, ⟨k.1.2.1 _ _ _ d1, k.1.1 _ _ _ d2, k.1.1 _ _ _ d3⟩, k.1.2.1 _ _ _ e1, ⟨k.1.2.1 _ _ _ f1, k.1.1 _ _ _ f2, k.1.1 _ _ _ f3⟩, k.1.1 _ _ _ g1⟩
theorem PV_Z {a p n : Nat} {PR KD WD : Nat → Int32} (h : PV μ a p n PR KD WD) (k : KZ X Y R μ ν) (hN : a + 10 ≤ mN μ) (hX : ∀ j, j < 10 → j ≠ 0 → j ≠ 2 → a + j ∉ X) (hY : (a, 0) ∉ Y ∧ (a, 9) ∉ Y ∧ (a, 10) ∉ Y) : PV ν a p n PR KD WD := by
  obtain ⟨⟨s0, s1, s2, s3, s4, s5, s6, s7, s8, s9⟩, ⟨c1, c2, c3, c4, c5⟩, hr⟩ := h
  have eA : ∀ j, j < 10 → j ≠ 0 → j ≠ 2 → A ν (a + j) = A μ (a + j) := fun j h1 h2 h3 => Z_A k (by omega) (hX j h1 h2 h3)
  refine ⟨⟨k.1.2.1 _ _ _ s0, k.1.1 _ _ _ s1, k.1.1 _ _ _ s2, k.1.1 _ _ _ s3, k.1.1 _ _ _ s4, k.1.1 _ _ _ s5, k.1.1 _ _ _ s6, k.1.1 _ _ _ s7, k.1.1 _ _ _ s8, k.1.1 _ _ _ s9⟩, ⟨?_, ?_, ?_, ?_, ?_⟩, hr⟩
  · rw [Z_FI k (by omega) hY.1]; exact c1
  · rw [Z_FI k (by omega) hY.2.1]; exact c2
  · rw [Z_FI k (by omega) hY.2.2]; exact c3
  · rw [eA 1 (by decide) (by decide) (by decide)]; exact c4
  · rw [eA 3 (by decide) (by decide) (by decide), eA 4 (by decide) (by decide) (by decide), eA 5 (by decide) (by decide) (by decide), eA 6 (by decide) (by decide) (by decide), eA 7 (by decide) (by decide) (by decide), eA 8 (by decide) (by decide) (by decide), eA 9 (by decide) (by decide) (by decide)]; exact c5
theorem PMk_Z {a p n : Nat} {MK WH : Nat → Int32} (h : PMk μ a p n MK WH) (k : KZ X Y R μ ν) (hN : a < mN μ) (hY : (a, 11) ∉ Y ∧ (a, 12) ∉ Y ∧ (a, 13) ∉ Y) : PMk ν a p n MK WH := by
  unfold PMk
  rw [Z_FI k hN hY.1, Z_FI k hN hY.2.1, Z_FI k hN hY.2.2]
  exact h
theorem DRN_Z {a p n : Nat} {PR KD : Nat → Int32} (h : DRN μ a p n PR KD) (k : KZ X Y R μ ν) (hN : a + 10 ≤ mN μ) (hX : a + 2 ∉ X) (hY : (a, 15) ∉ Y) : DRN ν a p n PR KD := by
  unfold DRN
  rw [Z_FI k (by omega) hY, Z_A k (by omega) hX]
  exact h
theorem RV_Z {r rr k q : Nat} {RT : Nat → Int32} (h : RV μ r rr k q RT) (s : KZ X Y R μ ν) (hN : r + 2 ≤ mN μ) (hX : r + 1 ∉ X) (hY : (r, 0) ∉ Y) : RV ν r rr k q RT := ⟨s.1.2.1 _ _ _ h.1, s.1.1 _ _ _ h.2.1, by rw [Z_FI s (by omega) hY]; exact h.2.2.1, h.2.2.2.1, h.2.2.2.2.1, by rw [Z_A s (by omega) hX]; exact h.2.2.2.2.2⟩
theorem LV_Z {l q : Nat} {x y : Int32} (h : LV μ l q x y) (k : KZ X Y R μ ν) (hN : l < mN μ) (hY : ∀ j, j < 3 → (l, j) ∉ Y) : LV ν l q x y := ⟨k.1.2.1 _ _ _ h.1, by rw [Z_FI k hN (hY 0 (by decide))]; exact h.2.1, by rw [Z_FI k hN (hY 1 (by decide))]; exact h.2.2.1, by rw [Z_FI k hN (hY 2 (by decide))]; exact h.2.2.2.1, h.2.2.2.2⟩
end grow
