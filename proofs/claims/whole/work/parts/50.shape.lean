/-! objects by templates: none a number, some none a long one, some (some r) a cell that it names for ever -/
abbrev Tm : Type := List (Option (Option Nat))
def tmv (μ : mM) (a i : Nat) : Option (Option Nat) → Value
  | none => .int (FI μ a i)
  | some none => .long (FL μ a i)
  | some (some r) => .ref r
def tm (μ : mM) (a : Nat) : Nat → Tm → List Value
  | _, [] => []
  | i, e :: t => tmv μ a i e :: tm μ a (i + 1) t
theorem tm_get (μ : mM) (a : Nat) (T : Tm) : ∀ (i k : Nat), (tm μ a i T)[k]? = (T[k]?).map (tmv μ a (i + k)) := by
  induction T with
  | nil => intro i k; simp [tm]
  | cons e t ih =>
    intro i k
    cases k with
    | zero => simp [tm]
    | succ k => rw [tm, List.getElem?_cons_succ, List.getElem?_cons_succ, ih, show i + 1 + k = i + (k + 1) by omega]
theorem tm_congr {μ ν : mM} {a : Nat} {T : Tm} (h : ∀ k, FI ν a k = FI μ a k) (h2 : ∀ k, FL ν a k = FL μ a k) : ∀ i, tm ν a i T = tm μ a i T := by
  induction T with
  | nil => intro i; rfl
  | cons e t ih =>
    intro i
    rw [tm, tm, ih]
    cases e with
    | none => rw [tmv, tmv, h]
    | some e => cases e with
      | none => rw [tmv, tmv, h2]
      | some r => rfl
def isO (μ : mM) (a c : Nat) (T : Tm) : Prop := mF μ a = some (m_ob c (tm μ a 0 T))
def RA (μ : mM) (a : Nat) : Nat → Option Nat := match mF μ a with
  | some (.inr (.inl q)) => q.2.2
  | _ => fun _ => none
def isR (μ : mM) (a c n : Nat) : Prop := mF μ a = some (m_ra c n (RA μ a))
theorem RA_of {μ : mM} {a c n : Nat} {f : Nat → Option Nat} (h : mF μ a = some (m_ra c n f)) : RA μ a = f := by unfold RA; rw [h]
theorem isR_of {μ : mM} {a c n : Nat} {f : Nat → Option Nat} (h : mF μ a = some (m_ra c n f)) : isR μ a c n := by unfold isR; rw [RA_of h]; exact h
theorem gO {μ : mM} {a c k : Nat} {T : Tm} {e : Option (Option Nat)} (h : isO μ a c T) (hk : T[k]? = some e) : m_gf μ a c k = some (tmv μ a k e) := by
  rw [gf_ok h, tm_get, hk]
  simp
theorem gO_oc {μ : mM} {a c : Nat} {T : Tm} (h : isO μ a c T) : m_oc μ a = some c := oc_ok h
theorem gR {μ : mM} {a c n k : Nat} (h : isR μ a c n) (hk : k < n) (hn : n ≤ 100000) : m_gr μ a (nI k) = some (RA μ a k) := by
  unfold m_gr
  rw [h]
  have h1 : (nI k).toNatClampNeg = k := nI_clamp (by omega)
  have h2 : m_ix (nI k) n = true := by
    unfold m_ix
    rw [h1, Bool.and_eq_true, decide_eq_true_eq, decide_eq_true_eq]
    exact ⟨nI_pos' (by omega), hk⟩
  simp only [h1, h2, if_true]
theorem ln_A {μ : mM} {a k n : Nat} (h : isA μ a k n) : m_ln μ a = some n := by unfold m_ln; rw [h]
theorem tm_len (μ : mM) (a : Nat) (T : Tm) : ∀ i, (tm μ a i T).length = T.length := by
  induction T with
  | nil => intro i; rfl
  | cons e t ih => intro i; rw [tm, List.length_cons, List.length_cons, ih]
/-- what keeps its shape -/
def SH (μ ν : mM) : Prop := (∀ a k n, isA μ a k n → isA ν a k n) ∧ (∀ a c T, isO μ a c T → isO ν a c T) ∧ (∀ a c n, isR μ a c n → isR ν a c n) ∧ ∀ a, mF μ a = none → mF ν a = none
/-- all but the rows X and the numbers Y is as it was -/
def K (X : List Nat) (Y : List (Nat × Nat)) (μ ν : mM) : Prop := SH μ ν ∧ (ν.1 = μ.1 ∧ ν.2.1 = μ.2.1) ∧ (∀ a, a ∉ X → A ν a = A μ a) ∧ (∀ a k, (a, k) ∉ Y → FI ν a k = FI μ a k ∧ FL ν a k = FL μ a k) ∧ ∀ a, RA ν a = RA μ a
theorem SH.rf (μ : mM) : SH μ μ := ⟨fun _ _ _ h => h, fun _ _ _ h => h, fun _ _ _ h => h, fun _ h => h⟩
theorem SH.tr {μ ν ξ : mM} (h1 : SH μ ν) (h2 : SH ν ξ) : SH μ ξ := ⟨fun a k n h => h2.1 a k n (h1.1 a k n h), fun a c T h => h2.2.1 a c T (h1.2.1 a c T h), fun a c n h => h2.2.2.1 a c n (h1.2.2.1 a c n h), fun a h => h2.2.2.2 a (h1.2.2.2 a h)⟩
theorem K.rf {X : List Nat} {Y : List (Nat × Nat)} (μ : mM) : K X Y μ μ := ⟨SH.rf μ, ⟨rfl, rfl⟩, fun _ _ => rfl, fun _ _ _ => ⟨rfl, rfl⟩, fun _ => rfl⟩
theorem K.tr {X : List Nat} {Y : List (Nat × Nat)} {μ ν ξ : mM} (h1 : K X Y μ ν) (h2 : K X Y ν ξ) : K X Y μ ξ := ⟨h1.1.tr h2.1, ⟨h2.2.1.1.trans h1.2.1.1, h2.2.1.2.trans h1.2.1.2⟩, fun a h => (h2.2.2.1 a h).trans (h1.2.2.1 a h), fun a k h => ⟨((h2.2.2.2.1 a k h).1).trans (h1.2.2.2.1 a k h).1, ((h2.2.2.2.1 a k h).2).trans (h1.2.2.2.1 a k h).2⟩, fun a => (h2.2.2.2.2 a).trans (h1.2.2.2.2 a)⟩
theorem K.mono {X X' : List Nat} {Y Y' : List (Nat × Nat)} {μ ν : mM} (h : K X Y μ ν) (hX : ∀ a ∈ X, a ∈ X') (hY : ∀ k ∈ Y, k ∈ Y') : K X' Y' μ ν := ⟨h.1, h.2.1, fun a ha => h.2.2.1 a (fun q => ha (hX a q)), fun a k hk => h.2.2.2.1 a k (fun q => hk (hY _ q)), h.2.2.2.2⟩
theorem K_A {X : List Nat} {Y : List (Nat × Nat)} {μ ν : mM} (h : K X Y μ ν) {a : Nat} (ha : a ∉ X) : A ν a = A μ a := h.2.2.1 a ha
theorem K_FI {X : List Nat} {Y : List (Nat × Nat)} {μ ν : mM} (h : K X Y μ ν) {a k : Nat} (hk : (a, k) ∉ Y) : FI ν a k = FI μ a k := (h.2.2.2.1 a k hk).1
theorem K_RA {X : List Nat} {Y : List (Nat × Nat)} {μ ν : mM} (h : K X Y μ ν) (a : Nat) : RA ν a = RA μ a := h.2.2.2.2 a
theorem K_isA {X : List Nat} {Y : List (Nat × Nat)} {μ ν : mM} (h : K X Y μ ν) {a k n : Nat} (q : isA μ a k n) : isA ν a k n := h.1.1 a k n q
theorem K_isO {X : List Nat} {Y : List (Nat × Nat)} {μ ν : mM} (h : K X Y μ ν) {a c : Nat} {T : Tm} (q : isO μ a c T) : isO ν a c T := h.1.2.1 a c T q
theorem K_isR {X : List Nat} {Y : List (Nat × Nat)} {μ ν : mM} (h : K X Y μ ν) {a c n : Nat} (q : isR μ a c n) : isR ν a c n := h.1.2.2.1 a c n q
theorem wA_FL {μ : mM} {a k n : Nat} (h : isA μ a k n) (f : Nat → Int32) (j i : Nat) : FL (wA μ a f) j i = FL μ j i := by
  unfold FL
  rw [wA_F h]
  by_cases q : j = a
  · subst q; rw [if_pos rfl, h]
  · rw [if_neg q]
theorem wA_RA {μ : mM} {a k n : Nat} (h : isA μ a k n) (f : Nat → Int32) (j : Nat) : RA (wA μ a f) j = RA μ j := by
  unfold RA
  rw [wA_F h]
  by_cases q : j = a
  · subst q; rw [if_pos rfl, h]
  · rw [if_neg q]
theorem K_wA {X : List Nat} {Y : List (Nat × Nat)} {μ : mM} {a k n : Nat} (h : isA μ a k n) (f : Nat → Int32) (hX : a ∈ X) : K X Y μ (wA μ a f) := by
  refine ⟨⟨fun j k' n' hj => wA_isA h f hj, fun j c T hj => ?_, fun j c n' hj => ?_, fun j hj => ?_⟩, ⟨by rw [wA_eq h]; rfl, by rw [wA_eq h]; rfl⟩, fun j hj => ?_, fun j i _ => ⟨wA_FI h f j i, wA_FL h f j i⟩, wA_RA h f⟩
  · unfold isO
    rw [tm_congr (fun k => wA_FI h f j k) (fun k => wA_FL h f j k)]
    exact wA_ob h f hj
  · unfold isR
    rw [wA_RA h f, wA_F h]
    have q : ¬ j = a := fun q => by subst q; have z := hj.symm.trans h; cases z
    rw [if_neg q]; exact hj
  · rw [wA_F h]
    have q : ¬ j = a := fun q => by subst q; have z := hj.symm.trans h; cases z
    rw [if_neg q]; exact hj
  · have q : ¬ j = a := fun q => hj (by rw [q]; exact hX)
    rw [wA_A h, if_neg q]
theorem wO_RA {μ : mM} {a c : Nat} {fs : List Value} (h : mF μ a = some (m_ob c fs)) (k : Nat) (v : Value) (j : Nat) : RA (wO μ a k v) j = RA μ j := by
  unfold RA
  rw [wO_F h]
  by_cases q : j = a
  · subst q; rw [if_pos rfl, h]
  · rw [if_neg q]
theorem wO_FLi {μ : mM} {a c k : Nat} {fs : List Value} (h : mF μ a = some (m_ob c fs)) {y : Int32} (hy : fs[k]? = some (.int y)) (x : Int32) (j i : Nat) : FL (wO μ a k (.int x)) j i = FL μ j i := by
  unfold FL
  rw [wO_F h]
  by_cases q : j = a
  · subst q
    rw [if_pos rfl, h]
    dsimp only
    by_cases r : i = k
    · subst r
      have hl : i < fs.length := (List.getElem?_eq_some_iff.mp hy).1
      rw [List.getElem?_set_self hl, hy]
    · rw [List.getElem?_set_ne (Ne.symm r)]
  · rw [if_neg q]
theorem isO_get {μ : mM} {a c k : Nat} {T : Tm} {e : Option (Option Nat)} (hk : T[k]? = some e) : (tm μ a 0 T)[k]? = some (tmv μ a k e) := by
  rw [tm_get, hk]
  simp
theorem K_wO {X : List Nat} {Y : List (Nat × Nat)} {μ : mM} {a c k : Nat} {T : Tm} (h : isO μ a c T) (hk : T[k]? = some none) (x : Int32) (hY : (a, k) ∈ Y) : K X Y μ (wO μ a k (.int x)) := by
  have hl : k < (tm μ a 0 T).length := by rw [tm_len]; exact (List.getElem?_eq_some_iff.mp hk).1
  have hy : (tm μ a 0 T)[k]? = some (.int (FI μ a k)) := by rw [tm_get, hk]; simp [tmv]
  have hF := wO_FI h hl x
  have hL := wO_FLi h hy x
  refine ⟨⟨fun j k' n' hj => wO_isA h _ _ hj, fun j c' T' hj => ?_, fun j c' n' hj => ?_, fun j hj => ?_⟩, ⟨by rw [wO_eq h]; rfl, by rw [wO_eq h]; rfl⟩, fun j hj => wO_A h _ _ j, fun j i hji => ⟨?_, hL j i⟩, wO_RA h _ _⟩
  · unfold isO
    rw [wO_F h]
    by_cases q : j = a
    · subst q
      rw [if_pos rfl]
      have e := h.symm.trans hj
      injection e with e
      injection e with e
      injection e with e
      injection e with e1 e2
      subst e1
      have hk' : T'[k]? = some none := by
        have e3 := congrArg (fun l => l[k]?) e2
        try dsimp only at e3
        rw [hy, tm_get] at e3
        cases hT : T'[k]? with
        | none => rw [hT] at e3; cases e3
        | some u =>
          rw [hT] at e3
          cases u with
          | none => rfl
          | some u => cases u <;> (simp [tmv] at e3)
      rw [e2]
      congr 3
      refine List.ext_getElem? fun i => ?_
      rw [tm_get]
      by_cases r : i = k
      · subst r
        rw [List.getElem?_set_self (by rw [← e2]; exact hl), hk', Option.map_some, tmv, Nat.zero_add, hF, if_pos ⟨rfl, rfl⟩]
      · rw [List.getElem?_set_ne (Ne.symm r), tm_get]
        cases hT : T'[i]? with
        | none => rfl
        | some u =>
          rw [Option.map_some, Option.map_some, Nat.zero_add]
          cases u with
          | none => rw [tmv, tmv, hF, if_neg (fun z => r z.2)]
          | some u => cases u with
            | none => rw [tmv, tmv, hL]
            | some u => rfl
    · rw [if_neg q]
      rw [tm_congr (μ := μ) (fun i => by rw [hF, if_neg (fun z => q z.1)]) (fun i => hL j i)]
      exact hj
  · unfold isR
    rw [wO_RA h, wO_F h]
    have q : ¬ j = a := fun q => by subst q; have z := hj.symm.trans h; cases z
    rw [if_neg q]; exact hj
  · rw [wO_F h]
    have q : ¬ j = a := fun q => by subst q; have z := hj.symm.trans h; cases z
    rw [if_neg q]; exact hj
  · have q : ¬ (j = a ∧ i = k) := fun q => hji (by rw [q.1, q.2]; exact hY)
    rw [hF, if_neg q]
theorem pO {μ : mM} {a c k : Nat} {T : Tm} (h : isO μ a c T) (hk : T[k]? = some none) (x : Int32) : m_pf μ a c k .int (.int x) = some (wO μ a k (.int x)) := pf_I h (by rw [tm_len]; exact (List.getElem?_eq_some_iff.mp hk).1) x
theorem pOb {μ : mM} {a c k : Nat} {T : Tm} (h : isO μ a c T) (hk : T[k]? = some none) (b : Bool) : m_pf μ a c k .boolean (.int (bI b)) = some (wO μ a k (.int (bI b))) := by
  have hl : k < (tm μ a 0 T).length := by rw [tm_len]; exact (List.getElem?_eq_some_iff.mp hk).1
  unfold m_pf
  rw [wO_eq h, h]
  cases b <;> simp [hl, fits, narrow, bI]
theorem wO_FIo {μ : mM} {a c k : Nat} {T : Tm} (h : isO μ a c T) (hk : T[k]? = some none) (x : Int32) (j i : Nat) : FI (wO μ a k (.int x)) j i = if j = a ∧ i = k then x else FI μ j i := wO_FI h (by rw [tm_len]; exact (List.getElem?_eq_some_iff.mp hk).1) x j i
