/-! the model's state, read off the memory: A the contents of a row, FI a number in an object -/
def A (μ : mM) (a : Nat) : Nat → Int32 := match mF μ a with
  | some (.inl q) => q.2.2
  | _ => fun _ => 0
def FI (μ : mM) (a k : Nat) : Int32 := match mF μ a with
  | some (.inr (.inr q)) => match q.2[k]? with
    | some (.int x) => x
    | _ => 0
  | _ => 0
def FL (μ : mM) (a k : Nat) : Int64 := match mF μ a with
  | some (.inr (.inr q)) => match q.2[k]? with
    | some (.long x) => x
    | _ => 0
  | _ => 0
def wA (μ : mM) (a : Nat) (f : Nat → Int32) : mM := match mF μ a with
  | some (.inl q) => m_set μ a (m_ia q.1 q.2.1 f)
  | _ => μ
def wO (μ : mM) (a k : Nat) (v : Value) : mM := match mF μ a with
  | some (.inr (.inr q)) => m_set μ a (m_ob q.1 (q.2.set k v))
  | _ => μ
/-- a row of ints (kind k, n long) -/
def isA (μ : mM) (a k n : Nat) : Prop := mF μ a = some (m_ia k n (A μ a))
theorem A_of {μ : mM} {a k n : Nat} {f : Nat → Int32} (h : mF μ a = some (m_ia k n f)) : A μ a = f := by unfold A; rw [h]
theorem isA_of {μ : mM} {a k n : Nat} {f : Nat → Int32} (h : mF μ a = some (m_ia k n f)) : isA μ a k n := by unfold isA; rw [A_of h]; exact h
theorem wA_eq {μ : mM} {a k n : Nat} (h : isA μ a k n) (f : Nat → Int32) : wA μ a f = m_set μ a (m_ia k n f) := by unfold wA; rw [h]
theorem wA_F {μ : mM} {a k n : Nat} (h : isA μ a k n) (f : Nat → Int32) (j : Nat) : mF (wA μ a f) j = if j = a then some (m_ia k n f) else mF μ j := by rw [wA_eq h, m_set_F]
theorem wA_A {μ : mM} {a k n : Nat} (h : isA μ a k n) (f : Nat → Int32) (j : Nat) : A (wA μ a f) j = if j = a then f else A μ j := by
  unfold A
  rw [wA_F h]
  by_cases hj : j = a
  · rw [if_pos hj, if_pos hj]
  · rw [if_neg hj, if_neg hj]
theorem wA_isA {μ : mM} {a k n : Nat} (h : isA μ a k n) (f : Nat → Int32) {j k' n' : Nat} (hj : isA μ j k' n') : isA (wA μ a f) j k' n' := by
  unfold isA
  rw [wA_A h, wA_F h]
  by_cases q : j = a
  · subst q
    have := h.symm.trans hj
    cases this
    rw [if_pos rfl, if_pos rfl]
  · rw [if_neg q, if_neg q]; exact hj
theorem wA_N {μ : mM} {a k n : Nat} (h : isA μ a k n) (f : Nat → Int32) : mN (wA μ a f) = mN μ ∧ mS (wA μ a f) = mS μ ∧ (wA μ a f).2.1 = μ.2.1 := by rw [wA_eq h]; exact ⟨rfl, rfl, rfl⟩
theorem wA_ob {μ : mM} {a k n : Nat} (h : isA μ a k n) (f : Nat → Int32) {j c : Nat} {fs : List Value} (hj : mF μ j = some (m_ob c fs)) : mF (wA μ a f) j = some (m_ob c fs) := by
  rw [wA_F h]
  by_cases q : j = a
  · subst q; rw [h] at hj; cases hj
  · rw [if_neg q]; exact hj
theorem wA_FI {μ : mM} {a k n : Nat} (h : isA μ a k n) (f : Nat → Int32) (j i : Nat) : FI (wA μ a f) j i = FI μ j i := by
  unfold FI
  rw [wA_F h]
  by_cases q : j = a
  · subst q; rw [if_pos rfl, h]
  · rw [if_neg q]
theorem wA_wA {μ : mM} {a k n : Nat} (h : isA μ a k n) (f g : Nat → Int32) : wA (wA μ a f) a g = wA μ a g := by
  have h2 := wA_isA h f h
  rw [wA_eq h2, wA_eq h, wA_eq h]
  unfold m_set
  congr 2
  funext j
  simp only [va_up]
  split <;> rfl
theorem ga_A {μ : mM} {a n k : Nat} (h : isA μ a 0 n) (hk : k < n) (hn : n ≤ 100000) : m_ga μ a (nI k) = some (A μ a k) := ga_ok h hk hn
theorem gb_A {μ : mM} {a n k t : Nat} (h : isA μ a t n) (ht : t = 1 ∨ t = 2) (hk : k < n) (hn : n ≤ 100000) : m_gb μ a (nI k) = some (A μ a k) := by
  unfold m_gb
  rw [h]
  have h1 : (nI k).toNatClampNeg = k := nI_clamp (by omega)
  have h2 : m_ix (nI k) n = true := by
    unfold m_ix
    rw [h1, Bool.and_eq_true, decide_eq_true_eq, decide_eq_true_eq]
    exact ⟨nI_pos' (by omega), hk⟩
  simp only [h1, h2, ht, and_self, if_true]
theorem pa_A {μ : mM} {a n k : Nat} {x : Int32} (h : isA μ a 0 n) (hk : k < n) (hn : n ≤ 100000) : m_pa μ a (nI k) x = some (wA μ a (upd (A μ a) k x)) := by
  unfold m_pa
  rw [wA_eq h]
  have h3 : mF μ a = some (m_ia 0 n (A μ a)) := h
  rw [h3]
  have h1 : (nI k).toNatClampNeg = k := nI_clamp (by omega)
  have h2 : m_ix (nI k) n = true := by
    unfold m_ix
    rw [h1, Bool.and_eq_true, decide_eq_true_eq, decide_eq_true_eq]
    exact ⟨nI_pos' (by omega), hk⟩
  simp only [h1, h2, and_self, if_true]
theorem pb_A {μ : mM} {a n k : Nat} {x : Int32} (h : isA μ a 1 n) (hk : k < n) (hn : n ≤ 100000) : m_pb μ a (nI k) x = some (wA μ a (upd (A μ a) k (x &&& 1))) := by
  unfold m_pb
  rw [wA_eq h]
  have h3 : mF μ a = some (m_ia 1 n (A μ a)) := h
  rw [h3]
  have h1 : (nI k).toNatClampNeg = k := nI_clamp (by omega)
  have h2 : m_ix (nI k) n = true := by
    unfold m_ix
    rw [h1, Bool.and_eq_true, decide_eq_true_eq, decide_eq_true_eq]
    exact ⟨nI_pos' (by omega), hk⟩
  simp only [h1, h2, true_or, and_self, if_true]
  rfl
theorem pb_A2 {μ : mM} {a n k : Nat} {x : Int32} (h : isA μ a 2 n) (hk : k < n) (hn : n ≤ 100000) : m_pb μ a (nI k) x = some (wA μ a (upd (A μ a) k x.toInt8.toInt32)) := by
  unfold m_pb
  rw [wA_eq h]
  have h3 : mF μ a = some (m_ia 2 n (A μ a)) := h
  rw [h3]
  have h1 : (nI k).toNatClampNeg = k := nI_clamp (by omega)
  have h2 : m_ix (nI k) n = true := by
    unfold m_ix
    rw [h1, Bool.and_eq_true, decide_eq_true_eq, decide_eq_true_eq]
    exact ⟨nI_pos' (by omega), hk⟩
  simp only [h1, h2, or_true, and_self, if_true]
  rfl
def oM (μ : mM) : List Value := [.int (FI μ 19 0), .ref 20, .ref 21, .ref 22, .ref 23, .ref 24, .ref 25, .ref 26, .int (FI μ 19 8), .int (FI μ 19 9), .int (FI μ 19 10), .ref 27, .ref 28, .ref 29, .int (FI μ 19 14), .ref 30, .int (FI μ 19 16), .int (FI μ 19 17), .ref 31, .ref 32, .ref 33, .ref 34, .ref 35, .int (FI μ 19 23), .ref 36, .ref 37, .ref 38, .int (FI μ 19 27), .ref 39, .ref 40, .ref 41, .ref 42, .ref 43, .ref 44, .ref 45, .ref 46, .ref 47, .long (FL μ 19 37)]
def MS (μ : mM) : Prop := mF μ 19 = some (m_ob 9 (oM μ)) ∧ isA μ 20 0 8 ∧ isA μ 21 0 192 ∧ isA μ 22 0 192 ∧ isA μ 23 0 192 ∧ isA μ 24 0 192 ∧ isA μ 25 1 8 ∧ isA μ 26 0 90 ∧ isA μ 27 0 24 ∧ isA μ 28 0 24 ∧ isA μ 29 0 24 ∧ isA μ 30 0 6 ∧ isA μ 31 0 10 ∧ isA μ 32 0 10 ∧ isA μ 33 0 60 ∧ isA μ 34 0 360 ∧ isA μ 35 1 3615 ∧ isA μ 36 0 3615 ∧ isA μ 37 0 28920 ∧ isA μ 38 0 24 ∧ isA μ 39 0 8 ∧ isA μ 40 0 8 ∧ isA μ 41 0 8 ∧ isA μ 42 0 100 ∧ isA μ 43 1 100 ∧ isA μ 44 0 576 ∧ isA μ 45 0 625 ∧ isA μ 46 0 24 ∧ isA μ 47 0 24
theorem gM0 {μ : mM} (h : MS μ) : m_gf μ 19 9 0 = some (.int (FI μ 19 0)) := gf_ok h.1
theorem gM1 {μ : mM} (h : MS μ) : m_gf μ 19 9 1 = some (.ref 20) := gf_ok h.1
theorem gM2 {μ : mM} (h : MS μ) : m_gf μ 19 9 2 = some (.ref 21) := gf_ok h.1
theorem gM3 {μ : mM} (h : MS μ) : m_gf μ 19 9 3 = some (.ref 22) := gf_ok h.1
theorem gM4 {μ : mM} (h : MS μ) : m_gf μ 19 9 4 = some (.ref 23) := gf_ok h.1
theorem gM5 {μ : mM} (h : MS μ) : m_gf μ 19 9 5 = some (.ref 24) := gf_ok h.1
theorem gM6 {μ : mM} (h : MS μ) : m_gf μ 19 9 6 = some (.ref 25) := gf_ok h.1
theorem gM7 {μ : mM} (h : MS μ) : m_gf μ 19 9 7 = some (.ref 26) := gf_ok h.1
theorem gM8 {μ : mM} (h : MS μ) : m_gf μ 19 9 8 = some (.int (FI μ 19 8)) := gf_ok h.1
theorem gM9 {μ : mM} (h : MS μ) : m_gf μ 19 9 9 = some (.int (FI μ 19 9)) := gf_ok h.1
theorem gM10 {μ : mM} (h : MS μ) : m_gf μ 19 9 10 = some (.int (FI μ 19 10)) := gf_ok h.1
theorem gM11 {μ : mM} (h : MS μ) : m_gf μ 19 9 11 = some (.ref 27) := gf_ok h.1
theorem gM12 {μ : mM} (h : MS μ) : m_gf μ 19 9 12 = some (.ref 28) := gf_ok h.1
theorem gM13 {μ : mM} (h : MS μ) : m_gf μ 19 9 13 = some (.ref 29) := gf_ok h.1
theorem gM14 {μ : mM} (h : MS μ) : m_gf μ 19 9 14 = some (.int (FI μ 19 14)) := gf_ok h.1
theorem gM15 {μ : mM} (h : MS μ) : m_gf μ 19 9 15 = some (.ref 30) := gf_ok h.1
theorem gM16 {μ : mM} (h : MS μ) : m_gf μ 19 9 16 = some (.int (FI μ 19 16)) := gf_ok h.1
theorem gM17 {μ : mM} (h : MS μ) : m_gf μ 19 9 17 = some (.int (FI μ 19 17)) := gf_ok h.1
theorem gM18 {μ : mM} (h : MS μ) : m_gf μ 19 9 18 = some (.ref 31) := gf_ok h.1
theorem gM19 {μ : mM} (h : MS μ) : m_gf μ 19 9 19 = some (.ref 32) := gf_ok h.1
theorem gM20 {μ : mM} (h : MS μ) : m_gf μ 19 9 20 = some (.ref 33) := gf_ok h.1
theorem gM21 {μ : mM} (h : MS μ) : m_gf μ 19 9 21 = some (.ref 34) := gf_ok h.1
theorem gM22 {μ : mM} (h : MS μ) : m_gf μ 19 9 22 = some (.ref 35) := gf_ok h.1
theorem gM23 {μ : mM} (h : MS μ) : m_gf μ 19 9 23 = some (.int (FI μ 19 23)) := gf_ok h.1
theorem gM24 {μ : mM} (h : MS μ) : m_gf μ 19 9 24 = some (.ref 36) := gf_ok h.1
theorem gM25 {μ : mM} (h : MS μ) : m_gf μ 19 9 25 = some (.ref 37) := gf_ok h.1
theorem gM26 {μ : mM} (h : MS μ) : m_gf μ 19 9 26 = some (.ref 38) := gf_ok h.1
theorem gM27 {μ : mM} (h : MS μ) : m_gf μ 19 9 27 = some (.int (FI μ 19 27)) := gf_ok h.1
theorem gM28 {μ : mM} (h : MS μ) : m_gf μ 19 9 28 = some (.ref 39) := gf_ok h.1
theorem gM29 {μ : mM} (h : MS μ) : m_gf μ 19 9 29 = some (.ref 40) := gf_ok h.1
theorem gM30 {μ : mM} (h : MS μ) : m_gf μ 19 9 30 = some (.ref 41) := gf_ok h.1
theorem gM31 {μ : mM} (h : MS μ) : m_gf μ 19 9 31 = some (.ref 42) := gf_ok h.1
theorem gM32 {μ : mM} (h : MS μ) : m_gf μ 19 9 32 = some (.ref 43) := gf_ok h.1
theorem gM33 {μ : mM} (h : MS μ) : m_gf μ 19 9 33 = some (.ref 44) := gf_ok h.1
theorem gM34 {μ : mM} (h : MS μ) : m_gf μ 19 9 34 = some (.ref 45) := gf_ok h.1
theorem gM35 {μ : mM} (h : MS μ) : m_gf μ 19 9 35 = some (.ref 46) := gf_ok h.1
theorem gM36 {μ : mM} (h : MS μ) : m_gf μ 19 9 36 = some (.ref 47) := gf_ok h.1
theorem gM37 {μ : mM} (h : MS μ) : m_gf μ 19 9 37 = some (.long (FL μ 19 37)) := gf_ok h.1
theorem aM20 {μ : mM} (h : MS μ) : isA μ 20 0 8 := h.2.1
theorem aM21 {μ : mM} (h : MS μ) : isA μ 21 0 192 := h.2.2.1
theorem aM22 {μ : mM} (h : MS μ) : isA μ 22 0 192 := h.2.2.2.1
theorem aM23 {μ : mM} (h : MS μ) : isA μ 23 0 192 := h.2.2.2.2.1
theorem aM24 {μ : mM} (h : MS μ) : isA μ 24 0 192 := h.2.2.2.2.2.1
theorem aM25 {μ : mM} (h : MS μ) : isA μ 25 1 8 := h.2.2.2.2.2.2.1
theorem aM26 {μ : mM} (h : MS μ) : isA μ 26 0 90 := h.2.2.2.2.2.2.2.1
theorem aM27 {μ : mM} (h : MS μ) : isA μ 27 0 24 := h.2.2.2.2.2.2.2.2.1
theorem aM28 {μ : mM} (h : MS μ) : isA μ 28 0 24 := h.2.2.2.2.2.2.2.2.2.1
theorem aM29 {μ : mM} (h : MS μ) : isA μ 29 0 24 := h.2.2.2.2.2.2.2.2.2.2.1
theorem aM30 {μ : mM} (h : MS μ) : isA μ 30 0 6 := h.2.2.2.2.2.2.2.2.2.2.2.1
theorem aM31 {μ : mM} (h : MS μ) : isA μ 31 0 10 := h.2.2.2.2.2.2.2.2.2.2.2.2.1
theorem aM32 {μ : mM} (h : MS μ) : isA μ 32 0 10 := h.2.2.2.2.2.2.2.2.2.2.2.2.2.1
theorem aM33 {μ : mM} (h : MS μ) : isA μ 33 0 60 := h.2.2.2.2.2.2.2.2.2.2.2.2.2.2.1
theorem aM34 {μ : mM} (h : MS μ) : isA μ 34 0 360 := h.2.2.2.2.2.2.2.2.2.2.2.2.2.2.2.1
theorem aM35 {μ : mM} (h : MS μ) : isA μ 35 1 3615 := h.2.2.2.2.2.2.2.2.2.2.2.2.2.2.2.2.1
theorem aM36 {μ : mM} (h : MS μ) : isA μ 36 0 3615 := h.2.2.2.2.2.2.2.2.2.2.2.2.2.2.2.2.2.1
theorem aM37 {μ : mM} (h : MS μ) : isA μ 37 0 28920 := h.2.2.2.2.2.2.2.2.2.2.2.2.2.2.2.2.2.2.1
theorem aM38 {μ : mM} (h : MS μ) : isA μ 38 0 24 := h.2.2.2.2.2.2.2.2.2.2.2.2.2.2.2.2.2.2.2.1
theorem aM39 {μ : mM} (h : MS μ) : isA μ 39 0 8 := h.2.2.2.2.2.2.2.2.2.2.2.2.2.2.2.2.2.2.2.2.1
theorem aM40 {μ : mM} (h : MS μ) : isA μ 40 0 8 := h.2.2.2.2.2.2.2.2.2.2.2.2.2.2.2.2.2.2.2.2.2.1
theorem aM41 {μ : mM} (h : MS μ) : isA μ 41 0 8 := h.2.2.2.2.2.2.2.2.2.2.2.2.2.2.2.2.2.2.2.2.2.2.1
theorem aM42 {μ : mM} (h : MS μ) : isA μ 42 0 100 := h.2.2.2.2.2.2.2.2.2.2.2.2.2.2.2.2.2.2.2.2.2.2.2.1
theorem aM43 {μ : mM} (h : MS μ) : isA μ 43 1 100 := h.2.2.2.2.2.2.2.2.2.2.2.2.2.2.2.2.2.2.2.2.2.2.2.2.1
theorem aM44 {μ : mM} (h : MS μ) : isA μ 44 0 576 := h.2.2.2.2.2.2.2.2.2.2.2.2.2.2.2.2.2.2.2.2.2.2.2.2.2.1
theorem aM45 {μ : mM} (h : MS μ) : isA μ 45 0 625 := h.2.2.2.2.2.2.2.2.2.2.2.2.2.2.2.2.2.2.2.2.2.2.2.2.2.2.1
theorem aM46 {μ : mM} (h : MS μ) : isA μ 46 0 24 := h.2.2.2.2.2.2.2.2.2.2.2.2.2.2.2.2.2.2.2.2.2.2.2.2.2.2.2.1
theorem aM47 {μ : mM} (h : MS μ) : isA μ 47 0 24 := h.2.2.2.2.2.2.2.2.2.2.2.2.2.2.2.2.2.2.2.2.2.2.2.2.2.2.2.2
theorem oM_oc {μ : mM} (h : MS μ) : m_oc μ 19 = some 9 := oc_ok h.1
theorem oM_wA {μ : mM} {a k n : Nat} (h : isA μ a k n) (f : Nat → Int32) (hj : mF μ 19 = some (m_ob 9 (oM μ))) : oM (wA μ a f) = oM μ := by
  have e : mF (wA μ a f) 19 = mF μ 19 := (wA_ob h f hj).trans hj.symm
  unfold oM
  simp only [wA_FI h]
  unfold FL
  rw [e]
theorem MS_wA {μ : mM} (h : MS μ) {a k n : Nat} (ha : isA μ a k n) (f : Nat → Int32) : MS (wA μ a f) :=
  ⟨by rw [oM_wA ha f h.1]; exact wA_ob ha f h.1, wA_isA ha f (aM20 h), wA_isA ha f (aM21 h), wA_isA ha f (aM22 h), wA_isA ha f (aM23 h), wA_isA ha f (aM24 h), wA_isA ha f (aM25 h), wA_isA ha f (aM26 h), wA_isA ha f (aM27 h), wA_isA ha f (aM28 h), wA_isA ha f (aM29 h), wA_isA ha f (aM30 h), wA_isA ha f (aM31 h), wA_isA ha f (aM32 h), wA_isA ha f (aM33 h), wA_isA ha f (aM34 h), wA_isA ha f (aM35 h), wA_isA ha f (aM36 h), wA_isA ha f (aM37 h), wA_isA ha f (aM38 h), wA_isA ha f (aM39 h), wA_isA ha f (aM40 h), wA_isA ha f (aM41 h), wA_isA ha f (aM42 h), wA_isA ha f (aM43 h), wA_isA ha f (aM44 h), wA_isA ha f (aM45 h), wA_isA ha f (aM46 h), wA_isA ha f (aM47 h)⟩
theorem wO_eq {μ : mM} {a c : Nat} {fs : List Value} (h : mF μ a = some (m_ob c fs)) (k : Nat) (v : Value) : wO μ a k v = m_set μ a (m_ob c (fs.set k v)) := by unfold wO; rw [h]
theorem wO_F {μ : mM} {a c : Nat} {fs : List Value} (h : mF μ a = some (m_ob c fs)) (k : Nat) (v : Value) (j : Nat) : mF (wO μ a k v) j = if j = a then some (m_ob c (fs.set k v)) else mF μ j := by rw [wO_eq h, m_set_F]
theorem wO_N {μ : mM} {a c : Nat} {fs : List Value} (h : mF μ a = some (m_ob c fs)) (k : Nat) (v : Value) : mN (wO μ a k v) = mN μ ∧ mS (wO μ a k v) = mS μ ∧ (wO μ a k v).2.1 = μ.2.1 := by rw [wO_eq h]; exact ⟨rfl, rfl, rfl⟩
theorem wO_A {μ : mM} {a c : Nat} {fs : List Value} (h : mF μ a = some (m_ob c fs)) (k : Nat) (v : Value) (j : Nat) : A (wO μ a k v) j = A μ j := by
  unfold A
  rw [wO_F h]
  by_cases q : j = a
  · subst q; rw [if_pos rfl, h]
  · rw [if_neg q]
theorem wO_isA {μ : mM} {a c : Nat} {fs : List Value} (h : mF μ a = some (m_ob c fs)) (k : Nat) (v : Value) {j k' n' : Nat} (hj : isA μ j k' n') : isA (wO μ a k v) j k' n' := by
  unfold isA
  rw [wO_A h, wO_F h]
  by_cases q : j = a
  · subst q; rw [hj] at h; cases h
  · rw [if_neg q]; exact hj
theorem wO_FI {μ : mM} {a c k : Nat} {fs : List Value} (h : mF μ a = some (m_ob c fs)) (hk : k < fs.length) (x : Int32) (j i : Nat) : FI (wO μ a k (.int x)) j i = if j = a ∧ i = k then x else FI μ j i := by
  unfold FI
  rw [wO_F h]
  by_cases q : j = a
  · subst q
    rw [if_pos rfl, h]
    by_cases r : i = k
    · subst r
      simp [hk]
    · simp [r, List.getElem?_set_ne (Ne.symm r)]
  · rw [if_neg q, if_neg (fun z => q z.1)]
theorem pf_I {μ : mM} {a c k : Nat} {fs : List Value} (h : mF μ a = some (m_ob c fs)) (hk : k < fs.length) (x : Int32) : m_pf μ a c k .int (.int x) = some (wO μ a k (.int x)) := by
  unfold m_pf
  rw [wO_eq h, h]
  simp only [hk, fits, narrow, and_self, if_true]
theorem oM_w0 {μ : mM} (h : MS μ) (x : Int32) : (oM μ).set 0 (.int x) = oM (wO μ 19 0 (.int x)) := by
  have hl : 0 < (oM μ).length := Nat.le_of_ble_eq_true rfl
  have e : FL (wO μ 19 0 (.int x)) 19 37 = FL μ 19 37 := by
    unfold FL
    rw [wO_F h.1, if_pos rfl, h.1]
    rfl
  unfold oM
  simp only [wO_FI h.1 hl, e]
  rfl
theorem MS_w0 {μ : mM} (h : MS μ) (x : Int32) : MS (wO μ 19 0 (.int x)) := ⟨by rw [wO_F h.1, if_pos rfl, oM_w0 h], wO_isA h.1 _ _ (aM20 h), wO_isA h.1 _ _ (aM21 h), wO_isA h.1 _ _ (aM22 h), wO_isA h.1 _ _ (aM23 h), wO_isA h.1 _ _ (aM24 h), wO_isA h.1 _ _ (aM25 h), wO_isA h.1 _ _ (aM26 h), wO_isA h.1 _ _ (aM27 h), wO_isA h.1 _ _ (aM28 h), wO_isA h.1 _ _ (aM29 h), wO_isA h.1 _ _ (aM30 h), wO_isA h.1 _ _ (aM31 h), wO_isA h.1 _ _ (aM32 h), wO_isA h.1 _ _ (aM33 h), wO_isA h.1 _ _ (aM34 h), wO_isA h.1 _ _ (aM35 h), wO_isA h.1 _ _ (aM36 h), wO_isA h.1 _ _ (aM37 h), wO_isA h.1 _ _ (aM38 h), wO_isA h.1 _ _ (aM39 h), wO_isA h.1 _ _ (aM40 h), wO_isA h.1 _ _ (aM41 h), wO_isA h.1 _ _ (aM42 h), wO_isA h.1 _ _ (aM43 h), wO_isA h.1 _ _ (aM44 h), wO_isA h.1 _ _ (aM45 h), wO_isA h.1 _ _ (aM46 h), wO_isA h.1 _ _ (aM47 h)⟩
theorem pM0 {μ : mM} (h : MS μ) (x : Int32) : m_pf μ 19 9 0 .int (.int x) = some (wO μ 19 0 (.int x)) := pf_I h.1 (Nat.le_of_ble_eq_true rfl) x
theorem fM0 {μ : mM} (h : MS μ) (x : Int32) (j i : Nat) : FI (wO μ 19 0 (.int x)) j i = if j = 19 ∧ i = 0 then x else FI μ j i := wO_FI h.1 (Nat.le_of_ble_eq_true rfl) x j i
theorem bM0 {μ : mM} (h : MS μ) (x : Int32) (j : Nat) : A (wO μ 19 0 (.int x)) j = A μ j := wO_A h.1 _ _ j
theorem oM_w8 {μ : mM} (h : MS μ) (x : Int32) : (oM μ).set 8 (.int x) = oM (wO μ 19 8 (.int x)) := by
  have hl : 8 < (oM μ).length := Nat.le_of_ble_eq_true rfl
  have e : FL (wO μ 19 8 (.int x)) 19 37 = FL μ 19 37 := by
    unfold FL
    rw [wO_F h.1, if_pos rfl, h.1]
    rfl
  unfold oM
  simp only [wO_FI h.1 hl, e]
  rfl
theorem MS_w8 {μ : mM} (h : MS μ) (x : Int32) : MS (wO μ 19 8 (.int x)) := ⟨by rw [wO_F h.1, if_pos rfl, oM_w8 h], wO_isA h.1 _ _ (aM20 h), wO_isA h.1 _ _ (aM21 h), wO_isA h.1 _ _ (aM22 h), wO_isA h.1 _ _ (aM23 h), wO_isA h.1 _ _ (aM24 h), wO_isA h.1 _ _ (aM25 h), wO_isA h.1 _ _ (aM26 h), wO_isA h.1 _ _ (aM27 h), wO_isA h.1 _ _ (aM28 h), wO_isA h.1 _ _ (aM29 h), wO_isA h.1 _ _ (aM30 h), wO_isA h.1 _ _ (aM31 h), wO_isA h.1 _ _ (aM32 h), wO_isA h.1 _ _ (aM33 h), wO_isA h.1 _ _ (aM34 h), wO_isA h.1 _ _ (aM35 h), wO_isA h.1 _ _ (aM36 h), wO_isA h.1 _ _ (aM37 h), wO_isA h.1 _ _ (aM38 h), wO_isA h.1 _ _ (aM39 h), wO_isA h.1 _ _ (aM40 h), wO_isA h.1 _ _ (aM41 h), wO_isA h.1 _ _ (aM42 h), wO_isA h.1 _ _ (aM43 h), wO_isA h.1 _ _ (aM44 h), wO_isA h.1 _ _ (aM45 h), wO_isA h.1 _ _ (aM46 h), wO_isA h.1 _ _ (aM47 h)⟩
theorem pM8 {μ : mM} (h : MS μ) (x : Int32) : m_pf μ 19 9 8 .int (.int x) = some (wO μ 19 8 (.int x)) := pf_I h.1 (Nat.le_of_ble_eq_true rfl) x
theorem fM8 {μ : mM} (h : MS μ) (x : Int32) (j i : Nat) : FI (wO μ 19 8 (.int x)) j i = if j = 19 ∧ i = 8 then x else FI μ j i := wO_FI h.1 (Nat.le_of_ble_eq_true rfl) x j i
theorem bM8 {μ : mM} (h : MS μ) (x : Int32) (j : Nat) : A (wO μ 19 8 (.int x)) j = A μ j := wO_A h.1 _ _ j
theorem oM_w9 {μ : mM} (h : MS μ) (x : Int32) : (oM μ).set 9 (.int x) = oM (wO μ 19 9 (.int x)) := by
  have hl : 9 < (oM μ).length := Nat.le_of_ble_eq_true rfl
  have e : FL (wO μ 19 9 (.int x)) 19 37 = FL μ 19 37 := by
    unfold FL
    rw [wO_F h.1, if_pos rfl, h.1]
    rfl
  unfold oM
  simp only [wO_FI h.1 hl, e]
  rfl
theorem MS_w9 {μ : mM} (h : MS μ) (x : Int32) : MS (wO μ 19 9 (.int x)) := ⟨by rw [wO_F h.1, if_pos rfl, oM_w9 h], wO_isA h.1 _ _ (aM20 h), wO_isA h.1 _ _ (aM21 h), wO_isA h.1 _ _ (aM22 h), wO_isA h.1 _ _ (aM23 h), wO_isA h.1 _ _ (aM24 h), wO_isA h.1 _ _ (aM25 h), wO_isA h.1 _ _ (aM26 h), wO_isA h.1 _ _ (aM27 h), wO_isA h.1 _ _ (aM28 h), wO_isA h.1 _ _ (aM29 h), wO_isA h.1 _ _ (aM30 h), wO_isA h.1 _ _ (aM31 h), wO_isA h.1 _ _ (aM32 h), wO_isA h.1 _ _ (aM33 h), wO_isA h.1 _ _ (aM34 h), wO_isA h.1 _ _ (aM35 h), wO_isA h.1 _ _ (aM36 h), wO_isA h.1 _ _ (aM37 h), wO_isA h.1 _ _ (aM38 h), wO_isA h.1 _ _ (aM39 h), wO_isA h.1 _ _ (aM40 h), wO_isA h.1 _ _ (aM41 h), wO_isA h.1 _ _ (aM42 h), wO_isA h.1 _ _ (aM43 h), wO_isA h.1 _ _ (aM44 h), wO_isA h.1 _ _ (aM45 h), wO_isA h.1 _ _ (aM46 h), wO_isA h.1 _ _ (aM47 h)⟩
theorem pM9 {μ : mM} (h : MS μ) (x : Int32) : m_pf μ 19 9 9 .int (.int x) = some (wO μ 19 9 (.int x)) := pf_I h.1 (Nat.le_of_ble_eq_true rfl) x
theorem fM9 {μ : mM} (h : MS μ) (x : Int32) (j i : Nat) : FI (wO μ 19 9 (.int x)) j i = if j = 19 ∧ i = 9 then x else FI μ j i := wO_FI h.1 (Nat.le_of_ble_eq_true rfl) x j i
theorem bM9 {μ : mM} (h : MS μ) (x : Int32) (j : Nat) : A (wO μ 19 9 (.int x)) j = A μ j := wO_A h.1 _ _ j
theorem oM_w10 {μ : mM} (h : MS μ) (x : Int32) : (oM μ).set 10 (.int x) = oM (wO μ 19 10 (.int x)) := by
  have hl : 10 < (oM μ).length := Nat.le_of_ble_eq_true rfl
  have e : FL (wO μ 19 10 (.int x)) 19 37 = FL μ 19 37 := by
    unfold FL
    rw [wO_F h.1, if_pos rfl, h.1]
    rfl
  unfold oM
  simp only [wO_FI h.1 hl, e]
  rfl
theorem MS_w10 {μ : mM} (h : MS μ) (x : Int32) : MS (wO μ 19 10 (.int x)) := ⟨by rw [wO_F h.1, if_pos rfl, oM_w10 h], wO_isA h.1 _ _ (aM20 h), wO_isA h.1 _ _ (aM21 h), wO_isA h.1 _ _ (aM22 h), wO_isA h.1 _ _ (aM23 h), wO_isA h.1 _ _ (aM24 h), wO_isA h.1 _ _ (aM25 h), wO_isA h.1 _ _ (aM26 h), wO_isA h.1 _ _ (aM27 h), wO_isA h.1 _ _ (aM28 h), wO_isA h.1 _ _ (aM29 h), wO_isA h.1 _ _ (aM30 h), wO_isA h.1 _ _ (aM31 h), wO_isA h.1 _ _ (aM32 h), wO_isA h.1 _ _ (aM33 h), wO_isA h.1 _ _ (aM34 h), wO_isA h.1 _ _ (aM35 h), wO_isA h.1 _ _ (aM36 h), wO_isA h.1 _ _ (aM37 h), wO_isA h.1 _ _ (aM38 h), wO_isA h.1 _ _ (aM39 h), wO_isA h.1 _ _ (aM40 h), wO_isA h.1 _ _ (aM41 h), wO_isA h.1 _ _ (aM42 h), wO_isA h.1 _ _ (aM43 h), wO_isA h.1 _ _ (aM44 h), wO_isA h.1 _ _ (aM45 h), wO_isA h.1 _ _ (aM46 h), wO_isA h.1 _ _ (aM47 h)⟩
theorem pM10 {μ : mM} (h : MS μ) (x : Int32) : m_pf μ 19 9 10 .int (.int x) = some (wO μ 19 10 (.int x)) := pf_I h.1 (Nat.le_of_ble_eq_true rfl) x
theorem fM10 {μ : mM} (h : MS μ) (x : Int32) (j i : Nat) : FI (wO μ 19 10 (.int x)) j i = if j = 19 ∧ i = 10 then x else FI μ j i := wO_FI h.1 (Nat.le_of_ble_eq_true rfl) x j i
theorem bM10 {μ : mM} (h : MS μ) (x : Int32) (j : Nat) : A (wO μ 19 10 (.int x)) j = A μ j := wO_A h.1 _ _ j
theorem oM_w14 {μ : mM} (h : MS μ) (x : Int32) : (oM μ).set 14 (.int x) = oM (wO μ 19 14 (.int x)) := by
  have hl : 14 < (oM μ).length := Nat.le_of_ble_eq_true rfl
  have e : FL (wO μ 19 14 (.int x)) 19 37 = FL μ 19 37 := by
    unfold FL
    rw [wO_F h.1, if_pos rfl, h.1]
    rfl
  unfold oM
  simp only [wO_FI h.1 hl, e]
  rfl
theorem MS_w14 {μ : mM} (h : MS μ) (x : Int32) : MS (wO μ 19 14 (.int x)) := ⟨by rw [wO_F h.1, if_pos rfl, oM_w14 h], wO_isA h.1 _ _ (aM20 h), wO_isA h.1 _ _ (aM21 h), wO_isA h.1 _ _ (aM22 h), wO_isA h.1 _ _ (aM23 h), wO_isA h.1 _ _ (aM24 h), wO_isA h.1 _ _ (aM25 h), wO_isA h.1 _ _ (aM26 h), wO_isA h.1 _ _ (aM27 h), wO_isA h.1 _ _ (aM28 h), wO_isA h.1 _ _ (aM29 h), wO_isA h.1 _ _ (aM30 h), wO_isA h.1 _ _ (aM31 h), wO_isA h.1 _ _ (aM32 h), wO_isA h.1 _ _ (aM33 h), wO_isA h.1 _ _ (aM34 h), wO_isA h.1 _ _ (aM35 h), wO_isA h.1 _ _ (aM36 h), wO_isA h.1 _ _ (aM37 h), wO_isA h.1 _ _ (aM38 h), wO_isA h.1 _ _ (aM39 h), wO_isA h.1 _ _ (aM40 h), wO_isA h.1 _ _ (aM41 h), wO_isA h.1 _ _ (aM42 h), wO_isA h.1 _ _ (aM43 h), wO_isA h.1 _ _ (aM44 h), wO_isA h.1 _ _ (aM45 h), wO_isA h.1 _ _ (aM46 h), wO_isA h.1 _ _ (aM47 h)⟩
theorem pM14 {μ : mM} (h : MS μ) (x : Int32) : m_pf μ 19 9 14 .int (.int x) = some (wO μ 19 14 (.int x)) := pf_I h.1 (Nat.le_of_ble_eq_true rfl) x
theorem fM14 {μ : mM} (h : MS μ) (x : Int32) (j i : Nat) : FI (wO μ 19 14 (.int x)) j i = if j = 19 ∧ i = 14 then x else FI μ j i := wO_FI h.1 (Nat.le_of_ble_eq_true rfl) x j i
theorem bM14 {μ : mM} (h : MS μ) (x : Int32) (j : Nat) : A (wO μ 19 14 (.int x)) j = A μ j := wO_A h.1 _ _ j
theorem oM_w16 {μ : mM} (h : MS μ) (x : Int32) : (oM μ).set 16 (.int x) = oM (wO μ 19 16 (.int x)) := by
  have hl : 16 < (oM μ).length := Nat.le_of_ble_eq_true rfl
  have e : FL (wO μ 19 16 (.int x)) 19 37 = FL μ 19 37 := by
    unfold FL
    rw [wO_F h.1, if_pos rfl, h.1]
    rfl
  unfold oM
  simp only [wO_FI h.1 hl, e]
  rfl
theorem MS_w16 {μ : mM} (h : MS μ) (x : Int32) : MS (wO μ 19 16 (.int x)) := ⟨by rw [wO_F h.1, if_pos rfl, oM_w16 h], wO_isA h.1 _ _ (aM20 h), wO_isA h.1 _ _ (aM21 h), wO_isA h.1 _ _ (aM22 h), wO_isA h.1 _ _ (aM23 h), wO_isA h.1 _ _ (aM24 h), wO_isA h.1 _ _ (aM25 h), wO_isA h.1 _ _ (aM26 h), wO_isA h.1 _ _ (aM27 h), wO_isA h.1 _ _ (aM28 h), wO_isA h.1 _ _ (aM29 h), wO_isA h.1 _ _ (aM30 h), wO_isA h.1 _ _ (aM31 h), wO_isA h.1 _ _ (aM32 h), wO_isA h.1 _ _ (aM33 h), wO_isA h.1 _ _ (aM34 h), wO_isA h.1 _ _ (aM35 h), wO_isA h.1 _ _ (aM36 h), wO_isA h.1 _ _ (aM37 h), wO_isA h.1 _ _ (aM38 h), wO_isA h.1 _ _ (aM39 h), wO_isA h.1 _ _ (aM40 h), wO_isA h.1 _ _ (aM41 h), wO_isA h.1 _ _ (aM42 h), wO_isA h.1 _ _ (aM43 h), wO_isA h.1 _ _ (aM44 h), wO_isA h.1 _ _ (aM45 h), wO_isA h.1 _ _ (aM46 h), wO_isA h.1 _ _ (aM47 h)⟩
theorem pM16 {μ : mM} (h : MS μ) (x : Int32) : m_pf μ 19 9 16 .int (.int x) = some (wO μ 19 16 (.int x)) := pf_I h.1 (Nat.le_of_ble_eq_true rfl) x
theorem fM16 {μ : mM} (h : MS μ) (x : Int32) (j i : Nat) : FI (wO μ 19 16 (.int x)) j i = if j = 19 ∧ i = 16 then x else FI μ j i := wO_FI h.1 (Nat.le_of_ble_eq_true rfl) x j i
theorem bM16 {μ : mM} (h : MS μ) (x : Int32) (j : Nat) : A (wO μ 19 16 (.int x)) j = A μ j := wO_A h.1 _ _ j
theorem oM_w17 {μ : mM} (h : MS μ) (x : Int32) : (oM μ).set 17 (.int x) = oM (wO μ 19 17 (.int x)) := by
  have hl : 17 < (oM μ).length := Nat.le_of_ble_eq_true rfl
  have e : FL (wO μ 19 17 (.int x)) 19 37 = FL μ 19 37 := by
    unfold FL
    rw [wO_F h.1, if_pos rfl, h.1]
    rfl
  unfold oM
  simp only [wO_FI h.1 hl, e]
  rfl
theorem MS_w17 {μ : mM} (h : MS μ) (x : Int32) : MS (wO μ 19 17 (.int x)) := ⟨by rw [wO_F h.1, if_pos rfl, oM_w17 h], wO_isA h.1 _ _ (aM20 h), wO_isA h.1 _ _ (aM21 h), wO_isA h.1 _ _ (aM22 h), wO_isA h.1 _ _ (aM23 h), wO_isA h.1 _ _ (aM24 h), wO_isA h.1 _ _ (aM25 h), wO_isA h.1 _ _ (aM26 h), wO_isA h.1 _ _ (aM27 h), wO_isA h.1 _ _ (aM28 h), wO_isA h.1 _ _ (aM29 h), wO_isA h.1 _ _ (aM30 h), wO_isA h.1 _ _ (aM31 h), wO_isA h.1 _ _ (aM32 h), wO_isA h.1 _ _ (aM33 h), wO_isA h.1 _ _ (aM34 h), wO_isA h.1 _ _ (aM35 h), wO_isA h.1 _ _ (aM36 h), wO_isA h.1 _ _ (aM37 h), wO_isA h.1 _ _ (aM38 h), wO_isA h.1 _ _ (aM39 h), wO_isA h.1 _ _ (aM40 h), wO_isA h.1 _ _ (aM41 h), wO_isA h.1 _ _ (aM42 h), wO_isA h.1 _ _ (aM43 h), wO_isA h.1 _ _ (aM44 h), wO_isA h.1 _ _ (aM45 h), wO_isA h.1 _ _ (aM46 h), wO_isA h.1 _ _ (aM47 h)⟩
theorem pM17 {μ : mM} (h : MS μ) (x : Int32) : m_pf μ 19 9 17 .int (.int x) = some (wO μ 19 17 (.int x)) := pf_I h.1 (Nat.le_of_ble_eq_true rfl) x
theorem fM17 {μ : mM} (h : MS μ) (x : Int32) (j i : Nat) : FI (wO μ 19 17 (.int x)) j i = if j = 19 ∧ i = 17 then x else FI μ j i := wO_FI h.1 (Nat.le_of_ble_eq_true rfl) x j i
theorem bM17 {μ : mM} (h : MS μ) (x : Int32) (j : Nat) : A (wO μ 19 17 (.int x)) j = A μ j := wO_A h.1 _ _ j
theorem oM_w23 {μ : mM} (h : MS μ) (x : Int32) : (oM μ).set 23 (.int x) = oM (wO μ 19 23 (.int x)) := by
  have hl : 23 < (oM μ).length := Nat.le_of_ble_eq_true rfl
  have e : FL (wO μ 19 23 (.int x)) 19 37 = FL μ 19 37 := by
    unfold FL
    rw [wO_F h.1, if_pos rfl, h.1]
    rfl
  unfold oM
  simp only [wO_FI h.1 hl, e]
  rfl
theorem MS_w23 {μ : mM} (h : MS μ) (x : Int32) : MS (wO μ 19 23 (.int x)) := ⟨by rw [wO_F h.1, if_pos rfl, oM_w23 h], wO_isA h.1 _ _ (aM20 h), wO_isA h.1 _ _ (aM21 h), wO_isA h.1 _ _ (aM22 h), wO_isA h.1 _ _ (aM23 h), wO_isA h.1 _ _ (aM24 h), wO_isA h.1 _ _ (aM25 h), wO_isA h.1 _ _ (aM26 h), wO_isA h.1 _ _ (aM27 h), wO_isA h.1 _ _ (aM28 h), wO_isA h.1 _ _ (aM29 h), wO_isA h.1 _ _ (aM30 h), wO_isA h.1 _ _ (aM31 h), wO_isA h.1 _ _ (aM32 h), wO_isA h.1 _ _ (aM33 h), wO_isA h.1 _ _ (aM34 h), wO_isA h.1 _ _ (aM35 h), wO_isA h.1 _ _ (aM36 h), wO_isA h.1 _ _ (aM37 h), wO_isA h.1 _ _ (aM38 h), wO_isA h.1 _ _ (aM39 h), wO_isA h.1 _ _ (aM40 h), wO_isA h.1 _ _ (aM41 h), wO_isA h.1 _ _ (aM42 h), wO_isA h.1 _ _ (aM43 h), wO_isA h.1 _ _ (aM44 h), wO_isA h.1 _ _ (aM45 h), wO_isA h.1 _ _ (aM46 h), wO_isA h.1 _ _ (aM47 h)⟩
theorem pM23 {μ : mM} (h : MS μ) (x : Int32) : m_pf μ 19 9 23 .int (.int x) = some (wO μ 19 23 (.int x)) := pf_I h.1 (Nat.le_of_ble_eq_true rfl) x
theorem fM23 {μ : mM} (h : MS μ) (x : Int32) (j i : Nat) : FI (wO μ 19 23 (.int x)) j i = if j = 19 ∧ i = 23 then x else FI μ j i := wO_FI h.1 (Nat.le_of_ble_eq_true rfl) x j i
theorem bM23 {μ : mM} (h : MS μ) (x : Int32) (j : Nat) : A (wO μ 19 23 (.int x)) j = A μ j := wO_A h.1 _ _ j
theorem oM_w27 {μ : mM} (h : MS μ) (x : Int32) : (oM μ).set 27 (.int x) = oM (wO μ 19 27 (.int x)) := by
  have hl : 27 < (oM μ).length := Nat.le_of_ble_eq_true rfl
  have e : FL (wO μ 19 27 (.int x)) 19 37 = FL μ 19 37 := by
    unfold FL
    rw [wO_F h.1, if_pos rfl, h.1]
    rfl
  unfold oM
  simp only [wO_FI h.1 hl, e]
  rfl
theorem MS_w27 {μ : mM} (h : MS μ) (x : Int32) : MS (wO μ 19 27 (.int x)) := ⟨by rw [wO_F h.1, if_pos rfl, oM_w27 h], wO_isA h.1 _ _ (aM20 h), wO_isA h.1 _ _ (aM21 h), wO_isA h.1 _ _ (aM22 h), wO_isA h.1 _ _ (aM23 h), wO_isA h.1 _ _ (aM24 h), wO_isA h.1 _ _ (aM25 h), wO_isA h.1 _ _ (aM26 h), wO_isA h.1 _ _ (aM27 h), wO_isA h.1 _ _ (aM28 h), wO_isA h.1 _ _ (aM29 h), wO_isA h.1 _ _ (aM30 h), wO_isA h.1 _ _ (aM31 h), wO_isA h.1 _ _ (aM32 h), wO_isA h.1 _ _ (aM33 h), wO_isA h.1 _ _ (aM34 h), wO_isA h.1 _ _ (aM35 h), wO_isA h.1 _ _ (aM36 h), wO_isA h.1 _ _ (aM37 h), wO_isA h.1 _ _ (aM38 h), wO_isA h.1 _ _ (aM39 h), wO_isA h.1 _ _ (aM40 h), wO_isA h.1 _ _ (aM41 h), wO_isA h.1 _ _ (aM42 h), wO_isA h.1 _ _ (aM43 h), wO_isA h.1 _ _ (aM44 h), wO_isA h.1 _ _ (aM45 h), wO_isA h.1 _ _ (aM46 h), wO_isA h.1 _ _ (aM47 h)⟩
theorem pM27 {μ : mM} (h : MS μ) (x : Int32) : m_pf μ 19 9 27 .int (.int x) = some (wO μ 19 27 (.int x)) := pf_I h.1 (Nat.le_of_ble_eq_true rfl) x
theorem fM27 {μ : mM} (h : MS μ) (x : Int32) (j i : Nat) : FI (wO μ 19 27 (.int x)) j i = if j = 19 ∧ i = 27 then x else FI μ j i := wO_FI h.1 (Nat.le_of_ble_eq_true rfl) x j i
theorem bM27 {μ : mM} (h : MS μ) (x : Int32) (j : Nat) : A (wO μ 19 27 (.int x)) j = A μ j := wO_A h.1 _ _ j
