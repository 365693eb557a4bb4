/-! what a cell of the machine is in the JVM's heap -/
def m_cv (bs b : Nat) (v : Value) : Value := match v with
  | .ref a => .ref (bs + a)
  | .retAddr 0 => .ref b
  | v => v
theorem m_cv_i (bs b : Nat) (x : Int32) : m_cv bs b (.int x) = .int x := rfl
theorem m_cv_l (bs b : Nat) (x : Int64) : m_cv bs b (.long x) = .long x := rfl
theorem m_cv_r (bs b a : Nat) : m_cv bs b (.ref a) = .ref (bs + a) := rfl
theorem m_cv_n (bs b : Nat) : m_cv bs b .null = .null := rfl
theorem m_cv_s (bs b : Nat) : m_cv bs b (.retAddr 0) = .ref b := rfl
theorem m_cv_cat (bs b : Nat) (v : Value) : (m_cv bs b v).category = v.category := by
  unfold m_cv
  split <;> rfl
theorem m_cv_rf (bs b : Nat) (o : Option Nat) : m_cv bs b (va_rf o) = va_rf (o.map (bs + ·)) := by cases o <;> rfl
def m_cE (dA dR : Nat → ClassId) (bs b : Nat) (e : mE) : va_E := match e with
  | .inl q => .inl (dA q.1, q.2.1, .inl q.2.2)
  | .inr (.inl q) => .inl (dR q.1, q.2.1, .inr (.inr (.inr (.inr (fun j => (q.2.2 j).map (bs + ·))))))
  | .inr (.inr q) => .inr (q.1, q.2.map (m_cv bs b))
def m_W (dA dR : Nat → ClassId) (bs b : Nat) (μ : mM) : va_W := (List.range (mN μ)).map fun a => (bs + a, m_cE dA dR bs b ((mF μ a).getD (m_ob 0 [])))
def m_oke (e : mE) : Prop := match e with
  | .inl q => q.1 ≤ 2
  | .inr (.inl q) => q.1 = 1 ∨ q.1 = 3 ∨ q.1 = 6
  | .inr (.inr q) => q.1 < 10
def m_wf (μ : mM) : Prop := (∀ a, (mF μ a).isSome = true ↔ a < mN μ) ∧ ∀ a e, mF μ a = some e → m_oke e
theorem m_wf.lt {μ : mM} (h : m_wf μ) {a : Nat} {e : mE} (he : mF μ a = some e) : a < mN μ := (h.1 a).mp (by rw [he]; rfl)
theorem m_set_N (μ : mM) (a : Nat) (e : mE) : mN (m_set μ a e) = mN μ := rfl
theorem m_set_S (μ : mM) (a : Nat) (e : mE) : mS (m_set μ a e) = mS μ := rfl
theorem m_new_N (μ : mM) (k : Nat) (e : mE) : mN (m_new μ k e) = mN μ + 1 := rfl
theorem m_new_S (μ : mM) (k : Nat) (e : mE) : mS (m_new μ k e) = mS μ + k := rfl
theorem m_set_F (μ : mM) (a : Nat) (e : mE) (j : Nat) : mF (m_set μ a e) j = if j = a then some e else mF μ j := rfl
theorem m_new_F (μ : mM) (k : Nat) (e : mE) (j : Nat) : mF (m_new μ k e) j = if j = mN μ then some e else mF μ j := rfl
theorem m_wf.set {μ : mM} (h : m_wf μ) {a : Nat} (ha : a < mN μ) {e : mE} (he : m_oke e) : m_wf (m_set μ a e) := by
  refine ⟨fun j => ?_, fun j e' hj => ?_⟩
  · rw [m_set_F, m_set_N]
    by_cases hj : j = a
    · subst hj; simp [ha]
    · rw [if_neg hj]; exact h.1 j
  · rw [m_set_F] at hj
    by_cases hja : j = a
    · rw [if_pos hja] at hj; cases hj; exact he
    · rw [if_neg hja] at hj; exact h.2 j e' hj
theorem m_wf.new {μ : mM} (h : m_wf μ) {k : Nat} {e : mE} (he : m_oke e) : m_wf (m_new μ k e) := by
  refine ⟨fun j => ?_, fun j e' hj => ?_⟩
  · rw [m_new_F, m_new_N]
    by_cases hj : j = mN μ
    · subst hj; simp
    · rw [if_neg hj, h.1 j]; omega
  · rw [m_new_F] at hj
    by_cases hja : j = mN μ
    · rw [if_pos hja] at hj; cases hj; exact he
    · rw [if_neg hja] at hj; exact h.2 j e' hj
section mrel
variable {dA dR : Nat → ClassId} {bs b : Nat}
theorem m_W_get {μ : mM} (h : m_wf μ) {a : Nat} {e : mE} (he : mF μ a = some e) : (m_W dA dR bs b μ)[a]? = some (bs + a, m_cE dA dR bs b e) := by
  unfold m_W
  rw [List.getElem?_map, List.getElem?_range (h.lt he)]
  simp [he]
theorem m_W_set {μ : mM} {a : Nat} (ha : a < mN μ) (e : mE) : (m_W dA dR bs b μ).set a (bs + a, m_cE dA dR bs b e) = m_W dA dR bs b (m_set μ a e) := by
  refine List.ext_getElem? fun j => ?_
  unfold m_W
  rw [m_set_N, List.getElem?_set, List.getElem?_map, List.getElem?_map]
  by_cases hj : a = j
  · subst hj
    rw [if_pos rfl]
    simp [ha, m_set_F, List.getElem?_range]
  · rw [if_neg hj]
    by_cases hl : j < mN μ
    · rw [List.getElem?_range hl]
      simp [m_set_F, Ne.symm hj]
    · rw [List.getElem?_eq_none (by simp; omega)]
      rfl
theorem m_W_new (μ : mM) (k : Nat) (e : mE) : m_W dA dR bs b (m_new μ k e) = m_W dA dR bs b μ ++ [(bs + mN μ, m_cE dA dR bs b e)] := by
  unfold m_W
  rw [m_new_N, List.range_succ, List.map_append]
  congr 1
  · refine List.map_congr_left fun j hj => ?_
    have : j < mN μ := List.mem_range.mp hj
    rw [m_new_F, if_neg (by omega)]
  · simp [m_new_F]
theorem m_W_at {μ : mM} {k : Nat} {q : Nat × va_E} (h : (m_W dA dR bs b μ)[k]? = some q) : k < mN μ ∧ q.1 = bs + k := by
  unfold m_W at h
  rw [List.getElem?_map] at h
  by_cases hk : k < mN μ
  · rw [List.getElem?_range hk] at h
    cases h
    exact ⟨hk, rfl⟩
  · rw [List.getElem?_eq_none (by simp; omega)] at h
    cases h
theorem m_W_D (μ : mM) : va_D (fun q => bs ≤ q) (m_W dA dR bs b μ) := by
  refine ⟨fun i j p q hi hj hpq => ?_, fun k q hk => ?_⟩
  · have h1 := m_W_at hi
    have h2 := m_W_at hj
    omega
  · have h1 := m_W_at hk
    show bs ≤ q.1
    omega
end mrel
/-! locals -/
def m_lg (m : Nat) (L : List Value) : Prop := ∀ (j : Nat) (v : Value), L[j]? = some v → v.category = 2 → (m_LS m).contains j = true
def m_Lr (bs b m : Nat) (ls : Array Slot) (L : List Value) : Prop := ls.size = m_maxL m ∧ lv_wf ls ∧ L.length = m_maxL m ∧ ∀ (i : Nat) (v : Value), L[i]? = some v → v ≠ m_d → ls[i]? = some (.val (m_cv bs b v))
def m_lc (bs b : Nat) (L : List Value) : List (Nat × Value) := (List.range L.length).filterMap fun i => match L[i]? with
  | some v => if v = m_d then none else some (i, m_cv bs b v)
  | none => none
theorem m_lc_mem {bs b : Nat} {L : List Value} {q : Nat × Value} : q ∈ m_lc bs b L ↔ ∃ v, L[q.1]? = some v ∧ v ≠ m_d ∧ q.2 = m_cv bs b v := by
  unfold m_lc
  rw [List.mem_filterMap]
  constructor
  · rintro ⟨i, hi, h⟩
    split at h
    · rename_i v hv
      split at h
      · cases h
      · rename_i hd
        cases h
        exact ⟨v, hv, hd, rfl⟩
    · cases h
  · rintro ⟨v, hv, hd, he⟩
    refine ⟨q.1, List.mem_range.mpr (List.getElem?_eq_some_iff.mp hv).1, ?_⟩
    rw [hv]
    simp only [if_neg hd]
    rw [← he]
theorem m_Lr.has {bs b m : Nat} {ls : Array Slot} {L : List Value} (h : m_Lr bs b m ls L) : lv_has ls (m_maxL m) (m_lc bs b L) := by
  refine ⟨h.1, h.2.1, fun q hq => ?_⟩
  obtain ⟨v, h1, h2, h3⟩ := m_lc_mem.mp hq
  rw [h3]
  exact h.2.2.2 _ v h1 h2
theorem m_Lr.get {bs b m : Nat} {ls : Array Slot} {L : List Value} (h : m_Lr bs b m ls L) {i : Nat} {v : Value} (hv : L[i]? = some v) (hd : v ≠ m_d) : ls[i]? = some (.val (m_cv bs b v)) := h.2.2.2 i v hv hd
theorem x_st_len (m i : Nat) (v : Value) (L : List Value) : (x_st m i v L).length = L.length := by
  unfold x_st
  split <;> simp
theorem x_st_get {m i : Nat} {v : Value} {L : List Value} {j : Nat} {w : Value} (h : (x_st m i v L)[j]? = some w) (hd : w ≠ m_d) : (j = i ∧ w = v) ∨ (j ≠ i ∧ L[j]? = some w ∧ ¬ (j + 1 = i ∧ (m_LS m).contains j = true)) := by
  unfold x_st at h
  split at h
  · rename_i hc
    simp only [Bool.and_eq_true, decide_eq_true_eq] at hc
    rw [List.getElem?_set] at h
    by_cases hj : i - 1 = j
    · rw [if_pos hj] at h
      split at h
      · cases h; exact absurd rfl hd
      · cases h
    · rw [if_neg hj, List.getElem?_set] at h
      by_cases hij : i = j
      · rw [if_pos hij] at h
        split at h
        · cases h; exact Or.inl ⟨hij.symm, rfl⟩
        · cases h
      · rw [if_neg hij] at h
        exact Or.inr ⟨Ne.symm hij, h, fun q => hj (by omega)⟩
  · rename_i hc
    simp only [Bool.and_eq_true, decide_eq_true_eq] at hc
    rw [List.getElem?_set] at h
    by_cases hij : i = j
    · rw [if_pos hij] at h
      split at h
      · cases h; exact Or.inl ⟨hij.symm, rfl⟩
      · cases h
    · rw [if_neg hij] at h
      refine Or.inr ⟨Ne.symm hij, h, fun q => hc ⟨?_, by omega⟩⟩
      rw [show i - 1 = j by omega]
      exact q.2
theorem m_lg.st {m i : Nat} {v : Value} {L : List Value} (h : m_lg m L) (hv : v.category = 2 → (m_LS m).contains i = true) : m_lg m (x_st m i v L) := by
  intro j w hj hw
  have hd : w ≠ m_d := fun q => by rw [q] at hw; cases hw
  rcases x_st_get hj hd with ⟨h1, h2⟩ | ⟨-, h2, -⟩
  · rw [h1]; exact hv (by rw [← h2]; exact hw)
  · exact h j w h2 hw
/-- behind a store of a value of one slot -/
theorem m_Lr.st1 {bs b m : Nat} {ls ls' : Array Slot} {L : List Value} {i : Nat} {v : Value} (h : m_Lr bs b m ls L) (hg : m_lg m L) (h' : lv_has ls' (m_maxL m) ((i, m_cv bs b v) :: (m_lc bs b L).filter (fun q => !(q.1 == i) && !(q.1 + 1 == i && q.2.category == 2)))) : m_Lr bs b m ls' (x_st m i v L) := by
  refine ⟨h'.1, h'.2.1, by rw [x_st_len]; exact h.2.2.1, fun j w hj hd => ?_⟩
  rcases x_st_get hj hd with ⟨h1, h2⟩ | ⟨h1, h2, h3⟩
  · subst h1; subst h2
    exact h'.2.2 (j, m_cv bs b w) List.mem_cons_self
  · refine h'.2.2 (j, m_cv bs b w) (List.mem_cons_of_mem _ (List.mem_filter.mpr ⟨m_lc_mem.mpr ⟨w, h2, hd, rfl⟩, ?_⟩))
    simp only [Bool.and_eq_true, Bool.not_eq_true', beq_eq_false_iff_ne, ne_eq, Bool.and_eq_false_iff, m_cv_cat]
    refine ⟨h1, ?_⟩
    by_cases hc : w.category = 2
    · exact Or.inl (fun q => h3 ⟨q, hg j w h2 hc⟩)
    · exact Or.inr hc
/-- behind a store of a long -/
theorem m_Lr.st2 {bs b m : Nat} {ls ls' : Array Slot} {L : List Value} {i : Nat} {x : Int64} (h : m_Lr bs b m ls L) (hg : m_lg m L) (h' : lv_has ls' (m_maxL m) ((i, Value.long x) :: (m_lc bs b L).filter (fun q => !(q.1 == i) && (!(q.1 == i + 1) && !(q.1 + 1 == i && q.2.category == 2))))) : m_Lr bs b m ls' (x_st m i (.long x) (L.set (i + 1) m_d)) := by
  refine ⟨h'.1, h'.2.1, by rw [x_st_len, List.length_set]; exact h.2.2.1, fun j w hj hd => ?_⟩
  rcases x_st_get hj hd with ⟨h1, h2⟩ | ⟨h1, h2, h3⟩
  · subst h1; subst h2
    exact h'.2.2 (j, Value.long x) List.mem_cons_self
  · rw [List.getElem?_set] at h2
    by_cases hj1 : i + 1 = j
    · rw [if_pos hj1] at h2
      split at h2
      · cases h2; exact absurd rfl hd
      · cases h2
    · rw [if_neg hj1] at h2
      refine h'.2.2 (j, m_cv bs b w) (List.mem_cons_of_mem _ (List.mem_filter.mpr ⟨m_lc_mem.mpr ⟨w, h2, hd, rfl⟩, ?_⟩))
      simp only [Bool.and_eq_true, Bool.not_eq_true', beq_eq_false_iff_ne, ne_eq, Bool.and_eq_false_iff, m_cv_cat]
      refine ⟨h1, fun q => hj1 q.symm, ?_⟩
      by_cases hc : w.category = 2
      · exact Or.inl (fun q => h3 ⟨q, hg j w h2 hc⟩)
      · exact Or.inr hc
theorem m_lg.set {m i : Nat} {L : List Value} (h : m_lg m L) : m_lg m (L.set i m_d) := by
  intro j w hj hw
  rw [List.getElem?_set] at hj
  by_cases hij : i = j
  · rw [if_pos hij] at hj
    split at hj
    · cases hj; cases hw
    · cases hj
  · rw [if_neg hij] at hj
    exact h j w hj hw
