/-! one instruction of the machine is one of the JVM's -/
theorem p_i_some {st : List Value} {k : Int32 → List Value → Option mX} {z : mX} (h : p_i st k = some z) : ∃ x r, st = .int x :: r ∧ k x r = some z := by
  unfold p_i at h
  split at h
  · exact ⟨_, _, rfl, h⟩
  · cases h
theorem p_ii_some {st : List Value} {k : Int32 → Int32 → List Value → Option mX} {z : mX} (h : p_ii st k = some z) : ∃ x y r, st = .int y :: .int x :: r ∧ k x y r = some z := by
  unfold p_ii at h
  split at h
  · exact ⟨_, _, _, rfl, h⟩
  · cases h
theorem p_l_some {st : List Value} {k : Int64 → List Value → Option mX} {z : mX} (h : p_l st k = some z) : ∃ x r, st = .long x :: r ∧ k x r = some z := by
  unfold p_l at h
  split at h
  · exact ⟨_, _, rfl, h⟩
  · cases h
theorem p_ll_some {st : List Value} {k : Int64 → Int64 → List Value → Option mX} {z : mX} (h : p_ll st k = some z) : ∃ x y r, st = .long y :: .long x :: r ∧ k x y r = some z := by
  unfold p_ll at h
  split at h
  · exact ⟨_, _, _, rfl, h⟩
  · cases h
theorem p_li_some {st : List Value} {k : Int64 → Int32 → List Value → Option mX} {z : mX} (h : p_li st k = some z) : ∃ x y r, st = .int y :: .long x :: r ∧ k x y r = some z := by
  unfold p_li at h
  split at h
  · exact ⟨_, _, _, rfl, h⟩
  · cases h
theorem p_r_some {st : List Value} {k : Nat → List Value → Option mX} {z : mX} (h : p_r st k = some z) : ∃ x r, st = .ref x :: r ∧ k x r = some z := by
  unfold p_r at h
  split at h
  · exact ⟨_, _, rfl, h⟩
  · cases h
theorem p_vr_some {st : List Value} {k : Nat → Value → List Value → Option mX} {z : mX} (h : p_vr st k = some z) : ∃ a v r, st = v :: .ref a :: r ∧ k a v r = some z := by
  unfold p_vr at h
  split at h
  · exact ⟨_, _, _, rfl, h⟩
  · cases h
theorem p_ri_some {st : List Value} {k : Nat → Int32 → List Value → Option mX} {z : mX} (h : p_ri st k = some z) : ∃ a i r, st = .int i :: .ref a :: r ∧ k a i r = some z := by
  unfold p_ri at h
  split at h
  · exact ⟨_, _, _, rfl, h⟩
  · cases h
theorem p_rii_some {st : List Value} {k : Nat → Int32 → Int32 → List Value → Option mX} {z : mX} (h : p_rii st k = some z) : ∃ a i x r, st = .int x :: .int i :: .ref a :: r ∧ k a i x r = some z := by
  unfold p_rii at h
  split at h
  · exact ⟨_, _, _, _, rfl, h⟩
  · cases h
theorem p_rir_some {st : List Value} {k : Nat → Int32 → Nat → List Value → Option mX} {z : mX} (h : p_rir st k = some z) : ∃ a i v r, st = .ref v :: .int i :: .ref a :: r ∧ k a i v r = some z := by
  unfold p_rir at h
  split at h
  · exact ⟨_, _, _, _, rfl, h⟩
  · cases h
theorem x_to_ok {pc : Nat} {off : Int} (h : 0 ≤ (pc : Int) + off) : (pc : Int) + off = ((x_to pc off : Nat) : Int) := by
  unfold x_to
  omega
theorem x_br_some {pc : Nat} {off : Int} {L st : List Value} {μ : mM} {P : Prop} [Decidable P] {z : mX} (h : x_br pc off L st μ P = some z) : 0 ≤ (pc : Int) + off ∧ ((P ∧ z = .inl (x_to pc off, L, st, μ)) ∨ (¬ P ∧ z = .inl (pc + 3, L, st, μ))) := by
  unfold x_br at h
  split at h
  · rename_i h1
    split at h
    · rename_i h2
      cases h
      exact ⟨h1, Or.inl ⟨h2, rfl⟩⟩
    · rename_i h2
      cases h
      exact ⟨h1, Or.inr ⟨h2, rfl⟩⟩
  · cases h
theorem m_ix_in {i : Int32} {n : Nat} (h : m_ix i n = true) : vp_in i n := by
  unfold m_ix at h
  simp only [Bool.and_eq_true, decide_eq_true_eq] at h
  unfold vp_in
  rintro (q | q)
  · rw [Int32.lt_iff_toInt_lt] at q
    have h1 := Int32.le_iff_toInt_le.mp h.1
    omega
  · omega
theorem m_fit_cv {bs b : Nat} {ty : FieldType} {v : Value} (h : fits ty v = true) (hn : narrow ty v = v) : fits ty (m_cv bs b v) = true ∧ narrow ty (m_cv bs b v) = m_cv bs b v := by
  cases v with
  | ref a => cases ty <;> first | exact ⟨rfl, rfl⟩ | exact absurd h (by simp [fits])
  | retAddr k => cases ty <;> exact absurd h (by simp [fits])
  | int x => exact ⟨h, hn⟩
  | long x => exact ⟨h, hn⟩
  | float x => exact ⟨h, hn⟩
  | double x => exact ⟨h, hn⟩
  | null => exact ⟨h, hn⟩
def m_tys (dA dR : Nat → ClassId) : List (ClassId × FieldType) := [(dA 0, .int), (dA 1, .boolean), (dA 2, .byte), (dR 1, .object RX1), (dR 3, .object RX3), (dR 6, .object RX7)]
def m_Kn (dC : Nat → ClassId) (dI : Nat → Nat → Nat) (dA dR : Nat → ClassId) (U : State) : Prop := va_K (dC, dI) vwCl (m_tys dA dR) U ∧ ∀ w ∈ m_NW, va_Nw w U
def m_Cx (dC : Nat → ClassId) (dI : Nat → Nat → Nat) (dA dR : Nat → ClassId) (bs b LL : Nat) (xs : Nat → Int32) (p : Program) (R : Room) (s : State) (mid : MethodId) (args : Array Value) (meth : Method) (c : Code) (m : Nat) : Prop :=
  p.tables.exec = Jvm.exec ∧ c.code = m_code m ∧ c.maxLocals = m_maxL m ∧ s.vm.findClass (m_oN (m_own m)) = some mid.cls ∧ (∀ w ∈ m_TB, w.before args s = true) ∧ m_Kn dC dI dA dR s ∧ va_X b LL xs s s.heap ∧ meth.locks = false ∧ ((m_nam m).name = "<init>" → meth.name = "<init>") ∧ meth.sig.returnType = m_ret m ∧ m_fr m ≤ R.frames ∧ m_lo m ≤ R.locals ∧ b < bs ∧ bs ≤ s.heap.size ∧ m_oN (m_own m) = (m_nam m).cls
def m_In (bs LL : Nat) (xs : Nat → Int32) (s : State) (m : Nat) (L : List Value) (μ : mM) (cells : Nat) : Prop := m_wf μ ∧ μ.2.1 = (LL, xs) ∧ s.heap.size + cells = bs + mN μ ∧ m_lg m L
def m_J (l : Launch) (dC : Nat → ClassId) (dI : Nat → Nat → Nat) (dA dR : Nat → ClassId) (bs b LL : Nat) (xs : Nat → Int32) (p : Program) (e : Env) (R : Room) (s : State) (mid : MethodId) (args : Array Value) (below : List Frame) (meth : Method) (c : Code) (Q : State → Prop) (m pc : Nat) (L st : List Value) (μ : mM) (cells slots : Nat) : Prop :=
  m_In bs LL xs s m L μ cells → ∀ (H : Heap) (locs : List Loc) (ls : Array Slot), va_P (dC, dI) vwCl (m_W dA dR bs b μ) H → va_S (fun q => bs ≤ q) s.heap H locs → m_Lr bs b m ls L → W p l e R s mid args below meth c H locs cells slots Q (F0 mid pc ls (st.map (m_cv bs b)))
/-- a cell that was made lies at the heap's end -/
theorem m_fresh {p : Program} {l : Launch} {e : Env} {R : Room} {s T : State} {mid : MethodId} {args : Array Value} {below : List Frame} {meth : Method} {c : Code} {locs : List Loc} {cells slots : Nat} {D : va_G} {cl : List vw_C} {dA dR : Nat → ClassId} {bs b q : Nat} {μ : mM} {ee : va_E} {H1 : Heap} (hP1 : va_P D cl (m_W dA dR bs b μ ++ [(q, ee)]) H1) (hD1 : va_D (fun q => bs ≤ q) (m_W dA dR bs b μ ++ [(q, ee)])) (hT : T.heap = H1) (X : Stand p l e R s mid args below meth c T locs (cells + 1) slots) (hc : s.heap.size + cells = bs + mN μ) : q = bs + mN μ := by
  have hlen : (m_W dA dR bs b μ).length = mN μ := by unfold m_W; simp
  have hl : (m_W dA dR bs b μ ++ [(q, ee)])[mN μ]? = some (q, ee) := by
    rw [List.getElem?_append_right (by omega), hlen, Nat.sub_self]; rfl
  have h1 : q < H1.size := (hP1 _ _ hl).lt
  have h2 := X.heapSize
  rw [hT] at h2
  have h3 : bs ≤ q := hD1.2 _ _ hl
  by_cases hq : q = bs + mN μ
  · exact hq
  · have hi : q - bs < mN μ := by omega
    have h4 : (m_W dA dR bs b μ ++ [(q, ee)])[q - bs]? = some (bs + (q - bs), m_cE dA dR bs b ((mF μ (q - bs)).getD (m_ob 0 []))) := by
      rw [List.getElem?_append_left (by omega)]
      unfold m_W
      rw [List.getElem?_map, List.getElem?_range hi]
      rfl
    have h5 := hD1.1 _ _ _ _ h4 hl (by show bs + (q - bs) = q; omega)
    omega
theorem m_Wlen {dA dR : Nat → ClassId} {bs b : Nat} {μ : mM} : (m_W dA dR bs b μ).length = mN μ := by unfold m_W; simp
/-- the heap's size, as far as the machine tells it -/
theorem m_hsize {p : Program} {l : Launch} {e : Env} {R : Room} {s T : State} {mid : MethodId} {args : Array Value} {below : List Frame} {meth : Method} {c : Code} {locs : List Loc} {cells slots : Nat} {D : va_G} {cl : List vw_C} {dA dR : Nat → ClassId} {bs b : Nat} {μ : mM} {H : Heap} (hP : va_P D cl (m_W dA dR bs b μ) H) (hS : va_S (fun q => bs ≤ q) s.heap H locs) (hT : T.heap = H) (X : Stand p l e R s mid args below meth c T locs cells slots) (hc : s.heap.size + cells = bs + mN μ) (hb : bs ≤ s.heap.size) : H.size = bs + mN μ := by
  have h2 := X.heapSize
  rw [hT] at h2
  have h0 := hS.1
  by_cases hn : mN μ = 0
  · omega
  · have h4 : (m_W dA dR bs b μ)[mN μ - 1]? = some (bs + (mN μ - 1), m_cE dA dR bs b ((mF μ (mN μ - 1)).getD (m_ob 0 []))) := by
      unfold m_W
      rw [List.getElem?_map, List.getElem?_range (by omega)]
      rfl
    have h5 : bs + (mN μ - 1) < H.size := (hP _ _ h4).lt
    omega
section mstep
variable {l : Launch} {dC : Nat → ClassId} {dI : Nat → Nat → Nat} {dA dR : Nat → ClassId} {bs b LL : Nat} {xs : Nat → Int32} {p : Program} {e : Env} {R : Room} {s : State} {mid : MethodId} {args : Array Value} {below : List Frame} {meth : Method} {c : Code} {Q : State → Prop} {m pc : Nat} {L st : List Value} {μ : mM} {cells slots : Nat}
theorem m_lkF_ok {o i c k : Nat} (h : m_lkF o i = some (c, k)) : Cond.fieldLink (m_oN o) i (m_T c k).1 (m_T c k).2.1 (m_T c k).2.2.1 ∈ m_TB ∧ c < 10 ∧ k < m_nf c := by
  unfold m_lkF at h
  cases hf : m_LF.find? (fun q => q.1 == o && q.2.1 == i) with
  | none => rw [hf] at h; cases h
  | some q =>
    rw [hf] at h
    obtain ⟨h1, h2, h3⟩ := m_find hf
    have h4 := List.all_eq_true.mp m_okF_all q h1
    unfold m_okF at h4
    simp only [Bool.and_eq_true, decide_eq_true_eq] at h4
    have h5 : q.2.2.1 = (c, k) := Option.some.inj h
    rw [h5, h2, h3] at h4
    exact ⟨m_at_in h4.1.1, h4.1.2, h4.2⟩
theorem m_lkI_ok {o i : Nat} {v : Int32} (h : m_lkI o i = some v) : Cond.constant (m_oN o) i v ∈ m_TB := by
  unfold m_lkI at h
  cases hf : m_LI.find? (fun q => q.1 == o && q.2.1 == i) with
  | none => rw [hf] at h; cases h
  | some q =>
    rw [hf] at h
    obtain ⟨h1, h2, h3⟩ := m_find hf
    have h4 := List.all_eq_true.mp m_okI_all q h1
    unfold m_okI at h4
    have h5 : q.2.2.1 = v := Option.some.inj h
    rw [h5, h2, h3] at h4
    exact m_at_in h4
theorem m_lkJ_ok {o i : Nat} {v : Int64} (h : m_lkJ o i = some v) : Cond.constantLong (m_oN o) i v ∈ m_TB := by
  unfold m_lkJ at h
  cases hf : m_LJ.find? (fun q => q.1 == o && q.2.1 == i) with
  | none => rw [hf] at h; cases h
  | some q =>
    rw [hf] at h
    obtain ⟨h1, h2, h3⟩ := m_find hf
    have h4 := List.all_eq_true.mp m_okJ_all q h1
    unfold m_okJ at h4
    have h5 : q.2.2.1 = v := Option.some.inj h
    rw [h5, h2, h3] at h4
    exact m_at_in h4
theorem m_lkC_ok {o i c : Nat} (h : m_lkC o i = some c) : Cond.classLink (m_oN o) i (m_Rn c) ∈ m_TB ∧ c < 10 := by
  unfold m_lkC at h
  cases hf : m_LC.find? (fun q => q.1 == o && q.2.1 == i) with
  | none => rw [hf] at h; cases h
  | some q =>
    rw [hf] at h
    obtain ⟨h1, h2, h3⟩ := m_find hf
    have h4 := List.all_eq_true.mp m_okC_all q h1
    unfold m_okC at h4
    simp only [Bool.and_eq_true, decide_eq_true_eq] at h4
    have h5 : q.2.2.1 = c := Option.some.inj h
    rw [h5, h2, h3] at h4
    exact ⟨m_at_in h4.1, h4.2⟩
/-- a step that leaves locals and cells as they are -/
theorem j_same {pc' : Nat} {st' : List Value} (h : ∀ (H : Heap) (locs : List Loc) (ls : Array Slot), m_Lr bs b m ls L → W p l e R s mid args below meth c H locs cells slots Q (F0 mid pc' ls (st'.map (m_cv bs b))) → W p l e R s mid args below meth c H locs cells slots Q (F0 mid pc ls (st.map (m_cv bs b)))) (k : m_J l dC dI dA dR bs b LL xs p e R s mid args below meth c Q m pc' L st' μ cells slots) : m_J l dC dI dA dR bs b LL xs p e R s mid args below meth c Q m pc L st μ cells slots :=
  fun I H locs ls hP hS hL => h H locs ls hL (k I H locs ls hP hS hL)
/-- a step that stores into a local -/
theorem j_loc {pc' : Nat} {L' st' : List Value} (hg : m_lg m L → m_lg m L') (h : ∀ (H : Heap) (locs : List Loc) (ls : Array Slot), m_lg m L → m_Lr bs b m ls L → (∀ ls', m_Lr bs b m ls' L' → W p l e R s mid args below meth c H locs cells slots Q (F0 mid pc' ls' (st'.map (m_cv bs b)))) → W p l e R s mid args below meth c H locs cells slots Q (F0 mid pc ls (st.map (m_cv bs b)))) (k : m_J l dC dI dA dR bs b LL xs p e R s mid args below meth c Q m pc' L' st' μ cells slots) : m_J l dC dI dA dR bs b LL xs p e R s mid args below meth c Q m pc L st μ cells slots :=
  fun I H locs ls hP hS hL => h H locs ls I.2.2.2 hL (fun ls' hL' => k ⟨I.1, I.2.1, I.2.2.1, hg I.2.2.2⟩ H locs ls' hP hS hL')
/-- a step that changes one cell -/
theorem j_set {pc' a : Nat} {ee e' : mE} {st' : List Value} (ha : mF μ a = some ee) (ho : m_oke e') (h : ∀ (H : Heap) (locs : List Loc) (ls : Array Slot), (m_W dA dR bs b μ)[a]? = some (bs + a, m_cE dA dR bs b ee) → va_P (dC, dI) vwCl (m_W dA dR bs b μ) H → va_D (fun q => bs ≤ q) (m_W dA dR bs b μ) → va_S (fun q => bs ≤ q) s.heap H locs → (∀ (H1 : Heap) (locs1 : List Loc), va_P (dC, dI) vwCl ((m_W dA dR bs b μ).set a (bs + a, m_cE dA dR bs b e')) H1 → va_S (fun q => bs ≤ q) s.heap H1 locs1 → W p l e R s mid args below meth c H1 locs1 cells slots Q (F0 mid pc' ls (st'.map (m_cv bs b)))) → W p l e R s mid args below meth c H locs cells slots Q (F0 mid pc ls (st.map (m_cv bs b)))) (k : m_J l dC dI dA dR bs b LL xs p e R s mid args below meth c Q m pc' L st' (m_set μ a e') cells slots) : m_J l dC dI dA dR bs b LL xs p e R s mid args below meth c Q m pc L st μ cells slots := by
  intro I H locs ls hP hS hL
  have hlt := I.1.lt ha
  refine h H locs ls (m_W_get I.1 ha) hP (m_W_D μ) hS (fun H1 locs1 hP1 hS1 => ?_)
  rw [m_W_set hlt] at hP1
  exact k ⟨I.1.set hlt ho, I.2.1, I.2.2.1, I.2.2.2⟩ H1 locs1 ls hP1 hS1 hL
/-- a step that makes a cell -/
theorem j_new {pc' n : Nat} {e' : mE} {st' : List Value} (ho : m_oke e') (h : ∀ (H : Heap) (locs : List Loc) (ls : Array Slot), va_P (dC, dI) vwCl (m_W dA dR bs b μ) H → va_D (fun q => bs ≤ q) (m_W dA dR bs b μ) → va_S (fun q => bs ≤ q) s.heap H locs → (∀ (q : Nat) (H1 : Heap), va_P (dC, dI) vwCl (m_W dA dR bs b μ ++ [(q, m_cE dA dR bs b e')]) H1 → va_D (fun q => bs ≤ q) (m_W dA dR bs b μ ++ [(q, m_cE dA dR bs b e')]) → va_S (fun q => bs ≤ q) s.heap H1 locs → W p l e R s mid args below meth c H1 locs (cells + 1) (slots + n) Q (F0 mid pc' ls (.ref q :: st'.map (m_cv bs b)))) → W p l e R s mid args below meth c H locs cells slots Q (F0 mid pc ls (st.map (m_cv bs b)))) (k : m_J l dC dI dA dR bs b LL xs p e R s mid args below meth c Q m pc' L (.ref (mN μ) :: st') (m_new μ n e') (cells + 1) (slots + n)) : m_J l dC dI dA dR bs b LL xs p e R s mid args below meth c Q m pc L st μ cells slots := by
  intro I H locs ls hP hS hL
  refine h H locs ls hP (m_W_D μ) hS (fun q H1 hP1 hD1 hS1 => ?_)
  intro T hT X
  have hq := m_fresh hP1 hD1 hT X I.2.2.1
  subst hq
  rw [← m_W_new μ n] at hP1
  exact k ⟨I.1.new ho, I.2.1, by rw [m_new_N]; have := I.2.2.1; omega, I.2.2.2⟩ H1 locs ls hP1 hS1 hL T hT X
end mstep
