section mst
variable {l : Launch} {dC : Nat → ClassId} {dI : Nat → Nat → Nat} {dA dR : Nat → ClassId} {bs b LL : Nat} {xs : Nat → Int32} {p : Program} {e : Env} {R : Room} {s : State} {mid : MethodId} {args : Array Value} {below : List Frame} {meth : Method} {c : Code} {Q : State → Prop} {m pc : Nat} {L st : List Value} {μ : mM} {cells slots : Nat}
theorem t_iload {pc' i : Nat} {z : mX} (hx : x_ild pc' i L st μ = some z) : ∃ x, L[i]? = some (.int x) ∧ z = .inl (pc', L, .int x :: st, μ) := by
  unfold x_ild at hx
  split at hx
  · rename_i x h; cases hx; exact ⟨x, h, rfl⟩
  · cases hx
theorem t_lload {pc' i : Nat} {z : mX} (hx : x_lld pc' i L st μ = some z) : ∃ x, L[i]? = some (.long x) ∧ z = .inl (pc', L, .long x :: st, μ) := by
  unfold x_lld at hx
  split at hx
  · rename_i x h; cases hx; exact ⟨x, h, rfl⟩
  · cases hx
theorem t_aload {pc' i : Nat} {z : mX} (hx : x_ald pc' i L st μ = some z) : ∃ v, L[i]? = some v ∧ ((∃ a, v = .ref a) ∨ v = .null ∨ v = .retAddr 0) ∧ z = .inl (pc', L, v :: st, μ) := by
  unfold x_ald at hx
  split at hx
  · rename_i x h; cases hx; exact ⟨_, h, Or.inl ⟨_, rfl⟩, rfl⟩
  · rename_i h; cases hx; exact ⟨_, h, Or.inr (Or.inl rfl), rfl⟩
  · rename_i h; cases hx; exact ⟨_, h, Or.inr (Or.inr rfl), rfl⟩
  · cases hx
theorem t_istore {pc' i : Nat} {z : mX} (hx : x_ist m pc' i L st μ = some z) : ∃ x r, st = .int x :: r ∧ i < L.length ∧ z = .inl (pc', x_st m i (.int x) L, r, μ) := by
  obtain ⟨x, r, rfl, h⟩ := p_i_some hx
  split at h
  · rename_i hi; cases h; exact ⟨x, r, rfl, hi, rfl⟩
  · cases h
theorem t_lstore {pc' i : Nat} {z : mX} (hx : x_lst m pc' i L st μ = some z) : ∃ x r, st = .long x :: r ∧ i + 1 < L.length ∧ (m_LS m).contains i = true ∧ z = .inl (pc', x_st m i (.long x) (L.set (i + 1) m_d), r, μ) := by
  obtain ⟨x, r, rfl, h⟩ := p_l_some hx
  split at h
  · rename_i hi; cases h; exact ⟨x, r, rfl, hi.1, hi.2, rfl⟩
  · cases h
theorem t_astore {pc' i : Nat} {z : mX} (hx : x_ast m pc' i L st μ = some z) : ∃ v r, st = v :: r ∧ ((∃ a, v = .ref a) ∨ v = .null) ∧ i < L.length ∧ z = .inl (pc', x_st m i v L, r, μ) := by
  unfold x_ast at hx
  split at hx
  · split at hx
    · rename_i hi; cases hx; exact ⟨_, _, rfl, Or.inl ⟨_, rfl⟩, hi, rfl⟩
    · cases hx
  · split at hx
    · rename_i hi; cases hx; exact ⟨_, _, rfl, Or.inr rfl, hi, rfl⟩
    · cases hx
  · cases hx
theorem m_gf_some {a ci k : Nat} {v : Value} (h : m_gf μ a ci k = some v) : ∃ fs, mF μ a = some (m_ob ci fs) ∧ fs[k]? = some v := by
  unfold m_gf at h
  split at h
  · rename_i q hq
    split at h
    · rename_i hc
      obtain ⟨q1, q2⟩ := q
      cases hc
      exact ⟨q2, hq, h⟩
    · cases h
  · cases h
theorem m_pf_some {a ci k : Nat} {ty : FieldType} {v : Value} {μ1 : mM} (h : m_pf μ a ci k ty v = some μ1) : ∃ fs, mF μ a = some (m_ob ci fs) ∧ k < fs.length ∧ fits ty v = true ∧ narrow ty v = v ∧ μ1 = m_set μ a (m_ob ci (fs.set k v)) := by
  unfold m_pf at h
  split at h
  · rename_i q hq
    split at h
    · rename_i hc
      obtain ⟨q1, q2⟩ := q
      obtain ⟨h1, h2, h3, h4⟩ := hc
      cases h1
      cases h
      exact ⟨q2, hq, h2, h3, h4, rfl⟩
    · cases h
  · cases h
theorem m_ga_some {a : Nat} {i x : Int32} (h : m_ga μ a i = some x) : ∃ n f, mF μ a = some (m_ia 0 n f) ∧ m_ix i n = true ∧ x = f i.toNatClampNeg := by
  unfold m_ga at h
  split at h
  · rename_i q hq
    split at h
    · rename_i hc
      obtain ⟨q1, q2, q3⟩ := q
      obtain ⟨h1, h2⟩ := hc
      cases h1
      cases h
      exact ⟨q2, q3, hq, h2, rfl⟩
    · cases h
  · cases h
theorem m_gb_some {a : Nat} {i x : Int32} (h : m_gb μ a i = some x) : ∃ k n f, mF μ a = some (m_ia k n f) ∧ (k = 1 ∨ k = 2) ∧ m_ix i n = true ∧ x = f i.toNatClampNeg := by
  unfold m_gb at h
  split at h
  · rename_i q hq
    split at h
    · rename_i hc
      obtain ⟨q1, q2, q3⟩ := q
      cases h
      exact ⟨q1, q2, q3, hq, hc.1, hc.2, rfl⟩
    · cases h
  · cases h
theorem m_pa_some {a : Nat} {i x : Int32} {μ1 : mM} (h : m_pa μ a i x = some μ1) : ∃ n f, mF μ a = some (m_ia 0 n f) ∧ m_ix i n = true ∧ μ1 = m_set μ a (m_ia 0 n (upd f i.toNatClampNeg x)) := by
  unfold m_pa at h
  split at h
  · rename_i q hq
    split at h
    · rename_i hc
      obtain ⟨q1, q2, q3⟩ := q
      obtain ⟨h1, h2⟩ := hc
      cases h1
      cases h
      exact ⟨q2, q3, hq, h2, rfl⟩
    · cases h
  · cases h
theorem m_pb_some {a : Nat} {i x : Int32} {μ1 : mM} (h : m_pb μ a i x = some μ1) : ∃ k n f, mF μ a = some (m_ia k n f) ∧ (k = 1 ∨ k = 2) ∧ m_ix i n = true ∧ μ1 = m_set μ a (m_ia k n (upd f i.toNatClampNeg (vp_nar (if k = 1 then .boolean else .byte) x))) := by
  unfold m_pb at h
  split at h
  · rename_i q hq
    split at h
    · rename_i hc
      obtain ⟨q1, q2, q3⟩ := q
      cases h
      exact ⟨q1, q2, q3, hq, hc.1, hc.2, rfl⟩
    · cases h
  · cases h
theorem m_gr_some {a : Nat} {i : Int32} {o : Option Nat} (h : m_gr μ a i = some o) : ∃ ci n f, mF μ a = some (m_ra ci n f) ∧ m_ix i n = true ∧ o = f i.toNatClampNeg := by
  unfold m_gr at h
  split at h
  · rename_i q hq
    split at h
    · rename_i hc
      obtain ⟨q1, q2, q3⟩ := q
      cases h
      exact ⟨q1, q2, q3, hq, hc, rfl⟩
    · cases h
  · cases h
theorem m_pr_some {a v : Nat} {i : Int32} {μ1 : mM} (h : m_pr μ a i v = some μ1) : ∃ ci n f fs, mF μ a = some (m_ra ci n f) ∧ mF μ v = some (m_ob ci fs) ∧ m_ix i n = true ∧ μ1 = m_set μ a (m_ra ci n (va_up f i.toNatClampNeg (some v))) := by
  unfold m_pr at h
  split at h
  · rename_i q o hq ho
    split at h
    · rename_i hc
      obtain ⟨q1, q2, q3⟩ := q
      obtain ⟨o1, o2⟩ := o
      obtain ⟨h1, h2⟩ := hc
      cases h1
      cases h
      exact ⟨_, q2, q3, o2, hq, ho, h2, rfl⟩
    · cases h
  · cases h
theorem m_ln_some {a n : Nat} (h : m_ln μ a = some n) : (∃ k f, mF μ a = some (m_ia k n f)) ∨ ∃ ci f, mF μ a = some (m_ra ci n f) := by
  unfold m_ln at h
  split at h
  · rename_i q hq
    obtain ⟨q1, q2, q3⟩ := q
    cases h
    exact Or.inl ⟨_, _, hq⟩
  · rename_i q hq
    obtain ⟨q1, q2, q3⟩ := q
    cases h
    exact Or.inr ⟨_, _, hq⟩
  · cases h
theorem m_tyk {k : Nat} (h : k ≤ 2) : (m_tys dA dR)[k]? = some (dA k, if k = 0 then .int else if k = 1 then .boolean else .byte) := by
  rcases (show k = 0 ∨ k = 1 ∨ k = 2 by omega) with rfl | rfl | rfl <;> rfl
theorem m_tyr {ci : Nat} (h : ci = 1 ∨ ci = 3 ∨ ci = 6) : ∃ t0 : Nat, (m_tys dA dR)[t0]? = some (dR ci, FieldType.object (m_Rn ci)) := by
  rcases h with rfl | rfl | rfl
  · exact ⟨3, rfl⟩
  · exact ⟨4, rfl⟩
  · exact ⟨5, rfl⟩
theorem m_rlen {r : List Value} (h : r.length ≤ 4) : ((r.map (m_cv bs b)).map fun v => v.category).sum ≤ 8 := by
  have key : ∀ (r : List Value), ((r.map (m_cv bs b)).map fun v => v.category).sum ≤ 2 * r.length := by
    intro r
    induction r with
    | nil => simp
    | cons v r ih =>
      simp only [List.map_cons, List.sum_cons, List.length_cons]
      rcases lv_cat (m_cv bs b v) with q | q <;> omega
  have := key r
  omega
theorem m_rst8 {r : List Value} (h : m_rst r = true) : ((r.map (m_cv bs b)).map fun v => v.category).sum ≤ 8 := by
  unfold m_rst at h
  rw [Bool.or_eq_true, Bool.and_eq_true, decide_eq_true_eq, decide_eq_true_eq] at h
  rcases h with h | ⟨h1, h2⟩
  · exact m_rlen h
  · have key : ∀ (r : List Value), r.all (fun v => decide (v.category = 1)) = true → ((r.map (m_cv bs b)).map fun v => v.category).sum = r.length := by
      intro r
      induction r with
      | nil => intro _; rfl
      | cons v r ih =>
        intro h
        rw [List.all_cons, Bool.and_eq_true, decide_eq_true_eq] at h
        simp only [List.map_cons, List.sum_cons, List.length_cons, m_cv_cat]
        have := ih h.2
        omega
    rw [key r h2]
    exact h1
theorem m_nok {n : Int32} (h : x_nok n = true) : ¬ n < 0 ∧ n.toNatClampNeg ≤ 100000 := by
  unfold x_nok at h
  simp only [Bool.and_eq_true, decide_eq_true_eq] at h
  have h1 := Int32.le_iff_toInt_le.mp h.1
  have h2 := Int32.le_iff_toInt_le.mp h.2
  refine ⟨fun q => ?_, ?_⟩
  · have := Int32.lt_iff_toInt_lt.mp q
    omega
  · have e : n.toNatClampNeg = n.toInt.toNat := rfl
    have : (100000 : Int32).toInt = 100000 := by decide
    omega
end mst
