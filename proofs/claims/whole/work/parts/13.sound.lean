/-! the machine's run is the JVM's -/
def m_rok (m : Nat) (i : Instr) (v : Option Value) : Prop := match i, v with
  | .ireturn, some (.int x) => m_ret m = some .int ∨ (m_ret m = some .boolean ∧ x &&& 1 = x)
  | .lreturn, some (.long _) => m_ret m = some .long
  | .areturn, some (.ref _) => m_isA m = true
  | .areturn, some .null => m_isA m = true
  | .return_, none => m_ret m = none
  | _, _ => False
theorem m_ret_some {m pc len : Nat} {L st : List Value} {μ : mM} {i : Instr} {v : Option Value} (h : m_ex m pc len L st μ i = some (.inr (.inl v))) : len = 1 ∧ m_rok m i v ∧ st = v.toList := by
  obtain ⟨h1, h2, h3⟩ := m_ex_plain h rfl
  cases i with
  | ireturn =>
    refine ⟨h2, ?_⟩
    simp only [m_e0] at h3
    split at h3
    · split at h3
      · rename_i hq; cases h3; exact ⟨hq, rfl⟩
      · cases h3
    · cases h3
  | lreturn =>
    refine ⟨h2, ?_⟩
    simp only [m_e0] at h3
    split at h3
    · split at h3
      · rename_i hq; cases h3; exact ⟨hq, rfl⟩
      · cases h3
    · cases h3
  | areturn =>
    refine ⟨h2, ?_⟩
    simp only [m_e0] at h3
    split at h3
    · split at h3
      · rename_i hq; cases h3; exact ⟨hq, rfl⟩
      · cases h3
    · split at h3
      · rename_i hq; cases h3; exact ⟨hq, rfl⟩
      · cases h3
    · cases h3
  | return_ =>
    refine ⟨h2, ?_⟩
    simp only [m_e0] at h3
    split at h3
    · rename_i hq; cases h3; exact ⟨hq.2, hq.1⟩
    · cases h3
  | invokestatic j =>
    simp only [m_e0] at h3
    rw [Option.bind_eq_some_iff] at h3
    obtain ⟨q, -, h3⟩ := h3
    split at h3
    · obtain ⟨x, y, r, -, h4⟩ := p_ii_some h3
      split at h4 <;> cases h4
    · unfold x_call at h3
      split at h3 <;> cases h3
  | invokevirtual j =>
    simp only [m_e0, Option.bind_eq_some_iff] at h3
    obtain ⟨q, -, c0, -, z0, -, h3⟩ := h3
    unfold x_call at h3
    split at h3 <;> cases h3
  | invokespecial j =>
    simp only [m_e0] at h3
    rw [Option.bind_eq_some_iff] at h3
    obtain ⟨q, -, h3⟩ := h3
    cases q with
    | none =>
      obtain ⟨a, r, -, h4⟩ := p_r_some h3
      split at h4 <;> cases h4
    | some q =>
      simp only at h3
      split at h3
      · unfold x_call at h3
        split at h3 <;> cases h3
      · cases h3
  | _ => exact absurd h1 (by simp [x_plain])
/-- what a call's step says -/
def m_cok (μ : mM) (m pc : Nat) (st : List Value) (i : Instr) (q : Nat × List Value × List Value) : Prop := match i with
  | .invokestatic j => ∃ n, m_lkS (m_own m) j = some (q.1, n) ∧ q.1 ≠ m_mx ∧ x_call m q.1 n st = some (.inr (.inr q))
  | .invokevirtual j => ∃ n l a ci, m_lkV (m_own m) j = some (n, l) ∧ st[n]? = some (.ref a) ∧ m_oc μ a = some ci ∧ l.find? (fun z => z.1 == ci) = some (ci, q.1) ∧ x_call m q.1 (n + 1) st = some (.inr (.inr q))
  | .invokespecial j => ∃ n a, m_lkP (m_own m) j = some (some (q.1, n)) ∧ st[n]? = some (.ref a) ∧ x_call m q.1 (n + 1) st = some (.inr (.inr q))
  | _ => False
theorem x_call_cal {m cal n : Nat} {st : List Value} {q : Nat × List Value × List Value} (h : x_call m cal n st = some (.inr (.inr q))) : q.1 = cal := by
  unfold x_call at h
  split at h <;> cases h
  rfl
theorem m_call_some {m pc len : Nat} {L st : List Value} {μ : mM} {i : Instr} {q : Nat × List Value × List Value} (h : m_ex m pc len L st μ i = some (.inr (.inr q))) : len = 3 ∧ m_cok μ m pc st i q := by
  obtain ⟨h1, h2, h3⟩ := m_ex_plain h rfl
  cases i with
  | ireturn =>
    simp only [m_e0] at h3
    split at h3
    · split at h3 <;> cases h3
    · cases h3
  | lreturn =>
    simp only [m_e0] at h3
    split at h3
    · split at h3 <;> cases h3
    · cases h3
  | areturn =>
    simp only [m_e0] at h3
    split at h3
    · split at h3 <;> cases h3
    · split at h3 <;> cases h3
    · cases h3
  | return_ =>
    simp only [m_e0] at h3
    split at h3 <;> cases h3
  | invokestatic j =>
    refine ⟨h2, ?_⟩
    simp only [m_e0] at h3
    rw [Option.bind_eq_some_iff] at h3
    obtain ⟨z, hz, h3⟩ := h3
    split at h3
    · obtain ⟨x, y, r, -, h4⟩ := p_ii_some h3
      split at h4 <;> cases h4
    · rename_i hmx
      have hc := x_call_cal h3
      obtain ⟨z1, z2⟩ := z
      subst hc
      exact ⟨z2, hz, hmx, h3⟩
  | invokevirtual j =>
    refine ⟨h2, ?_⟩
    simp only [m_e0, Option.bind_eq_some_iff] at h3
    obtain ⟨z, hz, c0, hc0, z0, hz0, h3⟩ := h3
    have hc := x_call_cal h3
    unfold x_recv at hc0
    split at hc0
    · rename_i a ha
      have he : z0.1 = c0 := by have := List.find?_some hz0; simpa using this
      obtain ⟨z1, z2⟩ := z
      obtain ⟨y1, y2⟩ := z0
      subst hc
      cases he
      exact ⟨z1, z2, a, y1, hz, ha, hc0, hz0, h3⟩
    · cases hc0
  | invokespecial j =>
    refine ⟨h2, ?_⟩
    simp only [m_e0] at h3
    rw [Option.bind_eq_some_iff] at h3
    obtain ⟨z, hz, h3⟩ := h3
    cases z with
    | none =>
      obtain ⟨a, r, -, h4⟩ := p_r_some h3
      split at h4 <;> cases h4
    | some z =>
      simp only at h3
      split at h3
      · rename_i a ha
        have hc := x_call_cal h3
        obtain ⟨z1, z2⟩ := z
        subst hc
        exact ⟨z2, a, hz, ha, h3⟩
      · cases h3
  | _ => exact absurd h1 (by simp [x_plain])
theorem x_call_at {m cal n : Nat} {st : List Value} {q : Nat × List Value × List Value} (h : x_call m cal n st = some (.inr (.inr q))) : n ≤ st.length ∧ m_rst q.2.2 = true ∧ q.2.1.map (fun v => v.category) = m_wid cal ∧ (m_fr cal + 1 ≤ m_fr m ∧ 8 + (m_maxL cal + 11) + m_lo cal ≤ m_lo m) ∧ q.2.1 = (st.take n).reverse ∧ q.2.2 = st.drop n := by
  unfold x_call at h
  split at h
  · rename_i hc
    cases h
    obtain ⟨h1, h2, h3, h4⟩ := hc
    unfold m_room at h4
    simp only [Bool.and_eq_true, decide_eq_true_eq] at h4
    exact ⟨h1, h2, h3, h4, rfl, rfl⟩
  · cases h
theorem x_take {st : List Value} {n : Nat} {v : Value} (h : st[n]? = some v) : (st.take (n + 1)).reverse = v :: (st.take n).reverse ∧ st = st.take n ++ v :: st.drop (n + 1) := by
  have hl := (List.getElem?_eq_some_iff.mp h).1
  have hv := (List.getElem?_eq_some_iff.mp h).2
  refine ⟨?_, ?_⟩
  · rw [List.take_succ, h]
    simp
  · rw [← hv, List.getElem_cons_drop, List.take_append_drop]
/-- the locals at a method's entry -/
theorem m_spread_ls (bs b : Nat) : ∀ (vs : List Value), (lg_sl (vs.map (m_cv bs b))).length = (m_spread vs).length := by
  intro vs
  induction vs with
  | nil => rfl
  | cons v r ih =>
    have e : lg_sl ((v :: r).map (m_cv bs b)) = (if (m_cv bs b v).category = 2 then [Slot.val (m_cv bs b v), Slot.second] else [Slot.val (m_cv bs b v)]) ++ lg_sl (r.map (m_cv bs b)) := by simp [lg_sl]
    rw [e, List.length_append, ih, m_cv_cat, show m_spread (v :: r) = if v.category = 2 then v :: m_d :: m_spread r else v :: m_spread r from rfl]
    split
    · simp; omega
    · simp; omega
theorem m_spread_at (bs b : Nat) : ∀ (vs : List Value) (i j : Nat) (w : Value), (m_spread vs)[j]? = some w → w ≠ m_d → (i + j, m_cv bs b w) ∈ lv_args i (vs.map (m_cv bs b)) := by
  intro vs
  induction vs with
  | nil => intro i j w h; simp [m_spread] at h
  | cons v r ih =>
    intro i j w h hd
    simp only [List.map_cons, lv_args, m_cv_cat]
    unfold m_spread at h
    split at h
    · rename_i hc
      rw [if_pos hc]
      match j, h with
      | 0, h => cases h; exact List.mem_cons_self
      | 1, h => cases h; exact absurd rfl hd
      | j + 2, h =>
        refine List.mem_cons_of_mem _ ?_
        have := ih (i + 2) j w (by simpa using h) hd
        rwa [show i + (j + 2) = i + 2 + j by omega]
    · rename_i hc
      rw [if_neg hc]
      match j, h with
      | 0, h => cases h; exact List.mem_cons_self
      | j + 1, h =>
        refine List.mem_cons_of_mem _ ?_
        have := ih (i + 1) j w (by simpa using h) hd
        rwa [show i + (j + 1) = i + 1 + j by omega]
theorem m_spread_len : ∀ (vs : List Value), (m_spread vs).length = (vs.map (fun v => v.category)).sum := by
  intro vs
  induction vs with
  | nil => rfl
  | cons v r ih =>
    simp only [List.map_cons, List.sum_cons, m_spread]
    rcases lv_cat v with h | h
    · rw [if_neg (by omega)]; simp [ih, h]; omega
    · rw [if_pos h]; simp [ih, h]; omega
theorem m_spread_pos : ∀ (vs : List Value) (i j : Nat) (w : Value), (m_spread vs)[j]? = some w → w.category = 2 → i + j ∈ m_pos i (vs.map (fun v => v.category)) := by
  intro vs
  induction vs with
  | nil => intro i j w h; simp [m_spread] at h
  | cons v r ih =>
    intro i j w h hw
    simp only [List.map_cons, m_pos]
    unfold m_spread at h
    split at h
    · rename_i hc
      rw [if_pos hc]
      match j, h with
      | 0, h => exact List.mem_cons_self
      | 1, h => cases h; cases hw
      | j + 2, h =>
        refine List.mem_cons_of_mem _ ?_
        have := ih (i + 2) j w (by simpa using h) hw
        rwa [show i + (j + 2) = i + 2 + j by omega]
    · rename_i hc
      rw [if_neg hc]
      match j, h with
      | 0, h => cases h; exact absurd hw hc
      | j + 1, h =>
        have := ih (i + 1) j w (by simpa using h) hw
        rwa [show i + (j + 1) = i + 1 + j by omega]
theorem m_pad_ok {m : Nat} (hm : m < 175) {bs b : Nat} {vs : List Value} (h : vs.map (fun v => v.category) = m_wid m) : (m_pad m vs).length = m_maxL m ∧ m_lg m (m_pad m vs) ∧ m_Lr bs b m ((lg_sl (vs.map (m_cv bs b)) ++ List.replicate (m_maxL m - (lg_sl (vs.map (m_cv bs b))).length) Slot.unset).toArray) (m_pad m vs) := by
  have hr := m_okR_at hm
  unfold m_okR at hr
  simp only [Bool.and_eq_true, decide_eq_true_eq] at hr
  have hl : (m_spread vs).length ≤ m_maxL m := by rw [m_spread_len, h]; exact hr.1.1.2
  have hlen : (m_pad m vs).length = m_maxL m := by unfold m_pad; simp; omega
  have hget : ∀ (j : Nat) (w : Value), (m_pad m vs)[j]? = some w → w ≠ m_d → (m_spread vs)[j]? = some w := by
    intro j w hj hd
    unfold m_pad at hj
    by_cases hjl : j < (m_spread vs).length
    · rwa [List.getElem?_append_left hjl] at hj
    · rw [List.getElem?_append_right (by omega), List.getElem?_replicate] at hj
      split at hj
      · cases hj; exact absurd rfl hd
      · cases hj
  refine ⟨hlen, fun j w hj hw => ?_, ?_⟩
  · have hd : w ≠ m_d := fun q => by rw [q] at hw; cases hw
    have := m_spread_pos vs 0 j w (hget j w hj hd) hw
    rw [h, Nat.zero_add] at this
    exact List.all_eq_true.mp hr.2 j this
  · have he := lv_entry (vs.map (m_cv bs b)) (n := m_maxL m) (by rw [m_spread_ls]; exact hl)
    refine ⟨he.1, he.2.1, hlen, fun j w hj hd => ?_⟩
    have := m_spread_at bs b vs 0 j w (hget j w hj hd) hd
    rw [Nat.zero_add] at this
    exact he.2.2 _ this
