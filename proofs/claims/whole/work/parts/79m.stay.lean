/-! an object's class stays -/
def m_oce : mE → Option Nat
  | .inr (.inr q) => some q.1
  | _ => none
theorem oc_oce (μ : mM) (a : Nat) : m_oc μ a = (mF μ a).bind m_oce := by
  unfold m_oc
  cases mF μ a with
  | none => rfl
  | some e => cases e with
    | inl e => rfl
    | inr e => cases e <;> rfl
theorem oc_set {μ : mM} {a : Nat} {e e' : mE} (hfa : mF μ a = some e) (he : ∀ k, m_oce e = some k → m_oce e' = some k) : ∀ b k, m_oc μ b = some k → m_oc (m_set μ a e') b = some k := by
  intro b k h
  rw [oc_oce] at h ⊢
  rw [m_set_F]
  by_cases q : b = a
  · subst q
    rw [hfa] at h
    rw [if_pos rfl]
    exact he k h
  · rw [if_neg q]; exact h
theorem oc_new {μ : mM} {n : Nat} {e : mE} (hw : m_wf μ) : ∀ b k, m_oc μ b = some k → m_oc (m_new μ n e) b = some k := by
  intro b k h
  rw [oc_oce] at h ⊢
  rw [m_new_F]
  by_cases q : b = mN μ
  · subst q
    cases hF : mF μ (mN μ) with
    | none => rw [hF] at h; cases h
    | some e => have := hw.lt hF; omega
  · rw [if_neg q]; exact h
def m_oq (μ : mM) (z : mX) : Prop := match z with
  | .inl c => m_wf μ → ∀ b k, m_oc μ b = some k → m_oc c.2.2.2 b = some k
  | _ => True
theorem m_op {pc : Nat} {st L' : List Value} {μ : mM} : m_oq μ (.inl (pc, L', st, μ)) := fun _ _ _ h => h
theorem x_br_op {pc : Nat} {off : Int} {L st : List Value} {μ : mM} {P : Prop} [Decidable P] {z : mX} (h : x_br pc off L st μ P = some z) : m_oq μ z := by
  obtain ⟨-, ⟨-, rfl⟩ | ⟨-, rfl⟩⟩ := x_br_some h <;> exact m_op
theorem x_call_op {m cal n : Nat} {st : List Value} {μ : mM} {z : mX} (h : x_call m cal n st = some z) : m_oq μ z := by
  unfold x_call at h
  split at h <;> cases h
  trivial
set_option maxHeartbeats 4000000 in
theorem m_e0_oq {m pc : Nat} {L st : List Value} {μ : mM} {i : Instr} {z : mX} (h : m_e0 m pc L st μ i = some z) : m_oq μ z := by
  cases i with
  | iload i => obtain ⟨x, -, rfl⟩ := t_iload h; exact m_op
  | iload_n i => obtain ⟨x, -, rfl⟩ := t_iload h; exact m_op
  | lload i => obtain ⟨x, -, rfl⟩ := t_lload h; exact m_op
  | lload_n i => obtain ⟨x, -, rfl⟩ := t_lload h; exact m_op
  | aload i => obtain ⟨x, -, -, rfl⟩ := t_aload h; exact m_op
  | aload_n i => obtain ⟨x, -, -, rfl⟩ := t_aload h; exact m_op
  | istore i => obtain ⟨x, r, -, -, rfl⟩ := t_istore h; exact m_op
  | istore_n i => obtain ⟨x, r, -, -, rfl⟩ := t_istore h; exact m_op
  | lstore i => obtain ⟨x, r, -, -, -, rfl⟩ := t_lstore h; exact m_op
  | lstore_n i => obtain ⟨x, r, -, -, -, rfl⟩ := t_lstore h; exact m_op
  | astore i => obtain ⟨x, r, -, -, -, rfl⟩ := t_astore h; exact m_op
  | astore_n i => obtain ⟨x, r, -, -, -, rfl⟩ := t_astore h; exact m_op
  | iinc i n =>
    simp only [m_e0] at h
    split at h
    · cases h; exact m_op
    · cases h
  | ldc_w n => simp only [m_e0, Option.map_eq_some_iff] at h; obtain ⟨v, -, rfl⟩ := h; exact m_op
  | ldc2_w n => simp only [m_e0, Option.map_eq_some_iff] at h; obtain ⟨v, -, rfl⟩ := h; exact m_op
  | idiv => obtain ⟨x, y, r, -, h⟩ := p_ii_some h; split at h <;> cases h; exact m_op
  | irem => obtain ⟨x, y, r, -, h⟩ := p_ii_some h; split at h <;> cases h; exact m_op
  | dup => simp only [m_e0] at h; split at h <;> cases h <;> exact m_op
  | goto off => simp only [m_e0] at h; split at h <;> cases h; exact m_op
  | ifCond cc off => cases cc <;> (obtain ⟨x, r, -, h⟩ := p_i_some h; exact x_br_op h)
  | if_icmp cc off => cases cc <;> (obtain ⟨x, y, r, -, h⟩ := p_ii_some h; exact x_br_op h)
  | ifnull off =>
    simp only [m_e0] at h
    split at h
    · cases h; exact m_op
    · split at h <;> cases h; exact m_op
    · cases h
  | ifnonnull off =>
    simp only [m_e0] at h
    split at h
    · split at h <;> cases h; exact m_op
    · cases h; exact m_op
    · cases h
  | tableswitch d lo hi offs =>
    obtain ⟨x, r, -, h⟩ := p_i_some h
    split at h
    · split at h <;> cases h; exact m_op
    · rw [Option.bind_eq_some_iff] at h
      obtain ⟨off, -, h⟩ := h
      split at h <;> cases h; exact m_op
  | lookupswitch d ps =>
    obtain ⟨x, r, -, h⟩ := p_i_some h
    split at h <;> cases h; exact m_op
  | getfield i =>
    obtain ⟨a, r, -, h⟩ := p_r_some h
    rw [Option.bind_eq_some_iff] at h
    obtain ⟨q, -, h⟩ := h
    rw [Option.map_eq_some_iff] at h
    obtain ⟨v, -, rfl⟩ := h
    exact m_op
  | putfield i =>
    obtain ⟨a, v, r, -, h⟩ := p_vr_some h
    rw [Option.bind_eq_some_iff] at h
    obtain ⟨⟨q1, q2⟩, hlf, h⟩ := h
    split at h
    · rw [Option.map_eq_some_iff] at h
      obtain ⟨μ1, h1, rfl⟩ := h
      obtain ⟨fs, hfa, -, -, -, rfl⟩ := m_pf_some h1
      exact fun _ => oc_set hfa (fun k hk => hk)
    · cases h
  | iaload =>
    simp only [m_e0] at h
    split at h
    · rw [Option.map_eq_some_iff] at h; obtain ⟨v, -, rfl⟩ := h; exact m_op
    · rw [Option.map_eq_some_iff] at h; obtain ⟨v, -, rfl⟩ := h; exact m_op
    · cases h
  | baload => obtain ⟨a, i, r, -, h⟩ := p_ri_some h; rw [Option.map_eq_some_iff] at h; obtain ⟨v, -, rfl⟩ := h; exact m_op
  | aaload => obtain ⟨a, i, r, -, h⟩ := p_ri_some h; rw [Option.map_eq_some_iff] at h; obtain ⟨v, -, rfl⟩ := h; exact m_op
  | iastore =>
    obtain ⟨a, i, x, r, -, h⟩ := p_rii_some h; rw [Option.map_eq_some_iff] at h; obtain ⟨μ1, h1, rfl⟩ := h
    obtain ⟨_, _, hfa, -, rfl⟩ := m_pa_some h1
    exact fun _ => oc_set hfa (fun k hk => hk)
  | bastore =>
    obtain ⟨a, i, x, r, -, h⟩ := p_rii_some h; rw [Option.map_eq_some_iff] at h; obtain ⟨μ1, h1, rfl⟩ := h
    obtain ⟨kk, _, _, hfa, hkk, -, rfl⟩ := m_pb_some h1
    exact fun _ => oc_set hfa (fun k hk => hk)
  | aastore =>
    obtain ⟨a, i, x, r, -, h⟩ := p_rir_some h; rw [Option.map_eq_some_iff] at h; obtain ⟨μ1, h1, rfl⟩ := h
    obtain ⟨_, _, _, _, hfa, -, -, rfl⟩ := m_pr_some h1
    exact fun _ => oc_set hfa (fun k hk => hk)
  | arraylength =>
    simp only [m_e0] at h
    split at h
    · rw [Option.map_eq_some_iff] at h; obtain ⟨v, -, rfl⟩ := h; exact m_op
    · cases h; exact m_op
    · cases h
  | newarray t =>
    obtain ⟨n, r, -, h⟩ := p_i_some h
    rw [Option.bind_eq_some_iff] at h
    obtain ⟨k, hk, h⟩ := h
    split at h <;> cases h
    exact fun hw => oc_new hw
  | anewarray t =>
    obtain ⟨n, r, -, h⟩ := p_i_some h
    rw [Option.bind_eq_some_iff] at h
    obtain ⟨k, hk, h⟩ := h
    split at h
    · rename_i hn
      cases h
      exact fun hw => oc_new hw
    · cases h
  | new t =>
    simp only [m_e0] at h
    rw [Option.bind_eq_some_iff] at h
    obtain ⟨k, hk, h⟩ := h
    cases h
    exact fun hw => oc_new hw
  | invokestatic i =>
    simp only [m_e0] at h
    rw [Option.bind_eq_some_iff] at h
    obtain ⟨q, -, h⟩ := h
    split at h
    · obtain ⟨x, y, r, -, h⟩ := p_ii_some h
      split at h <;> cases h
      exact m_op
    · exact x_call_op h
  | invokevirtual i =>
    simp only [m_e0, Option.bind_eq_some_iff] at h
    obtain ⟨q, -, c0, -, z0, -, h⟩ := h
    exact x_call_op h
  | invokespecial i =>
    simp only [m_e0] at h
    rw [Option.bind_eq_some_iff] at h
    obtain ⟨q, -, h⟩ := h
    cases q with
    | none =>
      obtain ⟨a, r, -, h⟩ := p_r_some h
      split at h <;> cases h
      exact m_op
    | some q =>
      simp only at h
      split at h
      · exact x_call_op h
      · cases h
  | ireturn =>
    simp only [m_e0] at h
    split at h
    · split at h <;> cases h; exact trivial
    · cases h
  | lreturn =>
    simp only [m_e0] at h
    split at h
    · split at h <;> cases h; exact trivial
    · cases h
  | areturn =>
    simp only [m_e0] at h
    split at h
    · split at h <;> cases h; exact trivial
    · split at h <;> cases h; exact trivial
    · cases h
  | return_ =>
    simp only [m_e0] at h
    split at h <;> cases h; exact trivial
  | iconst n => cases h; exact m_op
  | bipush n => cases h; exact m_op
  | sipush n => cases h; exact m_op
  | lconst n => cases h; exact m_op
  | aconst_null => cases h; exact m_op
  | iadd => obtain ⟨x, y, r, -, h⟩ := p_ii_some h; cases h; exact m_op
  | isub => obtain ⟨x, y, r, -, h⟩ := p_ii_some h; cases h; exact m_op
  | imul => obtain ⟨x, y, r, -, h⟩ := p_ii_some h; cases h; exact m_op
  | iand => obtain ⟨x, y, r, -, h⟩ := p_ii_some h; cases h; exact m_op
  | ior => obtain ⟨x, y, r, -, h⟩ := p_ii_some h; cases h; exact m_op
  | ixor => obtain ⟨x, y, r, -, h⟩ := p_ii_some h; cases h; exact m_op
  | ishl => obtain ⟨x, y, r, -, h⟩ := p_ii_some h; cases h; exact m_op
  | ishr => obtain ⟨x, y, r, -, h⟩ := p_ii_some h; cases h; exact m_op
  | iushr => obtain ⟨x, y, r, -, h⟩ := p_ii_some h; cases h; exact m_op
  | ineg => obtain ⟨x, r, -, h⟩ := p_i_some h; cases h; exact m_op
  | ladd => obtain ⟨x, y, r, -, h⟩ := p_ll_some h; cases h; exact m_op
  | lmul => obtain ⟨x, y, r, -, h⟩ := p_ll_some h; cases h; exact m_op
  | land => obtain ⟨x, y, r, -, h⟩ := p_ll_some h; cases h; exact m_op
  | lor => obtain ⟨x, y, r, -, h⟩ := p_ll_some h; cases h; exact m_op
  | lcmp => obtain ⟨x, y, r, -, h⟩ := p_ll_some h; cases h; exact m_op
  | lshl => obtain ⟨x, y, r, -, h⟩ := p_li_some h; cases h; exact m_op
  | lushr => obtain ⟨x, y, r, -, h⟩ := p_li_some h; cases h; exact m_op
  | i2l => obtain ⟨x, r, -, h⟩ := p_i_some h; cases h; exact m_op
  | l2i => obtain ⟨x, r, -, h⟩ := p_l_some h; cases h; exact m_op
  | i2b => obtain ⟨x, r, -, h⟩ := p_i_some h; cases h; exact m_op
  | dup2 => obtain ⟨a, i, r, -, h⟩ := p_ri_some h; cases h; exact m_op
  | _ => cases h
theorem m_run_oq : ∀ (n m pc : Nat) (L st : List Value) (μ : mM) (r : Option Value × mM), m_run n m pc L st μ = some r → m_wf μ → ∀ b k, m_oc μ b = some k → m_oc r.2 b = some k := by
  intro n
  induction n with
  | zero => intro m pc L st μ r h; exact absurd h (by simp [m_run])
  | succ n ih =>
    intro m pc L st μ r h hw b k hb
    unfold m_run at h
    split at h
    · cases h
    · split at h
      · cases h
      · rename_i c hc
        have kp := m_ex_keep hc
        have kq : m_oq μ (.inl c) := by
          unfold m_ex at hc
          split at hc
          · exact m_e0_oq hc
          · cases hc
        exact ih _ _ _ _ _ _ h (kp.2.2.2.2 hw) b k (kq hw b k hb)
      · cases h; exact hb
      · rename_i q hq
        rw [Option.bind_eq_some_iff] at h
        obtain ⟨w, hw', h⟩ := h
        have h1 : m_wf w.2 ∧ m_oc w.2 b = some k := by
          split at hw'
          · refine ⟨(m_copy_keep hw').2.2.2 hw, ?_⟩
            obtain ⟨_, _, _, _, -, -, -, -, rfl⟩ := m_copy_some hw'
            exact oc_new hw b k hb
          · exact ⟨(m_run_keep _ _ _ _ _ _ _ hw').2.2.2 hw, ih _ _ _ _ _ _ hw' hw b k hb⟩
        exact ih _ _ _ _ _ _ h h1.1 b k h1.2
theorem m_D_oq {m : Nat} {args : List Value} {μ : mM} {r : Option Value × mM} (h : m_D m args μ = some r) (hm : ¬ m = m_cp) (hw : m_wf μ) : m_wf r.2 ∧ r.2.2.1 = μ.2.1 ∧ ∀ b k, m_oc μ b = some k → m_oc r.2 b = some k := by
  unfold m_D at h
  rw [if_neg hm, m_G_iff] at h
  obtain ⟨n, h⟩ := h
  have k := m_run_keep _ _ _ _ _ _ _ h
  exact ⟨k.2.2.2 hw, k.2.2.1, m_run_oq _ _ _ _ _ _ _ h hw⟩
