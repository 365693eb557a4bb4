/-! a method's contract out of the machine's run -/
def m_keep (L : List Value) (μ : mM) (z : mX) : Prop := match z with
  | .inl c => c.2.1.length = L.length ∧ mN μ ≤ mN c.2.2.2 ∧ mS μ ≤ mS c.2.2.2 ∧ c.2.2.2.2.1 = μ.2.1 ∧ (m_wf μ → m_wf c.2.2.2)
  | _ => True
def x_plain (i : Instr) : Bool := match i with
  | .ireturn => false
  | .lreturn => false
  | .areturn => false
  | .return_ => false
  | .invokestatic _ => false
  | .invokevirtual _ => false
  | .invokespecial _ => false
  | _ => true
def m_kq (i : Instr) (L : List Value) (μ : mM) (z : mX) : Prop := m_keep L μ z ∧ (x_plain i = true → z.isLeft = true)
theorem m_kp {i : Instr} {pc : Nat} {L st L' : List Value} {μ : mM} (h : L'.length = L.length) : m_kq i L μ (.inl (pc, L', st, μ)) := ⟨⟨h, Nat.le_refl _, Nat.le_refl _, rfl, fun h => h⟩, fun _ => rfl⟩
theorem x_br_keep {i : Instr} {pc : Nat} {off : Int} {L st : List Value} {μ : mM} {P : Prop} [Decidable P] {z : mX} (h : x_br pc off L st μ P = some z) : m_kq i L μ z := by
  obtain ⟨-, ⟨-, rfl⟩ | ⟨-, rfl⟩⟩ := x_br_some h <;> exact m_kp rfl
theorem x_call_keep {m cal n : Nat} {L st : List Value} {μ : mM} {z : mX} (h : x_call m cal n st = some z) : m_keep L μ z := by
  unfold x_call at h
  split at h <;> cases h
  trivial
set_option maxHeartbeats 4000000 in
theorem m_e0_keep {m pc : Nat} {L st : List Value} {μ : mM} {i : Instr} {z : mX} (h : m_e0 m pc L st μ i = some z) : m_kq i L μ z := by
  cases i with
  | iload i => obtain ⟨x, -, rfl⟩ := t_iload h; exact m_kp rfl
  | iload_n i => obtain ⟨x, -, rfl⟩ := t_iload h; exact m_kp rfl
  | lload i => obtain ⟨x, -, rfl⟩ := t_lload h; exact m_kp rfl
  | lload_n i => obtain ⟨x, -, rfl⟩ := t_lload h; exact m_kp rfl
  | aload i => obtain ⟨x, -, -, rfl⟩ := t_aload h; exact m_kp rfl
  | aload_n i => obtain ⟨x, -, -, rfl⟩ := t_aload h; exact m_kp rfl
  | istore i => obtain ⟨x, r, -, -, rfl⟩ := t_istore h; exact m_kp (x_st_len _ _ _ _)
  | istore_n i => obtain ⟨x, r, -, -, rfl⟩ := t_istore h; exact m_kp (x_st_len _ _ _ _)
  | lstore i => obtain ⟨x, r, -, -, -, rfl⟩ := t_lstore h; exact m_kp (by rw [x_st_len, List.length_set])
  | lstore_n i => obtain ⟨x, r, -, -, -, rfl⟩ := t_lstore h; exact m_kp (by rw [x_st_len, List.length_set])
  | astore i => obtain ⟨x, r, -, -, -, rfl⟩ := t_astore h; exact m_kp (x_st_len _ _ _ _)
  | astore_n i => obtain ⟨x, r, -, -, -, rfl⟩ := t_astore h; exact m_kp (x_st_len _ _ _ _)
  | iinc i n =>
    simp only [m_e0] at h
    split at h
    · cases h; exact m_kp (x_st_len _ _ _ _)
    · cases h
  | ldc_w n => simp only [m_e0, Option.map_eq_some_iff] at h; obtain ⟨v, -, rfl⟩ := h; exact m_kp rfl
  | ldc2_w n => simp only [m_e0, Option.map_eq_some_iff] at h; obtain ⟨v, -, rfl⟩ := h; exact m_kp rfl
  | idiv => obtain ⟨x, y, r, -, h⟩ := p_ii_some h; split at h <;> cases h; exact m_kp rfl
  | irem => obtain ⟨x, y, r, -, h⟩ := p_ii_some h; split at h <;> cases h; exact m_kp rfl
  | dup => simp only [m_e0] at h; split at h <;> cases h <;> exact m_kp rfl
  | goto off => simp only [m_e0] at h; split at h <;> cases h; exact m_kp rfl
  | ifCond cc off => cases cc <;> (obtain ⟨x, r, -, h⟩ := p_i_some h; exact x_br_keep h)
  | if_icmp cc off => cases cc <;> (obtain ⟨x, y, r, -, h⟩ := p_ii_some h; exact x_br_keep h)
  | ifnull off =>
    simp only [m_e0] at h
    split at h
    · cases h; exact m_kp rfl
    · split at h <;> cases h; exact m_kp rfl
    · cases h
  | ifnonnull off =>
    simp only [m_e0] at h
    split at h
    · split at h <;> cases h; exact m_kp rfl
    · cases h; exact m_kp rfl
    · cases h
  | tableswitch d lo hi offs =>
    obtain ⟨x, r, -, h⟩ := p_i_some h
    split at h
    · split at h <;> cases h; exact m_kp rfl
    · rw [Option.bind_eq_some_iff] at h
      obtain ⟨off, -, h⟩ := h
      split at h <;> cases h; exact m_kp rfl
  | lookupswitch d ps =>
    obtain ⟨x, r, -, h⟩ := p_i_some h
    split at h <;> cases h; exact m_kp rfl
  | getfield i =>
    obtain ⟨a, r, -, h⟩ := p_r_some h
    rw [Option.bind_eq_some_iff] at h
    obtain ⟨q, -, h⟩ := h
    rw [Option.map_eq_some_iff] at h
    obtain ⟨v, -, rfl⟩ := h
    exact m_kp rfl
  | putfield i =>
    obtain ⟨a, v, r, -, h⟩ := p_vr_some h
    rw [Option.bind_eq_some_iff] at h
    obtain ⟨⟨q1, q2⟩, hlf, h⟩ := h
    split at h
    · rw [Option.map_eq_some_iff] at h
      obtain ⟨μ1, h1, rfl⟩ := h
      obtain ⟨fs, hfa, -, -, -, rfl⟩ := m_pf_some h1
      exact ⟨⟨rfl, Nat.le_refl _, Nat.le_refl _, rfl, fun h => h.set (h.lt hfa) (m_lkF_ok hlf).2.1⟩, fun _ => rfl⟩
    · cases h
  | iaload =>
    simp only [m_e0] at h
    split at h
    · rw [Option.map_eq_some_iff] at h; obtain ⟨v, -, rfl⟩ := h; exact m_kp rfl
    · rw [Option.map_eq_some_iff] at h; obtain ⟨v, -, rfl⟩ := h; exact m_kp rfl
    · cases h
  | baload => obtain ⟨a, i, r, -, h⟩ := p_ri_some h; rw [Option.map_eq_some_iff] at h; obtain ⟨v, -, rfl⟩ := h; exact m_kp rfl
  | aaload => obtain ⟨a, i, r, -, h⟩ := p_ri_some h; rw [Option.map_eq_some_iff] at h; obtain ⟨v, -, rfl⟩ := h; exact m_kp rfl
  | iastore =>
    obtain ⟨a, i, x, r, -, h⟩ := p_rii_some h; rw [Option.map_eq_some_iff] at h; obtain ⟨μ1, h1, rfl⟩ := h
    obtain ⟨_, _, hfa, -, rfl⟩ := m_pa_some h1
    exact ⟨⟨rfl, Nat.le_refl _, Nat.le_refl _, rfl, fun h => h.set (h.lt hfa) (Nat.zero_le 2)⟩, fun _ => rfl⟩
  | bastore =>
    obtain ⟨a, i, x, r, -, h⟩ := p_rii_some h; rw [Option.map_eq_some_iff] at h; obtain ⟨μ1, h1, rfl⟩ := h
    obtain ⟨kk, _, _, hfa, hkk, -, rfl⟩ := m_pb_some h1
    exact ⟨⟨rfl, Nat.le_refl _, Nat.le_refl _, rfl, fun h => h.set (h.lt hfa) (show kk ≤ 2 by omega)⟩, fun _ => rfl⟩
  | aastore =>
    obtain ⟨a, i, x, r, -, h⟩ := p_rir_some h; rw [Option.map_eq_some_iff] at h; obtain ⟨μ1, h1, rfl⟩ := h
    obtain ⟨_, _, _, _, hfa, -, -, rfl⟩ := m_pr_some h1
    exact ⟨⟨rfl, Nat.le_refl _, Nat.le_refl _, rfl, fun h => h.set (h.lt hfa) (show _ = 1 ∨ _ = 3 ∨ _ = 6 from h.2 _ _ hfa)⟩, fun _ => rfl⟩
  | arraylength =>
    simp only [m_e0] at h
    split at h
    · rw [Option.map_eq_some_iff] at h; obtain ⟨v, -, rfl⟩ := h; exact m_kp rfl
    · cases h; exact m_kp rfl
    · cases h
  | newarray t =>
    obtain ⟨n, r, -, h⟩ := p_i_some h
    rw [Option.bind_eq_some_iff] at h
    obtain ⟨k, hk, h⟩ := h
    split at h <;> cases h
    exact ⟨⟨rfl, Nat.le_succ _, Nat.le_add_right _ _, rfl, fun h => h.new (show k ≤ 2 by unfold x_tag at hk; split at hk <;> cases hk <;> omega)⟩, fun _ => rfl⟩
  | anewarray t =>
    obtain ⟨n, r, -, h⟩ := p_i_some h
    rw [Option.bind_eq_some_iff] at h
    obtain ⟨k, hk, h⟩ := h
    split at h
    · rename_i hn
      cases h
      exact ⟨⟨rfl, Nat.le_succ _, Nat.le_add_right _ _, rfl, fun h => h.new hn.2⟩, fun _ => rfl⟩
    · cases h
  | new t =>
    simp only [m_e0] at h
    rw [Option.bind_eq_some_iff] at h
    obtain ⟨k, hk, h⟩ := h
    cases h
    exact ⟨⟨rfl, Nat.le_succ _, Nat.le_add_right _ _, rfl, fun h => h.new (m_lkC_ok hk).2⟩, fun _ => rfl⟩
  | invokestatic i =>
    simp only [m_e0] at h
    rw [Option.bind_eq_some_iff] at h
    obtain ⟨q, -, h⟩ := h
    split at h
    · obtain ⟨x, y, r, -, h⟩ := p_ii_some h
      split at h <;> cases h
      exact m_kp rfl
    · exact ⟨x_call_keep h, fun q => by simp [x_plain] at q⟩
  | invokevirtual i =>
    simp only [m_e0, Option.bind_eq_some_iff] at h
    obtain ⟨q, -, c0, -, z0, -, h⟩ := h
    exact ⟨x_call_keep h, fun q => by simp [x_plain] at q⟩
  | invokespecial i =>
    simp only [m_e0] at h
    rw [Option.bind_eq_some_iff] at h
    obtain ⟨q, -, h⟩ := h
    cases q with
    | none =>
      obtain ⟨a, r, -, h⟩ := p_r_some h
      split at h <;> cases h
      exact m_kp rfl
    | some q =>
      simp only at h
      split at h
      · exact ⟨x_call_keep h, fun q => by simp [x_plain] at q⟩
      · cases h
  | ireturn =>
    simp only [m_e0] at h
    split at h
    · split at h <;> cases h; exact ⟨trivial, fun q => by simp [x_plain] at q⟩
    · cases h
  | lreturn =>
    simp only [m_e0] at h
    split at h
    · split at h <;> cases h; exact ⟨trivial, fun q => by simp [x_plain] at q⟩
    · cases h
  | areturn =>
    simp only [m_e0] at h
    split at h
    · split at h <;> cases h; exact ⟨trivial, fun q => by simp [x_plain] at q⟩
    · split at h <;> cases h; exact ⟨trivial, fun q => by simp [x_plain] at q⟩
    · cases h
  | return_ =>
    simp only [m_e0] at h
    split at h <;> cases h; exact ⟨trivial, fun q => by simp [x_plain] at q⟩
  | iconst n => cases h; exact m_kp rfl
  | bipush n => cases h; exact m_kp rfl
  | sipush n => cases h; exact m_kp rfl
  | lconst n => cases h; exact m_kp rfl
  | aconst_null => cases h; exact m_kp rfl
  | iadd => obtain ⟨x, y, r, -, h⟩ := p_ii_some h; cases h; exact m_kp rfl
  | isub => obtain ⟨x, y, r, -, h⟩ := p_ii_some h; cases h; exact m_kp rfl
  | imul => obtain ⟨x, y, r, -, h⟩ := p_ii_some h; cases h; exact m_kp rfl
  | iand => obtain ⟨x, y, r, -, h⟩ := p_ii_some h; cases h; exact m_kp rfl
  | ior => obtain ⟨x, y, r, -, h⟩ := p_ii_some h; cases h; exact m_kp rfl
  | ixor => obtain ⟨x, y, r, -, h⟩ := p_ii_some h; cases h; exact m_kp rfl
  | ishl => obtain ⟨x, y, r, -, h⟩ := p_ii_some h; cases h; exact m_kp rfl
  | ishr => obtain ⟨x, y, r, -, h⟩ := p_ii_some h; cases h; exact m_kp rfl
  | iushr => obtain ⟨x, y, r, -, h⟩ := p_ii_some h; cases h; exact m_kp rfl
  | ineg => obtain ⟨x, r, -, h⟩ := p_i_some h; cases h; exact m_kp rfl
  | ladd => obtain ⟨x, y, r, -, h⟩ := p_ll_some h; cases h; exact m_kp rfl
  | lmul => obtain ⟨x, y, r, -, h⟩ := p_ll_some h; cases h; exact m_kp rfl
  | land => obtain ⟨x, y, r, -, h⟩ := p_ll_some h; cases h; exact m_kp rfl
  | lor => obtain ⟨x, y, r, -, h⟩ := p_ll_some h; cases h; exact m_kp rfl
  | lcmp => obtain ⟨x, y, r, -, h⟩ := p_ll_some h; cases h; exact m_kp rfl
  | lshl => obtain ⟨x, y, r, -, h⟩ := p_li_some h; cases h; exact m_kp rfl
  | lushr => obtain ⟨x, y, r, -, h⟩ := p_li_some h; cases h; exact m_kp rfl
  | i2l => obtain ⟨x, r, -, h⟩ := p_i_some h; cases h; exact m_kp rfl
  | l2i => obtain ⟨x, r, -, h⟩ := p_l_some h; cases h; exact m_kp rfl
  | i2b => obtain ⟨x, r, -, h⟩ := p_i_some h; cases h; exact m_kp rfl
  | dup2 => obtain ⟨a, i, r, -, h⟩ := p_ri_some h; cases h; exact m_kp rfl
  | _ => cases h
theorem m_ex_keep {m pc len : Nat} {L st : List Value} {μ : mM} {i : Instr} {z : mX} (h : m_ex m pc len L st μ i = some z) : m_keep L μ z := by
  unfold m_ex at h
  split at h
  · exact (m_e0_keep h).1
  · cases h
theorem m_ex_plain {m pc len : Nat} {L st : List Value} {μ : mM} {i : Instr} {z : mX} (h : m_ex m pc len L st μ i = some z) (hz : z.isLeft = false) : x_plain i = false ∧ len = x_ln i ∧ m_e0 m pc L st μ i = some z := by
  unfold m_ex at h
  split at h
  · rename_i hl
    have h1 : x_plain i = false := by
      cases q : x_plain i with
      | false => rfl
      | true => rw [(m_e0_keep h).2 q] at hz; cases hz
    refine ⟨h1, ?_, h⟩
    unfold x_plain at h1
    split at h1 <;> first | exact of_decide_eq_true hl | (simpa [x_lok] using hl) | cases h1
  · cases h
theorem m_copy_some {args : List Value} {μ : mM} {w : Option Value × mM} (h : m_copy args μ = some w) : ∃ a n len f, args = [.ref a, .int n] ∧ mF μ a = some (m_ia 0 len f) ∧ len ≤ 100000 ∧ x_nok n = true ∧ w = (some (.ref (mN μ)), m_new μ n.toNatClampNeg (m_ia 0 n.toNatClampNeg (fun j => if j < len then f j else 0))) := by
  unfold m_copy at h
  split at h
  · split at h
    · rename_i q hq
      split at h
      · rename_i hc
        obtain ⟨q1, q2, q3⟩ := q
        obtain ⟨h1, h2, h3⟩ := hc
        cases h1
        cases h
        exact ⟨_, _, _, _, rfl, hq, h2, h3, rfl⟩
      · cases h
    · cases h
  · cases h
theorem m_copy_keep {args : List Value} {μ : mM} {w : Option Value × mM} (h : m_copy args μ = some w) : mN μ ≤ mN w.2 ∧ mS μ ≤ mS w.2 ∧ w.2.2.1 = μ.2.1 ∧ (m_wf μ → m_wf w.2) := by
  obtain ⟨_, _, _, _, -, -, -, -, rfl⟩ := m_copy_some h
  exact ⟨Nat.le_succ _, Nat.le_add_right _ _, rfl, fun h => h.new (Nat.zero_le 2)⟩
theorem m_run_keep : ∀ (n m pc : Nat) (L st : List Value) (μ : mM) (r : Option Value × mM), m_run n m pc L st μ = some r → mN μ ≤ mN r.2 ∧ mS μ ≤ mS r.2 ∧ r.2.2.1 = μ.2.1 ∧ (m_wf μ → m_wf r.2) := by
  intro n
  induction n with
  | zero => intro m pc L st μ r h; exact absurd h (by simp [m_run])
  | succ n ih =>
    intro m pc L st μ r h
    unfold m_run at h
    split at h
    · cases h
    · split at h
      · cases h
      · rename_i c hc
        have k := m_ex_keep hc
        have := ih _ _ _ _ _ _ h
        exact ⟨Nat.le_trans k.2.1 this.1, Nat.le_trans k.2.2.1 this.2.1, this.2.2.1.trans k.2.2.2.1, fun h => this.2.2.2 (k.2.2.2.2 h)⟩
      · cases h; exact ⟨Nat.le_refl _, Nat.le_refl _, rfl, fun h => h⟩
      · rename_i q hq
        rw [Option.bind_eq_some_iff] at h
        obtain ⟨w, hw, h⟩ := h
        have h2 := ih _ _ _ _ _ _ h
        have h1 : mN μ ≤ mN w.2 ∧ mS μ ≤ mS w.2 ∧ w.2.2.1 = μ.2.1 ∧ (m_wf μ → m_wf w.2) := by
          split at hw
          · exact m_copy_keep hw
          · exact ih _ _ _ _ _ _ hw
        exact ⟨Nat.le_trans h1.1 h2.1, Nat.le_trans h1.2.1 h2.2.1, h2.2.2.1.trans h1.2.2.1, fun h => h2.2.2.2 (h1.2.2.2 h)⟩
def m_ws (m : Nat) : List Cond := m_cw m :: m_TB
def m_rm (m mc ms : Nat) : Room := { frames := m_fr m, cells := mc, slots := ms, locals := m_lo m }
def m_Pc (dC : Nat → ClassId) (dI : Nat → Nat → Nat) (dA dR : Nat → ClassId) (bs b LL : Nat) (xs : Nat → Int32) (args : List Value) (μ : mM) : Array Value → State → Prop := va_Pc (args.map (m_cv bs b)) (fun U => U.heap.size = bs + mN μ ∧ m_Kn dC dI dA dR U ∧ va_X b LL xs U U.heap ∧ va_P (dC, dI) vwCl (m_W dA dR bs b μ) U.heap)
def m_Qc (dC : Nat → ClassId) (dI : Nat → Nat → Nat) (dA dR : Nat → ClassId) (bs b : Nat) (r : Option Value) (μ : mM) : Array Value → State → Outcome → State → Prop := fun _ st o t => o = .returned (r.map (m_cv bs b)) ∧ va_P (dC, dI) vwCl (m_W dA dR bs b μ) t.heap ∧ va_F (fun q => bs ≤ q) st t
def m_Met (l : Launch) (dC : Nat → ClassId) (dI : Nat → Nat → Nat) (dA dR : Nat → ClassId) (bs b LL : Nat) (xs : Nat → Int32) (m : Nat) (args : List Value) (μ : mM) (r : Option Value) (μ1 : mM) : Prop :=
  Met l (m_nam m) (m_ws m) (m_rm m (mN μ1 - mN μ) (mS μ1 - mS μ)) (m_Pc dC dI dA dR bs b LL xs args μ) (m_Qc dC dI dA dR bs b r μ1) (mN μ1 - mN μ) (mS μ1 - mS μ) (fun q => bs ≤ q)
theorem m_Kn_warm {dC : Nat → ClassId} {dI : Nat → Nat → Nat} {dA dR : Nat → ClassId} {s U : State} (hW : s.WarmedH U.vm) (h : m_Kn dC dI dA dR s) : m_Kn dC dI dA dR U := ⟨va_K.moved hW.alike h.1, fun w hw => m_NW_warm hw hW (h.2 w hw)⟩
theorem m_Pc_blind {dC : Nat → ClassId} {dI : Nat → Nat → Nat} {dA dR : Nat → ClassId} {bs b LL : Nat} {xs : Nat → Int32} {args : List Value} {μ : mM} : FrameBlind (m_Pc dC dI dA dR bs b LL xs args μ) := by
  intro a U g mk q
  obtain ⟨q0, q1, q2, q3, q4⟩ := q
  exact ⟨q0, q1, m_Kn_warm (U := U.calling g mk a) (State.WarmedH.refl U) q2, va_X.moved (u := U) (U := U.calling g mk a) (Vm.Alike.refl U.vm) q3, q4⟩
theorem m_cont {p : Program} {l : Launch} {e : Env} {R : Room} {s : State} {mid : MethodId} {args : Array Value} {below : List Frame} {meth : Method} {c : Code} {H : Heap} {locs : List Loc} {cells slots mc ms : Nat} {Q : State → Prop} {dC : Nat → ClassId} {dI : Nat → Nat → Nat} {dA dR : Nat → ClassId} {bs b pc : Nat} {ls : Array Slot} {st0 : List Value} {rest : List Value} {v : Option Value} {μ1 : mM} {a0 : Array Value}
    (hr : va_Run p l e R s mid args below meth c H locs cells slots mc ms (F0 mid pc ls st0) (rest.map (m_cv bs b)) (m_Qc dC dI dA dR bs b v μ1 a0) (fun q => bs ≤ q)) (hS : va_S (fun q => bs ≤ q) s.heap H locs)
    (kk : ∀ (H1 : Heap) (locs1 : List Loc), va_P (dC, dI) vwCl (m_W dA dR bs b μ1) H1 → va_S (fun q => bs ≤ q) s.heap H1 locs1 → W p l e R s mid args below meth c H1 locs1 (cells + mc) (slots + ms) Q (F0 mid (pc + 3) ls ((v.toList ++ rest).map (m_cv bs b)))) : W p l e R s mid args below meth c H locs cells slots Q (F0 mid pc ls st0) := by
  intro T hT X
  obtain ⟨v', st₀, t, T', L, h0, X', hL, e1, e2, ⟨hv, hp, hz, hk⟩, st⟩ := hr T hT X
  cases hv
  rw [h0] at hz hk
  have hst : (v.map (m_cv bs b)).toList ++ rest.map (m_cv bs b) = (v.toList ++ rest).map (m_cv bs b) := by cases v <;> simp
  rw [hst] at st
  obtain ⟨t2, a1, b1⟩ := kk T'.heap (locs ++ L) (by rw [e1]; exact hp) ⟨Nat.le_trans hS.1 (by rw [e1]; exact hz), fun q h1 h2 => by rw [e1, hk q (Nat.lt_of_lt_of_le h1 hS.1) h2]; exact hS.2.1 q h1 h2, fun q hq => by
      rcases List.mem_append.mp hq with h | h
      · exact hS.2.2 q h
      · exact hL q h⟩ T' rfl X'
  exact ⟨t2, st t2 a1, b1⟩
theorem m_GI {ws : List Cond} (h : ∀ w ∈ ws, w ∈ m_TB) : GoodIn m_TB ws := fun w hw => m_TB_good w (h w hw)
theorem m_ws_in {m : Nat} (h : m < 174) : ∀ w ∈ m_ws m, w ∈ m_TB := by
  intro w hw
  rcases List.mem_cons.mp hw with rfl | hw
  · exact m_cw_in h
  · exact hw
