section mst2
variable {l : Launch} {dC : Nat → ClassId} {dI : Nat → Nat → Nat} {dA dR : Nat → ClassId} {bs b LL : Nat} {xs : Nat → Int32} {p : Program} {e : Env} {R : Room} {s : State} {mid : MethodId} {args : Array Value} {below : List Frame} {meth : Method} {c : Code} {Q : State → Prop} {m pc : Nat} {L st : List Value} {μ : mM} {cells slots : Nat}
theorem j_ist (hx : p.tables.exec = Jvm.exec) (hb : c.code = m_code m) {i len : Nat} {v : Value} {r : List Value} (hv : v.category = 1) (hi : i < m_maxL m) (row : ∀ (H : Heap) (locs : List Loc) (ls : Array Slot), lv_has ls (m_maxL m) (m_lc bs b L) → (∀ ls', lv_has ls' (m_maxL m) ((i, m_cv bs b v) :: (m_lc bs b L).filter (fun q => !(q.1 == i) && !(q.1 + 1 == i && q.2.category == 2))) → W p l e R s mid args below meth c H locs cells slots Q (F0 mid (pc + len) ls' (r.map (m_cv bs b)))) → W p l e R s mid args below meth c H locs cells slots Q (F0 mid pc ls (m_cv bs b v :: r.map (m_cv bs b)))) (k : m_J l dC dI dA dR bs b LL xs p e R s mid args below meth c Q m (pc + len) (x_st m i v L) r μ cells slots) : m_J l dC dI dA dR bs b LL xs p e R s mid args below meth c Q m pc L (v :: r) μ cells slots :=
  j_loc (fun h => h.st (fun q => by rw [hv] at q; cases q)) (fun H locs ls hg hL kk => row H locs ls hL.has (fun ls' hl' => kk ls' (hL.st1 hg hl'))) k
set_option maxHeartbeats 4000000 in
set_option maxRecDepth 100000 in
theorem m_st1 {len : Nat} {i : Instr} {z : Nat × List Value × List Value × mM} (C : m_Cx dC dI dA dR bs b LL xs p R s mid args meth c m) (hlen : L.length = m_maxL m) (hd : decode (m_code m) pc = .ok (i, len)) (hx0 : m_ex m pc len L st μ i = some (.inl z)) (hcl : cells + mN z.2.2.2 ≤ R.cells + mN μ) (hsl : slots + mS z.2.2.2 ≤ R.slots + mS μ) (hI : m_In bs LL xs s m L μ cells)
    (k : ∀ cells' slots', cells' + mN μ = cells + mN z.2.2.2 → slots' + mS μ = slots + mS z.2.2.2 → m_J l dC dI dA dR bs b LL xs p e R s mid args below meth c Q m z.1 z.2.1 z.2.2.1 z.2.2.2 cells' slots') : m_J l dC dI dA dR bs b LL xs p e R s mid args below meth c Q m pc L st μ cells slots := by
  obtain ⟨hx, hb, hml, hown, hts, ⟨hK, hN⟩, hX, hlk, hnm, hrt, hfr, hlo, hbb, hbs, hon⟩ := C
  unfold m_ex at hx0
  split at hx0
  · rename_i hln
    cases i with
    | iconst n =>
      simp only [x_lok, x_ln, beq_iff_eq] at hln; subst hln
      cases hx0
      exact j_same (fun H locs ls hL w => lv_iconst hx hb hd rfl w) (k _ _ rfl rfl)
    | bipush n =>
      simp only [x_lok, x_ln, beq_iff_eq] at hln; subst hln
      cases hx0
      exact j_same (fun H locs ls hL w => lv_bipush hx hb hd rfl w) (k _ _ rfl rfl)
    | sipush n =>
      simp only [x_lok, x_ln, beq_iff_eq] at hln; subst hln
      cases hx0
      exact j_same (fun H locs ls hL w => lv_sipush hx hb hd rfl w) (k _ _ rfl rfl)
    | lconst n =>
      simp only [x_lok, x_ln, beq_iff_eq] at hln; subst hln
      cases hx0
      exact j_same (fun H locs ls hL w => lv_lconst hx hb hd rfl w) (k _ _ rfl rfl)
    | ldc_w n =>
      simp only [x_lok, x_ln, beq_iff_eq] at hln; subst hln
      simp only [m_e0, Option.map_eq_some_iff] at hx0
      obtain ⟨v, hv, hz⟩ := hx0
      cases hz
      exact j_same (fun H locs ls hL w => lv_ldcw hx hb hown (hts _ (m_lkI_ok hv)) hd w) (k _ _ rfl rfl)
    | ldc2_w n =>
      simp only [x_lok, x_ln, beq_iff_eq] at hln; subst hln
      simp only [m_e0, Option.map_eq_some_iff] at hx0
      obtain ⟨v, hv, hz⟩ := hx0
      cases hz
      exact j_same (fun H locs ls hL w => lv_ldc2 hx hb hown (hts _ (m_lkJ_ok hv)) hd w) (k _ _ rfl rfl)
    | aconst_null =>
      simp only [x_lok, x_ln, beq_iff_eq] at hln; subst hln
      cases hx0
      exact j_same (fun H locs ls hL w => lv_null hx hb hd w) (k _ _ rfl rfl)
    | iload i =>
      simp only [x_lok, x_ln, beq_iff_eq] at hln; subst hln
      obtain ⟨x, h1, h2⟩ := t_iload hx0
      cases h2
      exact j_same (fun H locs ls hL w => lv_iload hx hb hd (hL.get h1 (fun q => by cases q)) w) (k _ _ rfl rfl)
    | iload_n i =>
      simp only [x_lok, x_ln, beq_iff_eq] at hln; subst hln
      obtain ⟨x, h1, h2⟩ := t_iload hx0
      cases h2
      exact j_same (fun H locs ls hL w => lv_iload_n hx hb hd rfl (hL.get h1 (fun q => by cases q)) w) (k _ _ rfl rfl)
    | lload i =>
      simp only [x_lok, x_ln, beq_iff_eq] at hln; subst hln
      obtain ⟨x, h1, h2⟩ := t_lload hx0
      cases h2
      exact j_same (fun H locs ls hL w => lv_lload hx hb hd (hL.get h1 (fun q => by cases q)) w) (k _ _ rfl rfl)
    | lload_n i =>
      simp only [x_lok, x_ln, beq_iff_eq] at hln; subst hln
      obtain ⟨x, h1, h2⟩ := t_lload hx0
      cases h2
      exact j_same (fun H locs ls hL w => lv_lload_n hx hb hd rfl (hL.get h1 (fun q => by cases q)) w) (k _ _ rfl rfl)
    | aload i =>
      simp only [x_lok, x_ln, beq_iff_eq] at hln; subst hln
      obtain ⟨v, h1, h3, h2⟩ := t_aload hx0
      cases h2
      rcases h3 with ⟨a, rfl⟩ | rfl | rfl
      · exact j_same (fun H locs ls hL w => lv_aload hx hb hd (hL.get h1 (fun q => by cases q)) w) (k _ _ rfl rfl)
      · exact j_same (fun H locs ls hL w => lv_aloadN hx hb hd (hL.get h1 (fun q => by cases q)) w) (k _ _ rfl rfl)
      · exact j_same (fun H locs ls hL w => lv_aload hx hb hd (hL.get h1 (fun q => by cases q)) w) (k _ _ rfl rfl)
    | aload_n i =>
      simp only [x_lok, x_ln, beq_iff_eq] at hln; subst hln
      obtain ⟨v, h1, h3, h2⟩ := t_aload hx0
      cases h2
      rcases h3 with ⟨a, rfl⟩ | rfl | rfl
      · exact j_same (fun H locs ls hL w => lv_aload_n hx hb hd rfl (hL.get h1 (fun q => by cases q)) w) (k _ _ rfl rfl)
      · exact j_same (fun H locs ls hL w => lv_aload_nN hx hb hd rfl (hL.get h1 (fun q => by cases q)) w) (k _ _ rfl rfl)
      · exact j_same (fun H locs ls hL w => lv_aload_n hx hb hd rfl (hL.get h1 (fun q => by cases q)) w) (k _ _ rfl rfl)
    | istore i =>
      simp only [x_lok, x_ln, beq_iff_eq] at hln; subst hln
      obtain ⟨x, r, rfl, h1, h2⟩ := t_istore hx0
      cases h2
      exact j_ist hx hb rfl (hlen ▸ h1) (fun H locs ls hh kk => lv_istore hx hb hd hh (hlen ▸ h1) rfl kk) (k _ _ rfl rfl)
    | istore_n i =>
      simp only [x_lok, x_ln, beq_iff_eq] at hln; subst hln
      obtain ⟨x, r, rfl, h1, h2⟩ := t_istore hx0
      cases h2
      exact j_ist hx hb rfl (hlen ▸ h1) (fun H locs ls hh kk => lv_istore_n hx hb hd rfl hh (hlen ▸ h1) rfl kk) (k _ _ rfl rfl)
    | astore i =>
      simp only [x_lok, x_ln, beq_iff_eq] at hln; subst hln
      obtain ⟨v, r, rfl, h3, h1, h2⟩ := t_astore hx0
      cases h2
      rcases h3 with ⟨a, rfl⟩ | rfl
      · exact j_ist hx hb rfl (hlen ▸ h1) (fun H locs ls hh kk => lv_astore hx hb hd hh (hlen ▸ h1) rfl kk) (k _ _ rfl rfl)
      · exact j_ist hx hb rfl (hlen ▸ h1) (fun H locs ls hh kk => lv_astoreN hx hb hd hh (hlen ▸ h1) rfl kk) (k _ _ rfl rfl)
    | astore_n i =>
      simp only [x_lok, x_ln, beq_iff_eq] at hln; subst hln
      obtain ⟨v, r, rfl, h3, h1, h2⟩ := t_astore hx0
      cases h2
      rcases h3 with ⟨a, rfl⟩ | rfl
      · exact j_ist hx hb rfl (hlen ▸ h1) (fun H locs ls hh kk => lv_astore_n hx hb hd rfl hh (hlen ▸ h1) rfl kk) (k _ _ rfl rfl)
      · exact j_ist hx hb rfl (hlen ▸ h1) (fun H locs ls hh kk => lv_astore_nN hx hb hd rfl hh (hlen ▸ h1) rfl kk) (k _ _ rfl rfl)
    | lstore i =>
      simp only [x_lok, x_ln, beq_iff_eq] at hln; subst hln
      obtain ⟨x, r, rfl, h1, h3, h2⟩ := t_lstore hx0
      cases h2
      exact j_loc (fun h => h.set.st (fun _ => h3)) (fun H locs ls hg hL kk => lv_lstore hx hb hd hL.has (hlen ▸ h1) rfl (fun ls' hl' => kk ls' (hL.st2 hg hl'))) (k _ _ rfl rfl)
    | lstore_n i =>
      simp only [x_lok, x_ln, beq_iff_eq] at hln; subst hln
      obtain ⟨x, r, rfl, h1, h3, h2⟩ := t_lstore hx0
      cases h2
      exact j_loc (fun h => h.set.st (fun _ => h3)) (fun H locs ls hg hL kk => lv_lstore_n hx hb hd rfl hL.has (hlen ▸ h1) rfl (fun ls' hl' => kk ls' (hL.st2 hg hl'))) (k _ _ rfl rfl)
    | iinc i n =>
      simp only [x_lok, x_ln, beq_iff_eq] at hln; subst hln
      simp only [m_e0] at hx0
      split at hx0
      · rename_i x h1
        cases hx0
        have hi : i < m_maxL m := hlen ▸ (List.getElem?_eq_some_iff.mp h1).1
        refine j_loc (fun h => h.st (fun q => by cases q)) (fun H locs ls hg hL kk => ?_) (k _ _ rfl rfl)
        obtain ⟨kk0, hk0⟩ := List.getElem?_of_mem (m_lc_mem (bs := bs) (b := b) (q := (i, .int x)).mpr ⟨_, h1, (fun q => by cases q), rfl⟩)
        exact lv_iinc hx hb hd hL.has hk0 rfl hi rfl (fun ls' hl' => kk ls' (hL.st1 hg hl'))
      · cases hx0
    | iadd =>
      simp only [x_lok, x_ln, beq_iff_eq] at hln; subst hln
      obtain ⟨x, y, r, rfl, h⟩ := p_ii_some hx0
      cases h
      exact j_same (fun H locs ls hL w => lv_iadd hx hb hd w) (k _ _ rfl rfl)
    | isub =>
      simp only [x_lok, x_ln, beq_iff_eq] at hln; subst hln
      obtain ⟨x, y, r, rfl, h⟩ := p_ii_some hx0
      cases h
      exact j_same (fun H locs ls hL w => lv_isub hx hb hd w) (k _ _ rfl rfl)
    | imul =>
      simp only [x_lok, x_ln, beq_iff_eq] at hln; subst hln
      obtain ⟨x, y, r, rfl, h⟩ := p_ii_some hx0
      cases h
      exact j_same (fun H locs ls hL w => lv_imul hx hb hd w) (k _ _ rfl rfl)
    | iand =>
      simp only [x_lok, x_ln, beq_iff_eq] at hln; subst hln
      obtain ⟨x, y, r, rfl, h⟩ := p_ii_some hx0
      cases h
      exact j_same (fun H locs ls hL w => lv_iand hx hb hd w) (k _ _ rfl rfl)
    | ior =>
      simp only [x_lok, x_ln, beq_iff_eq] at hln; subst hln
      obtain ⟨x, y, r, rfl, h⟩ := p_ii_some hx0
      cases h
      exact j_same (fun H locs ls hL w => lv_ior hx hb hd w) (k _ _ rfl rfl)
    | ixor =>
      simp only [x_lok, x_ln, beq_iff_eq] at hln; subst hln
      obtain ⟨x, y, r, rfl, h⟩ := p_ii_some hx0
      cases h
      exact j_same (fun H locs ls hL w => lv_ixor hx hb hd w) (k _ _ rfl rfl)
    | ishl =>
      simp only [x_lok, x_ln, beq_iff_eq] at hln; subst hln
      obtain ⟨x, y, r, rfl, h⟩ := p_ii_some hx0
      cases h
      exact j_same (fun H locs ls hL w => lv_ishl hx hb hd w) (k _ _ rfl rfl)
    | ishr =>
      simp only [x_lok, x_ln, beq_iff_eq] at hln; subst hln
      obtain ⟨x, y, r, rfl, h⟩ := p_ii_some hx0
      cases h
      exact j_same (fun H locs ls hL w => lv_ishr hx hb hd w) (k _ _ rfl rfl)
    | iushr =>
      simp only [x_lok, x_ln, beq_iff_eq] at hln; subst hln
      obtain ⟨x, y, r, rfl, h⟩ := p_ii_some hx0
      cases h
      exact j_same (fun H locs ls hL w => lv_iushr hx hb hd rfl w) (k _ _ rfl rfl)
    | idiv =>
      simp only [x_lok, x_ln, beq_iff_eq] at hln; subst hln
      obtain ⟨x, y, r, rfl, h⟩ := p_ii_some hx0
      split at h
      · cases h
      · rename_i hy
        cases h
        exact j_same (fun H locs ls hL w => lv_idiv hx hb hd hy w) (k _ _ rfl rfl)
    | irem =>
      simp only [x_lok, x_ln, beq_iff_eq] at hln; subst hln
      obtain ⟨x, y, r, rfl, h⟩ := p_ii_some hx0
      split at h
      · cases h
      · rename_i hy
        cases h
        exact j_same (fun H locs ls hL w => lv_irem hx hb hd hy w) (k _ _ rfl rfl)
    | ineg =>
      simp only [x_lok, x_ln, beq_iff_eq] at hln; subst hln
      obtain ⟨x, r, rfl, h⟩ := p_i_some hx0
      cases h
      exact j_same (fun H locs ls hL w => lv_ineg hx hb hd w) (k _ _ rfl rfl)
    | ladd =>
      simp only [x_lok, x_ln, beq_iff_eq] at hln; subst hln
      obtain ⟨x, y, r, rfl, h⟩ := p_ll_some hx0
      cases h
      exact j_same (fun H locs ls hL w => lv_ladd hx hb hd w) (k _ _ rfl rfl)
    | lmul =>
      simp only [x_lok, x_ln, beq_iff_eq] at hln; subst hln
      obtain ⟨x, y, r, rfl, h⟩ := p_ll_some hx0
      cases h
      exact j_same (fun H locs ls hL w => lv_lmul hx hb hd w) (k _ _ rfl rfl)
    | land =>
      simp only [x_lok, x_ln, beq_iff_eq] at hln; subst hln
      obtain ⟨x, y, r, rfl, h⟩ := p_ll_some hx0
      cases h
      exact j_same (fun H locs ls hL w => lv_land hx hb hd w) (k _ _ rfl rfl)
    | lor =>
      simp only [x_lok, x_ln, beq_iff_eq] at hln; subst hln
      obtain ⟨x, y, r, rfl, h⟩ := p_ll_some hx0
      cases h
      exact j_same (fun H locs ls hL w => lv_lor hx hb hd w) (k _ _ rfl rfl)
    | lcmp =>
      simp only [x_lok, x_ln, beq_iff_eq] at hln; subst hln
      obtain ⟨x, y, r, rfl, h⟩ := p_ll_some hx0
      cases h
      exact j_same (fun H locs ls hL w => W.lcmp hx hb hd w) (k _ _ rfl rfl)
    | lshl =>
      simp only [x_lok, x_ln, beq_iff_eq] at hln; subst hln
      obtain ⟨x, y, r, rfl, h⟩ := p_li_some hx0
      cases h
      exact j_same (fun H locs ls hL w => lv_lshl hx hb hd rfl w) (k _ _ rfl rfl)
    | lushr =>
      simp only [x_lok, x_ln, beq_iff_eq] at hln; subst hln
      obtain ⟨x, y, r, rfl, h⟩ := p_li_some hx0
      cases h
      exact j_same (fun H locs ls hL w => lv_lushr hx hb hd rfl w) (k _ _ rfl rfl)
    | i2l =>
      simp only [x_lok, x_ln, beq_iff_eq] at hln; subst hln
      obtain ⟨x, r, rfl, h⟩ := p_i_some hx0
      cases h
      exact j_same (fun H locs ls hL w => lv_i2l hx hb hd rfl w) (k _ _ rfl rfl)
    | l2i =>
      simp only [x_lok, x_ln, beq_iff_eq] at hln; subst hln
      obtain ⟨x, r, rfl, h⟩ := p_l_some hx0
      cases h
      exact j_same (fun H locs ls hL w => lv_l2i hx hb hd rfl w) (k _ _ rfl rfl)
    | i2b =>
      simp only [x_lok, x_ln, beq_iff_eq] at hln; subst hln
      obtain ⟨x, r, rfl, h⟩ := p_i_some hx0
      cases h
      exact j_same (fun H locs ls hL w => lv_i2b hx hb hd rfl w) (k _ _ rfl rfl)
    | dup =>
      simp only [x_lok, x_ln, beq_iff_eq] at hln; subst hln
      simp only [m_e0] at hx0
      split at hx0
      · cases hx0
        exact j_same (fun H locs ls hL w => lv_dup hx hb hd rfl w) (k _ _ rfl rfl)
      · cases hx0
        exact j_same (fun H locs ls hL w => lv_dup hx hb hd rfl w) (k _ _ rfl rfl)
      · cases hx0
    | dup2 =>
      simp only [x_lok, x_ln, beq_iff_eq] at hln; subst hln
      obtain ⟨a, i, r, rfl, h⟩ := p_ri_some hx0
      cases h
      exact j_same (fun H locs ls hL w => lv_dup2_11 hx hb hd rfl rfl w) (k _ _ rfl rfl)
    | goto off =>
      simp only [x_lok, x_ln, beq_iff_eq] at hln; subst hln
      simp only [m_e0] at hx0
      split at hx0
      · rename_i h0
        cases hx0
        exact j_same (fun H locs ls hL w => lv_goto hx hb hd (x_to_ok h0) w) (k _ _ rfl rfl)
      · cases hx0
    | ifCond cc off =>
      simp only [x_lok, x_ln, beq_iff_eq] at hln; subst hln
      cases cc with
      | eq =>
        obtain ⟨x, r, rfl, h⟩ := p_i_some hx0
        obtain ⟨h0, ⟨hp, hz⟩ | ⟨hp, hz⟩⟩ := x_br_some h <;> cases hz
        · exact j_same (fun H locs ls hL w => lv_if_eq hx hb hd (x_to_ok h0) (fun _ => w) (fun q => absurd hp q)) (k _ _ rfl rfl)
        · exact j_same (fun H locs ls hL w => lv_if_eq hx hb hd (x_to_ok h0) (fun q => absurd q hp) (fun _ => w)) (k _ _ rfl rfl)
      | ne =>
        obtain ⟨x, r, rfl, h⟩ := p_i_some hx0
        obtain ⟨h0, ⟨hp, hz⟩ | ⟨hp, hz⟩⟩ := x_br_some h <;> cases hz
        · exact j_same (fun H locs ls hL w => lv_if_ne hx hb hd (x_to_ok h0) (fun _ => w) (fun q => by first | exact absurd hp q | exact absurd q hp)) (k _ _ rfl rfl)
        · exact j_same (fun H locs ls hL w => lv_if_ne hx hb hd (x_to_ok h0) (fun q => absurd q hp) (fun _ => w)) (k _ _ rfl rfl)
      | lt =>
        obtain ⟨x, r, rfl, h⟩ := p_i_some hx0
        obtain ⟨h0, ⟨hp, hz⟩ | ⟨hp, hz⟩⟩ := x_br_some h <;> cases hz
        · exact j_same (fun H locs ls hL w => lv_if_lt hx hb hd (x_to_ok h0) (fun _ => w) (fun q => absurd hp q)) (k _ _ rfl rfl)
        · exact j_same (fun H locs ls hL w => lv_if_lt hx hb hd (x_to_ok h0) (fun q => absurd q hp) (fun _ => w)) (k _ _ rfl rfl)
      | ge =>
        obtain ⟨x, r, rfl, h⟩ := p_i_some hx0
        obtain ⟨h0, ⟨hp, hz⟩ | ⟨hp, hz⟩⟩ := x_br_some h <;> cases hz
        · exact j_same (fun H locs ls hL w => lv_if_ge hx hb hd (x_to_ok h0) (fun _ => w) (fun q => absurd hp q)) (k _ _ rfl rfl)
        · exact j_same (fun H locs ls hL w => lv_if_ge hx hb hd (x_to_ok h0) (fun q => absurd q hp) (fun _ => w)) (k _ _ rfl rfl)
      | gt =>
        obtain ⟨x, r, rfl, h⟩ := p_i_some hx0
        obtain ⟨h0, ⟨hp, hz⟩ | ⟨hp, hz⟩⟩ := x_br_some h <;> cases hz
        · exact j_same (fun H locs ls hL w => lv_if_gt hx hb hd (x_to_ok h0) (fun _ => w) (fun q => absurd hp q)) (k _ _ rfl rfl)
        · exact j_same (fun H locs ls hL w => lv_if_gt hx hb hd (x_to_ok h0) (fun q => absurd q hp) (fun _ => w)) (k _ _ rfl rfl)
      | le =>
        obtain ⟨x, r, rfl, h⟩ := p_i_some hx0
        obtain ⟨h0, ⟨hp, hz⟩ | ⟨hp, hz⟩⟩ := x_br_some h <;> cases hz
        · exact j_same (fun H locs ls hL w => lv_if_le hx hb hd (x_to_ok h0) (fun _ => w) (fun q => absurd hp q)) (k _ _ rfl rfl)
        · exact j_same (fun H locs ls hL w => lv_if_le hx hb hd (x_to_ok h0) (fun q => absurd q hp) (fun _ => w)) (k _ _ rfl rfl)
    | if_icmp cc off =>
      simp only [x_lok, x_ln, beq_iff_eq] at hln; subst hln
      cases cc with
      | eq =>
        obtain ⟨x, y, r, rfl, h⟩ := p_ii_some hx0
        obtain ⟨h0, ⟨hp, hz⟩ | ⟨hp, hz⟩⟩ := x_br_some h <;> cases hz
        · exact j_same (fun H locs ls hL w => lv_icmp_eq hx hb hd (x_to_ok h0) (fun _ => w) (fun q => absurd hp q)) (k _ _ rfl rfl)
        · exact j_same (fun H locs ls hL w => lv_icmp_eq hx hb hd (x_to_ok h0) (fun q => absurd q hp) (fun _ => w)) (k _ _ rfl rfl)
      | ne =>
        obtain ⟨x, y, r, rfl, h⟩ := p_ii_some hx0
        obtain ⟨h0, ⟨hp, hz⟩ | ⟨hp, hz⟩⟩ := x_br_some h <;> cases hz
        · exact j_same (fun H locs ls hL w => lv_icmp_ne hx hb hd (x_to_ok h0) (fun _ => w) (fun q => by first | exact absurd hp q | exact absurd q hp)) (k _ _ rfl rfl)
        · exact j_same (fun H locs ls hL w => lv_icmp_ne hx hb hd (x_to_ok h0) (fun q => absurd q hp) (fun _ => w)) (k _ _ rfl rfl)
      | lt =>
        obtain ⟨x, y, r, rfl, h⟩ := p_ii_some hx0
        obtain ⟨h0, ⟨hp, hz⟩ | ⟨hp, hz⟩⟩ := x_br_some h <;> cases hz
        · exact j_same (fun H locs ls hL w => lv_icmp_lt hx hb hd (x_to_ok h0) (fun _ => w) (fun q => absurd hp q)) (k _ _ rfl rfl)
        · exact j_same (fun H locs ls hL w => lv_icmp_lt hx hb hd (x_to_ok h0) (fun q => absurd q hp) (fun _ => w)) (k _ _ rfl rfl)
      | ge =>
        obtain ⟨x, y, r, rfl, h⟩ := p_ii_some hx0
        obtain ⟨h0, ⟨hp, hz⟩ | ⟨hp, hz⟩⟩ := x_br_some h <;> cases hz
        · exact j_same (fun H locs ls hL w => lv_icmp_ge hx hb hd (x_to_ok h0) (fun _ => w) (fun q => absurd hp q)) (k _ _ rfl rfl)
        · exact j_same (fun H locs ls hL w => lv_icmp_ge hx hb hd (x_to_ok h0) (fun q => absurd q hp) (fun _ => w)) (k _ _ rfl rfl)
      | gt =>
        obtain ⟨x, y, r, rfl, h⟩ := p_ii_some hx0
        obtain ⟨h0, ⟨hp, hz⟩ | ⟨hp, hz⟩⟩ := x_br_some h <;> cases hz
        · exact j_same (fun H locs ls hL w => lv_icmp_gt hx hb hd (x_to_ok h0) (fun _ => w) (fun q => absurd hp q)) (k _ _ rfl rfl)
        · exact j_same (fun H locs ls hL w => lv_icmp_gt hx hb hd (x_to_ok h0) (fun q => absurd q hp) (fun _ => w)) (k _ _ rfl rfl)
      | le =>
        obtain ⟨x, y, r, rfl, h⟩ := p_ii_some hx0
        obtain ⟨h0, ⟨hp, hz⟩ | ⟨hp, hz⟩⟩ := x_br_some h <;> cases hz
        · exact j_same (fun H locs ls hL w => lv_icmp_le hx hb hd (x_to_ok h0) (fun _ => w) (fun q => absurd hp q)) (k _ _ rfl rfl)
        · exact j_same (fun H locs ls hL w => lv_icmp_le hx hb hd (x_to_ok h0) (fun q => absurd q hp) (fun _ => w)) (k _ _ rfl rfl)
    | ifnull off =>
      simp only [x_lok, x_ln, beq_iff_eq] at hln; subst hln
      simp only [m_e0] at hx0
      split at hx0
      · cases hx0
        exact j_same (fun H locs ls hL w => lv_ifnull hx hb hd w) (k _ _ rfl rfl)
      · split at hx0
        · rename_i h0
          cases hx0
          exact j_same (fun H locs ls hL w => lv_ifnullN hx hb hd (x_to_ok h0) w) (k _ _ rfl rfl)
        · cases hx0
      · cases hx0
    | ifnonnull off =>
      simp only [x_lok, x_ln, beq_iff_eq] at hln; subst hln
      simp only [m_e0] at hx0
      split at hx0
      · split at hx0
        · rename_i h0
          cases hx0
          exact j_same (fun H locs ls hL w => lv_ifnonnull hx hb hd (x_to_ok h0) w) (k _ _ rfl rfl)
        · cases hx0
      · cases hx0
        exact j_same (fun H locs ls hL w => lv_ifnonnullN hx hb hd w) (k _ _ rfl rfl)
      · cases hx0
    | tableswitch dd lo hi offs =>
      obtain ⟨x, r, rfl, h⟩ := p_i_some hx0
      split at h
      · rename_i h1
        split at h
        · rename_i h0
          cases h
          exact j_same (fun H locs ls hL w => lv_tableOut hx hb hd h1 (x_to_ok h0) w) (k _ _ rfl rfl)
        · cases h
      · rename_i h1
        rw [Option.bind_eq_some_iff] at h
        obtain ⟨off, ho, h⟩ := h
        split at h
        · rename_i h0
          cases h
          exact j_same (fun H locs ls hL w => lv_tableIn hx hb hd (fun q => h1 (Or.inl q)) (fun q => h1 (Or.inr q)) ho (x_to_ok h0) w) (k _ _ rfl rfl)
        · cases h
    | lookupswitch dd ps =>
      obtain ⟨x, r, rfl, h⟩ := p_i_some hx0
      split at h
      · rename_i h0
        cases h
        exact j_same (fun H locs ls hL w => lv_lookup hx hb hd h0.1 rfl (x_to_ok h0.2) w) (k _ _ rfl rfl)
      · cases h
    | getfield i =>
      simp only [x_lok, x_ln, beq_iff_eq] at hln; subst hln
      obtain ⟨a, r, rfl, h⟩ := p_r_some hx0
      rw [Option.bind_eq_some_iff] at h
      obtain ⟨⟨ci, kf⟩, hlf, h⟩ := h
      rw [Option.map_eq_some_iff] at h
      obtain ⟨v, hv, hz⟩ := h
      cases hz
      obtain ⟨fs, h1, h2⟩ := m_gf_some hv
      obtain ⟨w1, w2, w3⟩ := m_lkF_ok hlf
      intro I H locs ls hP hS hL
      exact va_get (D := (dC, dI)) (C := m_Rn ci) (T := m_T ci) (N := m_nf ci) hx hb hts (m_layok w2) hown hK hP a (m_W_get I.1 h1) (m_vw w2) kf w3 (hts _ w1) (fun _ h9 => h9) (by rw [List.getElem?_map, h2]; rfl) hd (k _ _ rfl rfl I H locs ls hP hS hL)
    | putfield i =>
      simp only [x_lok, x_ln, beq_iff_eq] at hln; subst hln
      obtain ⟨a, v, r, rfl, h⟩ := p_vr_some hx0
      rw [Option.bind_eq_some_iff] at h
      obtain ⟨⟨ci, kf⟩, hlf, h⟩ := h
      split at h
      · rename_i hfin
        rw [Option.map_eq_some_iff] at h
        obtain ⟨μ1, hv, hz⟩ := h
        cases hz
        obtain ⟨fs, h1, h2, h3, h4, h5⟩ := m_pf_some hv
        subst h5
        obtain ⟨w1, w2, w3⟩ := m_lkF_ok hlf
        obtain ⟨f1, f2⟩ := m_fit_cv (bs := bs) (b := b) h3 h4
        refine j_set (dC := dC) (dI := dI) (dA := dA) (dR := dR) (bs := bs) (b := b) h1 (e' := m_ob ci (fs.set kf v)) w2 (fun H locs ls ha hP hD hS kk => ?_) (k _ _ rfl rfl)
        have hset : m_cE dA dR bs b (m_ob ci (fs.set kf v)) = .inr (ci, (fs.map (m_cv bs b)).set kf (m_cv bs b v)) := by
          show (Sum.inr (ci, (fs.set kf v).map (m_cv bs b)) : va_E) = _
          rw [List.map_set]
        rw [hset] at kk
        cases hq : x_fin ci kf with
        | false => exact va_put (D := (dC, dI)) (C := m_Rn ci) (T := m_T ci) (N := m_nf ci) hx hb hts (m_layok w2) (m_ty ci) (m_tyok w2) (m_nmok w2) hown hK hP hD hS a ha (m_vw w2) kf w3 (hts _ w1) (fun _ h9 => h9) hq (m_tyok w2 kf w3) f2 f1 (by simpa using h2) hd (fun H1 locs1 hP1 _ hS1 => kk H1 locs1 hP1 hS1)
        | true =>
          rcases hfin with hfin | hfin
          · rw [hq] at hfin; cases hfin
          · exact va_putF (D := (dC, dI)) (C := m_Rn ci) (T := m_T ci) (N := m_nf ci) hx hb hts (m_layok w2) (m_ty ci) (m_tyok w2) (m_nmok w2) hown hK hP hD hS a ha (m_vw w2) kf w3 (hts _ w1) (fun _ h9 => h9) hq (hnm hfin.1) (hfin.2.trans hon.symm) (m_tyok w2 kf w3) f2 f1 (by simpa using h2) hd (fun H1 locs1 hP1 _ hS1 => kk H1 locs1 hP1 hS1)
      · cases h
    | iaload =>
      simp only [x_lok, x_ln, beq_iff_eq] at hln; subst hln
      simp only [m_e0] at hx0
      split at hx0
      · rw [Option.map_eq_some_iff] at hx0
        obtain ⟨v, hv, hz⟩ := hx0
        cases hz
        obtain ⟨n, f, h1, h2, h3⟩ := m_ga_some hv
        subst h3
        intro I H locs ls hP hS hL
        exact va_iald hx hb hK hP _ 0 (m_W_get I.1 h1) rfl (m_ix_in h2) hd (k _ _ rfl rfl I H locs ls hP hS hL)
      · rw [Option.map_eq_some_iff] at hx0
        obtain ⟨v, hv, hz⟩ := hx0
        cases hz
        unfold m_gs at hv
        split at hv
        · rename_i h2
          cases hv
          intro I H locs ls hP hS hL
          have hsc := I.2.1
          rw [hsc] at h2
          have kk := k _ _ rfl rfl I H locs ls hP hS hL
          rw [hsc] at kk
          exact va_sld hx hb hX (Nat.lt_of_lt_of_le hbb hbs) (by omega) hS (m_ix_in h2) hd kk
        · cases hv
      · cases hx0
    | baload =>
      simp only [x_lok, x_ln, beq_iff_eq] at hln; subst hln
      obtain ⟨a, i, r, rfl, h⟩ := p_ri_some hx0
      rw [Option.map_eq_some_iff] at h
      obtain ⟨v, hv, hz⟩ := h
      cases hz
      obtain ⟨kk, n, f, h1, h4, h2, h3⟩ := m_gb_some hv
      subst h3
      intro I H locs ls hP hS hL
      rcases h4 with rfl | rfl
      · exact va_zald hx hb hK hP _ 1 (m_W_get I.1 h1) rfl (m_ix_in h2) hd (k _ _ rfl rfl I H locs ls hP hS hL)
      · exact va_bald hx hb hK hP _ 2 (m_W_get I.1 h1) rfl (m_ix_in h2) hd (k _ _ rfl rfl I H locs ls hP hS hL)
    | aaload =>
      simp only [x_lok, x_ln, beq_iff_eq] at hln; subst hln
      obtain ⟨a, i, r, rfl, h⟩ := p_ri_some hx0
      rw [Option.map_eq_some_iff] at h
      obtain ⟨v, hv, hz⟩ := h
      cases hz
      obtain ⟨ci, n, f, h1, h2, h3⟩ := m_gr_some hv
      subst h3
      intro I H locs ls hP hS hL
      obtain ⟨t0, ht0⟩ := m_tyr (dA := dA) (dR := dR) (show ci = 1 ∨ ci = 3 ∨ ci = 6 from I.1.2 _ _ h1)
      have kk := k _ _ rfl rfl I H locs ls hP hS hL
      simp only [List.map_cons, m_cv_rf] at kk
      exact va_aldq hx hb hK hP _ t0 (m_W_get I.1 h1) ht0 (m_ix_in h2) hd kk
    | iastore =>
      simp only [x_lok, x_ln, beq_iff_eq] at hln; subst hln
      obtain ⟨a, i, x, r, rfl, h⟩ := p_rii_some hx0
      rw [Option.map_eq_some_iff] at h
      obtain ⟨μ1, hv, hz⟩ := h
      cases hz
      obtain ⟨n, f, h1, h2, h3⟩ := m_pa_some hv
      subst h3
      exact j_set h1 (e' := m_ia 0 n (upd f i.toNatClampNeg x)) (Nat.zero_le 2) (fun H locs ls ha hP hD hS kk => va_iast hx hb hK hP hD hS a 0 ha rfl (m_ix_in h2) hd (fun H1 locs1 hP1 _ hS1 => kk H1 locs1 hP1 hS1)) (k _ _ rfl rfl)
    | bastore =>
      simp only [x_lok, x_ln, beq_iff_eq] at hln; subst hln
      obtain ⟨a, i, x, r, rfl, h⟩ := p_rii_some hx0
      rw [Option.map_eq_some_iff] at h
      obtain ⟨μ1, hv, hz⟩ := h
      cases hz
      obtain ⟨kk, n, f, h1, h4, h2, h3⟩ := m_pb_some hv
      subst h3
      rcases h4 with rfl | rfl
      · exact j_set h1 (e' := m_ia 1 n (upd f i.toNatClampNeg (vp_nar .boolean x))) (show 1 ≤ 2 by omega) (fun H locs ls ha hP hD hS kk => va_zast hx hb hK hP hD hS a 1 ha rfl (m_ix_in h2) hd (fun H1 locs1 hP1 _ hS1 => kk H1 locs1 hP1 hS1)) (k _ _ rfl rfl)
      · exact j_set h1 (e' := m_ia 2 n (upd f i.toNatClampNeg (vp_nar .byte x))) (show 2 ≤ 2 by omega) (fun H locs ls ha hP hD hS kk => va_bast hx hb hK hP hD hS a 2 ha rfl (m_ix_in h2) hd (fun H1 locs1 hP1 _ hS1 => kk H1 locs1 hP1 hS1)) (k _ _ rfl rfl)
    | aastore =>
      simp only [x_lok, x_ln, beq_iff_eq] at hln; subst hln
      obtain ⟨a, i, v, r, rfl, h⟩ := p_rir_some hx0
      rw [Option.map_eq_some_iff] at h
      obtain ⟨μ1, hv, hz⟩ := h
      cases hz
      obtain ⟨ci, n, f, fs, h1, h5, h2, h3⟩ := m_pr_some hv
      subst h3
      have hci : ci = 1 ∨ ci = 3 ∨ ci = 6 := hI.1.2 _ _ h1
      have hci10 : ci < 10 := by omega
      obtain ⟨t0, ht0⟩ := m_tyr (dA := dA) (dR := dR) hci
      refine j_set h1 (e' := m_ra ci n (va_up f i.toNatClampNeg (some v))) hci (fun H locs ls ha hP hD hS kk => ?_) (k _ _ rfl rfl)
      have hset : m_cE dA dR bs b (m_ra ci n (va_up f i.toNatClampNeg (some v))) = .inl (dR ci, n, .inr (.inr (.inr (.inr (va_up (fun j => (f j).map (bs + ·)) i.toNatClampNeg (some (bs + v))))))) := by
        have hf : (fun j => (va_up f i.toNatClampNeg (some v) j).map (bs + ·)) = va_up (fun j => (f j).map (bs + ·)) i.toNatClampNeg (some (bs + v)) := by
          funext j
          unfold va_up
          split <;> rfl
        show (Sum.inl (dR ci, n, .inr (.inr (.inr (.inr (fun j => (va_up f i.toNatClampNeg (some v) j).map (bs + ·)))))) : va_E) = _
        rw [hf]
      rw [hset] at kk
      exact va_astq (r := (m_Rn ci, m_T ci, m_nf ci)) hx hb hK hP hD hS a t0 v ci ha ht0 (m_W_get hI.1 h5) (m_vw hci10) (m_ix_in h2) hd (fun H1 locs1 hP1 _ hS1 => kk H1 locs1 hP1 hS1)
    | arraylength =>
      simp only [x_lok, x_ln, beq_iff_eq] at hln; subst hln
      simp only [m_e0] at hx0
      split at hx0
      · rw [Option.map_eq_some_iff] at hx0
        obtain ⟨v, hv, hz⟩ := hx0
        cases hz
        intro I H locs ls hP hS hL
        rcases m_ln_some hv with ⟨kk, f, h1⟩ | ⟨ci, f, h1⟩
        · exact va_alen hx hb hK hP _ kk (m_W_get I.1 h1) (m_tyk (I.1.2 _ _ h1)) rfl hd (k _ _ rfl rfl I H locs ls hP hS hL)
        · obtain ⟨t0, ht0⟩ := m_tyr (dA := dA) (dR := dR) (show ci = 1 ∨ ci = 3 ∨ ci = 6 from I.1.2 _ _ h1)
          exact va_alen hx hb hK hP _ t0 (m_W_get I.1 h1) ht0 rfl hd (k _ _ rfl rfl I H locs ls hP hS hL)
      · cases hx0
        intro I H locs ls hP hS hL
        have kk := k _ _ rfl rfl I H locs ls hP hS hL
        simp only [List.map_cons, I.2.1] at kk
        exact va_slen hx hb hX (Nat.lt_of_lt_of_le hbb hbs) (by omega) hS hd kk
      · cases hx0
    | newarray t =>
      simp only [x_lok, x_ln, beq_iff_eq] at hln; subst hln
      obtain ⟨n, r, rfl, h⟩ := p_i_some hx0
      rw [Option.bind_eq_some_iff] at h
      obtain ⟨kk, hk, h⟩ := h
      split at h
      · rename_i hn
        cases h
        obtain ⟨n1, n2⟩ := m_nok hn
        have hc2 : cells + 1 ≤ R.cells := by have := hcl; simp only [m_new_N] at this; omega
        have hs2 : slots + n.toNatClampNeg ≤ R.slots := by have := hsl; simp only [m_new_S] at this; omega
        have h012 : kk ≤ 2 := by unfold x_tag at hk; split at hk <;> cases hk <;> omega
        refine j_new (e' := m_ia kk n.toNatClampNeg (fun _ => 0)) h012 (fun H locs ls hP hD hS kk2 => ?_) (k _ _ (by simp only [m_new_N]; omega) (by simp only [m_new_S]; omega))
        have harr : (Cond.arrayClass (newarray.typeOf t)).before args s = true := by
          unfold x_tag at hk
          split at hk <;> cases hk
          · exact hts (.arrayClass .int) (by decide +kernel)
          · exact hts (.arrayClass .boolean) (by decide +kernel)
          · exact hts (.arrayClass .byte) (by decide +kernel)
        have hby : n.toNatClampNeg * componentBytes (newarray.typeOf t) ≤ 536870912 := by
          unfold x_tag at hk
          split at hk <;> cases hk <;> simp only [newarray.typeOf, componentBytes] <;> omega
        refine va_newa (ty := newarray.typeOf t) hx hb harr rfl hK hP hD hS (fun q h => Nat.le_trans hbs h) (a0 := (n.toNatClampNeg, .inl (fun _ => 0))) ?_ n1 rfl hby hc2 hs2 hd (fun q cA H1 hK1 hP1 hD1 hS1 => ?_)
        · intro cA
          unfold x_tag at hk
          split at hk <;> cases hk <;> rfl
        · have hcA : cA = dA kk := by
            have e1 := (hK1.2 6 _ (by rfl)).2
            have e2 := (hK.2 kk _ (m_tyk h012)).2
            unfold x_tag at hk
            split at hk <;> cases hk
            · exact Option.some.inj (e1.symm.trans e2)
            · exact Option.some.inj (e1.symm.trans e2)
            · exact Option.some.inj (e1.symm.trans e2)
          subst hcA
          exact kk2 q H1 hP1 hD1 hS1
      · cases h
    | anewarray i =>
      simp only [x_lok, x_ln, beq_iff_eq] at hln; subst hln
      obtain ⟨n, r, rfl, h⟩ := p_i_some hx0
      rw [Option.bind_eq_some_iff] at h
      obtain ⟨ci, hk, h⟩ := h
      split at h
      · rename_i hn
        cases h
        obtain ⟨n1, n2⟩ := m_nok hn.1
        have hc2 : cells + 1 ≤ R.cells := by have := hcl; simp only [m_new_N] at this; omega
        have hs2 : slots + n.toNatClampNeg ≤ R.slots := by have := hsl; simp only [m_new_S] at this; omega
        obtain ⟨w1, w2⟩ := m_lkC_ok hk
        have hAO : va_AO (m_Rn ci) s := by
          rcases hn.2 with rfl | rfl | rfl
          · exact hN (.arrayOver (.object RX1)) (by decide +kernel)
          · exact hN (.arrayOver (.object RX3)) (by decide +kernel)
          · exact hN (.arrayOver (.object RX7)) (by decide +kernel)
        obtain ⟨t0, ht0⟩ := m_tyr (dA := dA) (dR := dR) hn.2
        refine j_new (e' := m_ra ci n.toNatClampNeg (fun _ => none)) hn.2 (fun H locs ls hP hD hS kk2 => ?_) (k _ _ (by simp only [m_new_N]; omega) (by simp only [m_new_S]; omega))
        refine va_newq hx hb hown (hts _ w1) hAO hK hP hD hS (fun q h => Nat.le_trans hbs h) n1 rfl (by omega) hc2 hs2 hd (fun q cA H1 hK1 hP1 hD1 hS1 => ?_)
        have hcA : cA = dR ci := by
          obtain ⟨_, _, -, -, -, e1⟩ := (hK1.2 6 _ (by rfl)).2
          obtain ⟨_, _, -, -, -, e2⟩ := (hK.2 t0 _ ht0).2
          exact Option.some.inj (e1.symm.trans e2)
        subst hcA
        exact kk2 q H1 hP1 hD1 hS1
      · cases h
    | new i =>
      simp only [x_lok, x_ln, beq_iff_eq] at hln; subst hln
      simp only [m_e0] at hx0
      rw [Option.bind_eq_some_iff] at hx0
      obtain ⟨ci, hk, h⟩ := hx0
      cases h
      obtain ⟨w1, w2⟩ := m_lkC_ok hk
      have hc2 : cells + 1 ≤ R.cells := by have := hcl; simp only [m_new_N] at this; omega
      have hs2 : slots + m_nf ci ≤ R.slots := by have := hsl; simp only [m_new_S] at this; omega
      refine j_new (e' := m_ob ci (x_nf ci)) w2 (fun H locs ls hP hD hS kk2 => ?_) (k _ _ (by simp only [m_new_N]; omega) (by simp only [m_new_S]; omega))
      refine va_new (D := (dC, dI)) (C := m_Rn ci) (T := m_T ci) (N := m_nf ci) hx hb hts (m_layok w2) (m_ty ci) (m_tyok w2) hown (hts _ w1) (hts _ (m_inst w2)) (hts _ (m_init w2)) hK hP hD hS (fun q h => Nat.le_trans hbs h) (m_vw w2) (fs := (x_nf ci).map (m_cv bs b)) (fun j hj => ?_) hc2 hs2 hd (fun q H1 hP1 hD1 hS1 => kk2 q H1 hP1 hD1 hS1)
      unfold vp_V x_nf
      rw [List.getD_eq_getElem?_getD, List.getElem?_map, List.getElem?_map, List.getElem?_range hj]
      show defaultValue (m_ty ci j) = m_cv bs b (defaultValue (m_ty ci j))
      cases m_ty ci j <;> rfl
    | invokespecial i =>
      simp only [x_lok, x_ln, beq_iff_eq] at hln; subst hln
      simp only [m_e0] at hx0
      rw [Option.bind_eq_some_iff] at hx0
      obtain ⟨q, hq, h⟩ := hx0
      cases q with
      | some q =>
        simp only at h
        split at h
        · unfold x_call at h
          split at h <;> cases h
        · cases h
      | none =>
        simp only at h
        obtain ⟨a, r, rfl, h0⟩ := p_r_some h
        clear h
        split at h0
        · rename_i hr
          cases h0
          unfold m_lkP at hq
          cases hf : m_LP.find? (fun q => q.1 == m_own m && q.2.1 == i) with
          | none => rw [hf] at hq; cases hq
          | some q =>
            rw [hf] at hq
            obtain ⟨h1, h2, h3⟩ := m_find hf
            have h4 := List.all_eq_true.mp m_okP_all q h1
            have h5 : q.2.2.1 = none := Option.some.inj hq
            unfold m_okP at h4
            rw [h5, h2, h3] at h4
            simp only [Bool.and_eq_true] at h4
            intro I H locs ls hP hS hL
            have hm := m_rlen (bs := bs) (b := b) hr.1
            exact W.objInit hx hb hown (hts _ (m_at_in h4.1.1)) (hts _ (m_at_in h4.1.2)) (hts _ (m_at_in h4.2)) rfl (hL.1.trans hml.symm) rfl hd (by omega) (by have := lv_room (m := mid) (pc := pc) (ls := ls) (rest := (Value.ref a :: r).map (m_cv bs b)) hm; omega) (k _ _ rfl rfl I H locs ls hP hS hL)
        · cases h0
    | invokestatic i =>
      simp only [x_lok, x_ln, beq_iff_eq] at hln; subst hln
      simp only [m_e0] at hx0
      rw [Option.bind_eq_some_iff] at hx0
      obtain ⟨q, hq, h⟩ := hx0
      split at h
      · rename_i hmx
        obtain ⟨x, y, r, rfl, h0⟩ := p_ii_some h
        clear h
        split at h0
        · rename_i hr
          cases h0
          unfold m_lkS at hq
          cases hf : m_LT.find? (fun q => q.1 == m_own m && q.2.1 == i) with
          | none => rw [hf] at hq; cases hq
          | some z =>
            rw [hf] at hq
            obtain ⟨h1, h2, h3⟩ := m_find hf
            have h4 := List.all_eq_true.mp m_okT_all z h1
            have h5 : z.2.2.1 = q := Option.some.inj hq
            have h6 : z.2.2.1.1 = m_mx := by rw [h5]; exact hmx
            unfold m_okT at h4
            simp only [Bool.and_eq_true] at h4
            obtain ⟨⟨⟨⟨⟨a1, a2⟩, a3⟩, a4⟩, a5⟩, a6⟩ := h4
            have hkind : z.2.2.2.1 = 0 := by
              have : ∀ z ∈ m_LT, z.2.2.1.1 = m_mx → z.2.2.2.1 = 0 := by decide +kernel
              exact this z h1 h6
            rw [hkind, h6, h2, h3] at a6
            rw [h6] at a4 a5
            intro I H locs ls hP hS hL
            have hm := m_rlen (bs := bs) (b := b) hr.1
            exact va_mmax hx hb (hml.trans hL.1.symm) hown (hts _ (m_at_in a6)) (hts _ (m_at_in a4)) (hts _ (m_at_in a5)) (hts _ (m_mx_cw ▸ m_cw_in (m := m_mx) (by decide))) (by omega) (by omega) (by simp only at hcl; omega) (by simp only at hsl; omega) hd (k _ _ rfl rfl I H locs ls hP hS hL)
        · cases h0
      · unfold x_call at h
        split at h <;> cases h
    | invokevirtual i =>
      simp only [m_e0] at hx0
      simp only [Option.bind_eq_some_iff] at hx0
      obtain ⟨q, hq, c0, hc0, z0, hz0, h⟩ := hx0
      unfold x_call at h
      split at h <;> cases h
    | ireturn =>
      simp only [m_e0] at hx0
      split at hx0
      · split at hx0 <;> cases hx0
      · cases hx0
    | lreturn =>
      simp only [m_e0] at hx0
      split at hx0
      · split at hx0 <;> cases hx0
      · cases hx0
    | areturn =>
      simp only [m_e0] at hx0
      split at hx0
      · split at hx0 <;> cases hx0
      · split at hx0 <;> cases hx0
      · cases hx0
    | return_ =>
      simp only [m_e0] at hx0
      split at hx0 <;> cases hx0
    | _ => cases hx0
  · cases hx0
end mst2
