/-! Arrays.copyOf, walked by hand: its clone and its arraycopy are the machine's own -/
theorem k_arr {cA : ClassId} {N : Nat} {f g : Nat → Int32} (h : ∀ j, j < N → f j = g j) : vp_cell cA (N, .inl f) = vp_cell cA (N, .inl g) := by
  rw [vp_cell_i, vp_cell_i]
  unfold arrV
  congr 1
  exact congrArg _ (funext fun j => congrArg Value.int (h j.val j.isLt))
theorem k_fix {dC : Nat → ClassId} {dI : Nat → Nat → Nat} {dA dR : Nat → ClassId} {bs b N : Nat} {μ : mM} {f g : Nat → Int32} {H : Heap} (h : ∀ j, j < N → f j = g j) (hP : va_P (dC, dI) vwCl (m_W dA dR bs b μ ++ [(bs + mN μ, .inl (dA 0, N, .inl f))]) H) : va_P (dC, dI) vwCl (m_W dA dR bs b (m_new μ N (m_ia 0 N g))) H := by
  rw [m_W_new]
  refine va_P.app (fun k q hk => hP k q ?_) (fun k q hk => ?_)
  · rw [List.getElem?_append_left (List.getElem?_eq_some_iff.mp hk).1]; exact hk
  · have hz : k < 1 := (List.getElem?_eq_some_iff.mp hk).1
    rw [show k = 0 by omega] at hk
    cases hk
    have h1 := hP (mN μ) (bs + mN μ, .inl (dA 0, N, .inl f)) (by rw [List.getElem?_append_right (by rw [m_Wlen]; omega), m_Wlen, Nat.sub_self]; rfl)
    show H[bs + mN μ]? = some (vp_cell (dA 0) (N, .inl g))
    rw [← k_arr h]
    exact h1
theorem k_len {n : Nat} (h : n ≤ 100000) : (Int32.ofNat n).toNatClampNeg = n ∧ ¬ Int32.ofNat n < 0 ∧ (Int32.ofNat n).toInt = n := by
  have h1 : (nI n).toNatClampNeg = n := nI_clamp (by omega)
  have h2 : ¬ nI n < 0 := nI_pos (by omega)
  have h3 : (nI n).toInt = n := nI_toInt (by omega)
  exact ⟨h1, h2, h3⟩
theorem kw_132 : (.arrayClass .int : Cond) ∈ m_TB := m_at_in (i := 132) (by decide +kernel)
theorem kw_372 : (.methodLink RJ7 316 ⟨"[I", "clone", "()Ljava/lang/Object;"⟩ : Cond) ∈ m_TB := m_at_in (i := 372) (by decide +kernel)
theorem kw_373 : (.sameMethod "[I" "java/lang/Object" "clone" "()Ljava/lang/Object;" : Cond) ∈ m_TB := m_at_in (i := 373) (by decide +kernel)
theorem kw_374 : (.native ⟨"java/lang/Object", "clone", "()Ljava/lang/Object;"⟩ : Cond) ∈ m_TB := m_at_in (i := 374) (by decide +kernel)
theorem kw_375 : (.instanceMethod ⟨"java/lang/Object", "clone", "()Ljava/lang/Object;"⟩ : Cond) ∈ m_TB := m_at_in (i := 375) (by decide +kernel)
theorem kw_376 : (.selects "[I" ⟨"[I", "clone", "()Ljava/lang/Object;"⟩ ⟨"java/lang/Object", "clone", "()Ljava/lang/Object;"⟩ : Cond) ∈ m_TB := m_at_in (i := 376) (by decide +kernel)
theorem kw_378 : (.classLink RJ7 317 "[I" : Cond) ∈ m_TB := m_at_in (i := 378) (by decide +kernel)
theorem kw_379 : (.methodLink RJ7 304 Lib.Math.min.name : Cond) ∈ m_TB := m_at_in (i := 379) (by decide +kernel)
theorem kw_380 : (.static Lib.Math.min.name : Cond) ∈ m_TB := m_at_in (i := 380) (by decide +kernel)
theorem kw_74 : (.initialized "java/lang/Math" : Cond) ∈ m_TB := m_at_in (i := 74) (by decide +kernel)
theorem kw_382 : (.methodLink RJ7 150 arraycopyName : Cond) ∈ m_TB := m_at_in (i := 382) (by decide +kernel)
theorem kw_384 : (.native arraycopyName : Cond) ∈ m_TB := m_at_in (i := 384) (by decide +kernel)
theorem kw_383 : (.static arraycopyName : Cond) ∈ m_TB := m_at_in (i := 383) (by decide +kernel)
theorem kw_75 : (.initialized "java/lang/System" : Cond) ∈ m_TB := m_at_in (i := 75) (by decide +kernel)
theorem kw_377 : (.castable "[I" "java/lang/Cloneable" : Cond) ∈ m_NW := m_atN_in (i := 377) (by decide +kernel)
theorem kw_171 : Cond.code Lib.Math.min.name Lib.Math.min.code 2 (some .int) ∈ m_TB := m_cw_171
set_option maxHeartbeats 4000000 in
set_option maxRecDepth 100000 in
theorem m_copy_met {l : Launch} {dC : Nat → ClassId} {dI : Nat → Nat → Nat} {dA dR : Nat → ClassId} {bs b LL : Nat} {xs : Nat → Int32} (hbb : b < bs) {a len : Nat} {n : Int32} {f : Nat → Int32} {μ : mM} (hw : m_wf μ) (ha : mF μ a = some (m_ia 0 len f)) (hlen : len ≤ 100000) (hn : x_nok n = true) : m_Met l dC dI dA dR bs b LL xs m_cp [.ref a, .int n] μ (some (.ref (mN μ))) (m_new μ n.toNatClampNeg (m_ia 0 n.toNatClampNeg (fun j => if j < len then f j else 0))) := by
  unfold m_Met
  rw [show mN (m_new μ n.toNatClampNeg (m_ia 0 n.toNatClampNeg (fun j => if j < len then f j else 0))) - mN μ = 1 by rw [m_new_N]; omega, show mS (m_new μ n.toNatClampNeg (m_ia 0 n.toNatClampNeg (fun j => if j < len then f j else 0))) - mS μ = n.toNatClampNeg by rw [m_new_S]; omega]
  obtain ⟨n1, n2⟩ := m_nok hn
  obtain ⟨l1, l2, l3⟩ := k_len hlen
  refine Met.ofW (cc := m_code m_cp) (maxL := 3) (ret := some (.array .int)) (by decide) rfl ?_
  intro p e s mid args below meth c s₁ B hml hv
  obtain ⟨rfl, hsz, ⟨hK, hN⟩, hX, hP⟩ := hv
  have hx := B.exec
  have hb := B.bytes
  have hr := B.returns
  have hts : ∀ w ∈ m_TB, w.before _ s = true := fun w h => atoms_spec (ws := m_ws m_cp) B.pre w (List.mem_cons_of_mem _ h)
  have hown : s.vm.findClass RJ7 = some mid.cls := findClass_of_methodNamed B.named
  have hlocks := B.notSynchronized
  have hA : ∀ q : Nat, s.heap.size ≤ q → (fun q : Nat => bs ≤ q) q := fun q h => by show bs ≤ q; omega
  have hS : va_S (fun q : Nat => bs ≤ q) s.heap s.heap [] := va_S.rf
  have hD := m_W_D (dA := dA) (dR := dR) (bs := bs) (b := b) μ
  have hg := m_W_get (dA := dA) (dR := dR) (bs := bs) (b := b) hw ha
  have hnm : s.vm.findClass "[I" = some (dA 0) := (hK.2 0 _ rfl).2
  have hl := lv_entry ([.ref (bs + a), .int n]) (n := 3) (Nat.le_of_ble_eq_true rfl)
  rw [lg_entry_eq]
  show W p l e _ s mid _ below meth c s.heap [] 0 0 _ (F0 mid 0 (lg_sl ([.ref (bs + a), .int n]) ++ List.replicate (3 - (lg_sl ([.ref (bs + a), .int n])).length) Slot.unset).toArray [])
  generalize (lg_sl ([.ref (bs + a), .int n]) ++ List.replicate (3 - (lg_sl ([.ref (bs + a), .int n])).length) Slot.unset).toArray = ls at hl ⊢
  have hl : lv_has ls 3 [(0, .ref (bs + a)), (1, .int n)] := hl
  have d0 : decode (m_code m_cp) 0 = .ok (.iload_n 1, 1) := by decide +kernel
  have d1 : decode (m_code m_cp) 1 = .ok (.aload_n 0, 1) := by decide +kernel
  have d2 : decode (m_code m_cp) 2 = .ok (.arraylength, 1) := by decide +kernel
  have d3 : decode (m_code m_cp) 3 = .ok (.if_icmp .ne 11, 3) := by decide +kernel
  have d6 : decode (m_code m_cp) 6 = .ok (.aload_n 0, 1) := by decide +kernel
  have d7 : decode (m_code m_cp) 7 = .ok (.invokevirtual 316, 3) := by decide +kernel
  have d10 : decode (m_code m_cp) 10 = .ok (.checkcast 317, 3) := by decide +kernel
  have d13 : decode (m_code m_cp) 13 = .ok (.areturn, 1) := by decide +kernel
  have d14 : decode (m_code m_cp) 14 = .ok (.iload_n 1, 1) := by decide +kernel
  have d15 : decode (m_code m_cp) 15 = .ok (.newarray .int, 2) := by decide +kernel
  have d17 : decode (m_code m_cp) 17 = .ok (.astore_n 2, 1) := by decide +kernel
  have d18 : decode (m_code m_cp) 18 = .ok (.aload_n 0, 1) := by decide +kernel
  have d19 : decode (m_code m_cp) 19 = .ok (.iconst 0, 1) := by decide +kernel
  have d20 : decode (m_code m_cp) 20 = .ok (.aload_n 2, 1) := by decide +kernel
  have d21 : decode (m_code m_cp) 21 = .ok (.iconst 0, 1) := by decide +kernel
  have d22 : decode (m_code m_cp) 22 = .ok (.aload_n 0, 1) := by decide +kernel
  have d23 : decode (m_code m_cp) 23 = .ok (.arraylength, 1) := by decide +kernel
  have d24 : decode (m_code m_cp) 24 = .ok (.iload_n 1, 1) := by decide +kernel
  have d25 : decode (m_code m_cp) 25 = .ok (.invokestatic 304, 3) := by decide +kernel
  have d28 : decode (m_code m_cp) 28 = .ok (.invokestatic 150, 3) := by decide +kernel
  have d31 : decode (m_code m_cp) 31 = .ok (.aload_n 2, 1) := by decide +kernel
  have d32 : decode (m_code m_cp) 32 = .ok (.areturn, 1) := by decide +kernel
  refine lv_iload_n hx hb d0 rfl (lv_at hl 1 rfl) ?_
  refine lv_aload_n hx hb d1 rfl (lv_at hl 0 rfl) ?_
  refine va_alen hx hb hK hP a 0 hg rfl rfl d2 ?_
  refine lv_icmp_ne (tgt := 14) hx hb d3 (by decide) (fun c3 => ?_) (fun c3 => ?_)
  · refine lv_iload_n hx hb d14 rfl (lv_at hl 1 rfl) ?_
    refine va_newa (atype := .int) (ty := .int) hx hb (hts (.arrayClass .int) kw_132) rfl hK hP hD hS hA (a0 := (n.toNatClampNeg, .inl (fun _ => 0))) (fun _ => rfl) n1 rfl (by simp only [componentBytes]; omega) (Nat.le_refl 1) (by show 0 + n.toNatClampNeg ≤ n.toNatClampNeg; omega) d15 (fun q cA H1 hK1 hP1 hD1 hS1 => ?_)
    have hcA : cA = dA 0 := by
      have e1 : s.vm.findClass _ = some cA := (hK1.2 6 (cA, .int) (by rfl)).2
      have e2 : s.vm.findClass _ = some (dA 0) := (hK.2 0 (dA 0, .int) rfl).2
      exact Option.some.inj (e1.symm.trans e2)
    subst hcA
    intro T hT X
    have hq : q = bs + mN μ := m_fresh hP1 hD1 hT X (by rw [hsz]; rfl)
    subst hq
    revert hT X T
    refine (?_ : W p l e _ s mid _ below meth c H1 [] (0 + 1) (0 + n.toNatClampNeg) _ _)
    have hg1 : (m_W dA dR bs b μ ++ [(bs + mN μ, .inl (dA 0, n.toNatClampNeg, .inl (fun _ => 0)))])[mN μ]? = some (bs + mN μ, .inl (dA 0, n.toNatClampNeg, .inl (fun _ => 0))) := by rw [List.getElem?_append_right (by rw [m_Wlen]; omega), m_Wlen, Nat.sub_self]; rfl
    have hg0 : (m_W dA dR bs b μ ++ [(bs + mN μ, .inl (dA 0, n.toNatClampNeg, .inl (fun _ => 0)))])[a]? = some (bs + a, .inl (dA 0, len, .inl f)) := by rw [List.getElem?_append_left (by rw [m_Wlen]; exact hw.lt ha)]; exact hg
    refine lv_astore_n (lv' := [(2, .ref (bs + mN μ)), (0, .ref (bs + a)), (1, .int n)]) hx hb d17 rfl hl (by decide) rfl (fun ls hl => ?_)
    refine lv_aload_n hx hb d18 rfl (lv_at hl 1 rfl) ?_
    refine lv_iconst (v := 0) hx hb d19 (by decide) ?_
    refine lv_aload_n hx hb d20 rfl (lv_at hl 0 rfl) ?_
    refine lv_iconst (v := 0) hx hb d21 (by decide) ?_
    refine lv_aload_n hx hb d22 rfl (lv_at hl 1 rfl) ?_
    refine va_alen hx hb hK hP1 a 0 hg0 rfl rfl d23 ?_
    refine lv_iload_n hx hb d24 rfl (lv_at hl 2 rfl) ?_
    refine va_mmin hx hb (hml.trans hl.1.symm) hown (hts _ kw_379) (hts _ kw_380) (hts _ kw_74) (hts _ kw_171) (Nat.le_of_ble_eq_true rfl) (Nat.le_of_ble_eq_true rfl) (Nat.le_refl 1) (by show 0 + n.toNatClampNeg ≤ n.toNatClampNeg; omega) d25 ?_
    have hk : (if n < Int32.ofNat len then n else Int32.ofNat len).toNatClampNeg ≤ len ∧ (if n < Int32.ofNat len then n else Int32.ofNat len).toNatClampNeg ≤ n.toNatClampNeg ∧ ¬ (if n < Int32.ofNat len then n else Int32.ofNat len) < 0 ∧ (n.toNatClampNeg ≤ (if n < Int32.ofNat len then n else Int32.ofNat len).toNatClampNeg ∨ len ≤ (if n < Int32.ofNat len then n else Int32.ofNat len).toNatClampNeg) := by
      have e1 : n.toNatClampNeg = n.toInt.toNat := rfl
      have e2 : ¬ n.toInt < 0 := fun q => n1 (Int32.lt_iff_toInt_lt.mpr q)
      split
      · rename_i h
        have := Int32.lt_iff_toInt_lt.mp h
        refine ⟨by omega, Nat.le_refl _, n1, Or.inl (Nat.le_refl _)⟩
      · rename_i h
        have : ¬ n.toInt < (Int32.ofNat len).toInt := fun q => h (Int32.lt_iff_toInt_lt.mpr q)
        refine ⟨by omega, by omega, l2, Or.inr (by omega)⟩
    generalize (if n < Int32.ofNat len then n else Int32.ofNat len) = kk at hk ⊢
    refine va_copyi (rest := []) hx hb (hml.trans hl.1.symm) hown (hts _ kw_382) (hts _ kw_384) (hts _ kw_383) (hts _ kw_75) hK hP1 hD1 hS1 a (mN μ) 0 0 hg0 hg1 rfl rfl rfl (by decide) (by decide) hk.2.2.1 (by show 0 + kk.toNatClampNeg ≤ len; omega) (by show 0 + kk.toNatClampNeg ≤ _; omega) (fun i _ => rfl) (Nat.le_of_ble_eq_true rfl) (show 0 + (nativeFrameWords "java/lang/System" "arraycopy" 5 + 11) ≤ 60 by decide +kernel) d28 (fun H2 locs2 hP2 hD2 hS2 => ?_)
    refine lv_aload_n hx hb d31 rfl (lv_at hl 0 rfl) ?_
    rw [show 0 + 1 = 1 from rfl, Nat.zero_add]
    refine W.aret (v := .ref (bs + mN μ)) hx hb hr (Or.inr ⟨_, rfl⟩) (Or.inr ⟨_, rfl⟩) (fun t ht hW => ⟨rfl, ?_, hS2.F ht⟩) hS2.2.2 d32
    rw [ht]
    refine k_fix (f := va_cpy f (fun _ => 0) 0 0 kk.toNatClampNeg) (fun j hj => ?_) ?_
    · unfold va_cpy
      by_cases hj2 : j < kk.toNatClampNeg
      · rw [if_pos ⟨Nat.zero_le _, by omega⟩, if_pos (by omega)]
        simp
      · rw [if_neg (by omega), if_neg (by omega)]
    · have e : (m_W dA dR bs b μ ++ ([(bs + mN μ, .inl (dA 0, n.toNatClampNeg, .inl (fun _ => 0)))] : va_W)).set (mN μ) (bs + mN μ, .inl (dA 0, n.toNatClampNeg, .inl (va_cpy f (fun _ => 0) 0 0 kk.toNatClampNeg))) = m_W dA dR bs b μ ++ ([(bs + mN μ, .inl (dA 0, n.toNatClampNeg, .inl (va_cpy f (fun _ => 0) 0 0 kk.toNatClampNeg)))] : va_W) := by
        rw [List.set_append_right _ _ (by rw [m_Wlen]; omega), m_Wlen, Nat.sub_self]
        rfl
      rw [← e]
      exact hP2
  · have hnl : n = Int32.ofNat len := by first | exact c3 | exact Classical.not_not.mp c3
    have hnl2 : n.toNatClampNeg = len := by rw [hnl]; exact l1
    refine lv_aload_n hx hb d6 rfl (lv_at hl 0 rfl) ?_
    refine va_clone (rest := []) hx hb (hml.trans hl.1.symm) hown (hts _ kw_372) (hts _ kw_373) (hts _ kw_374) (hts _ kw_375) (hts _ kw_376) (hN _ kw_377) hK hP hD hS hA a 0 hg rfl hnm ?_ (Nat.le_of_ble_eq_true rfl) (Nat.le_of_ble_eq_true rfl) (Nat.le_refl 1) (by show 0 + len ≤ n.toNatClampNeg; omega) d7 (fun q H1 hK1 hP1 hD1 hS1 => ?_)
    · intro i v hv
      have hlt : i < len := by
        have := (Array.getElem?_eq_some_iff.mp hv).1
        rw [show (vp_cell (dA 0) (len, .inl f)).slots.size = len from arrV_size _ _ _] at this
        exact this
      simp only [vp_cell_i, arrV, Array.getElem?_ofFn, hlt, dif_pos] at hv
      cases hv
      rfl
    · intro T hT X
      have hq : q = bs + mN μ := m_fresh hP1 hD1 hT X (by rw [hsz]; rfl)
      subst hq
      revert hT X T
      refine (?_ : W p l e _ s mid _ below meth c H1 [] (0 + 1) (0 + len) _ _)
      refine va_castA hx hb hown (hts _ kw_378) hP1 (mN μ) (by rw [List.getElem?_append_right (by rw [m_Wlen]; omega), m_Wlen, Nat.sub_self]; rfl) hnm d10 ?_
      rw [show 0 + 1 = 1 from rfl, Nat.zero_add, ← hnl2]
      refine W.aret (v := .ref (bs + mN μ)) hx hb hr (Or.inr ⟨_, rfl⟩) (Or.inr ⟨_, rfl⟩) (fun t ht hW => ⟨rfl, ?_, hS1.F ht⟩) hS1.2.2 d13
      rw [ht]
      refine k_fix (f := f) (fun j hj => ?_) (by rw [hnl2]; exact hP1)
      rw [if_pos (by omega)]
