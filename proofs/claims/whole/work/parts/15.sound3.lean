section msound3
variable {l : Launch} {dC : Nat → ClassId} {dI : Nat → Nat → Nat} {dA dR : Nat → ClassId} {bs b LL : Nat} {xs : Nat → Int32}
def m_Rt (l : Launch) (dC : Nat → ClassId) (dI : Nat → Nat → Nat) (dA dR : Nat → ClassId) (bs b : Nat) (p : Program) (e : Env) (R : Room) (s : State) (mid : MethodId) (args : Array Value) (below : List Frame) (meth : Method) (c : Code) (Q : State → Prop) (m : Nat) (r : Option Value × mM) (TC TS : Nat) : Prop :=
  ∀ (i : Instr) (pcr : Nat) (ls : Array Slot) (H : Heap) (locs : List Loc), decode (m_code m) pcr = .ok (i, 1) → m_rok m i r.1 → va_P (dC, dI) vwCl (m_W dA dR bs b r.2) H → va_S (fun q => bs ≤ q) s.heap H locs → W p l e R s mid args below meth c H locs TC TS Q (F0 mid pcr ls (r.1.toList.map (m_cv bs b)))
theorem m_cal_ok {μ : mM} {m pc len : Nat} {L st : List Value} {i : Instr} {q : Nat × List Value × List Value} (h : m_ex m pc len L st μ i = some (.inr (.inr q))) : q.1 < 174 ∧ plainName (m_nam q.1).cls = true ∧ q.2.1.map (fun v => v.category) = m_wid q.1 := by
  obtain ⟨-, hco⟩ := m_call_some h
  cases i with
  | invokestatic j =>
    obtain ⟨n, hq, hmx, hxc⟩ := hco
    refine ⟨?_, ?_, (x_call_at hxc).2.2.1⟩ <;>
    · unfold m_lkS at hq
      cases hfd : m_LT.find? (fun q => q.1 == m_own m && q.2.1 == j) with
      | none => rw [hfd] at hq; cases hq
      | some z =>
        rw [hfd] at hq
        have h4 := List.all_eq_true.mp m_okT_all z (m_find hfd).1
        have h5 : z.2.2.1 = (q.1, n) := Option.some.inj hq
        unfold m_okT at h4
        simp only [Bool.and_eq_true, decide_eq_true_eq, h5, Bool.or_eq_true, hmx, false_or] at h4
        first | exact h4.1.1.1.1.1 | exact h4.1.1.1.1.2
  | invokevirtual j =>
    obtain ⟨n, lst, a, ci, hq, hst, hoc, hfind, hxc⟩ := hco
    refine ⟨?_, ?_, (x_call_at hxc).2.2.1⟩ <;>
    · unfold m_lkV at hq
      cases hfd : m_LV.find? (fun q => q.1 == m_own m && q.2.1 == j) with
      | none => rw [hfd] at hq; cases hq
      | some z =>
        rw [hfd] at hq
        have h4 := List.all_eq_true.mp m_okV_all z (m_find hfd).1
        have h5 : z.2.2.1 = (n, lst) := Option.some.inj hq
        unfold m_okV at h4
        simp only [Bool.and_eq_true, decide_eq_true_eq] at h4
        have a4 := h4.1.2
        rw [h5] at a4
        obtain ⟨jj, hjj⟩ := List.getElem?_of_mem (List.mem_of_find?_eq_some hfind)
        have hjl : jj < lst.length := (List.getElem?_eq_some_iff.mp hjj).1
        have hgd : lst.getD jj (0, 0) = (ci, q.1) := by rw [List.getD_eq_getElem?_getD, hjj]; rfl
        have a4 := List.all_eq_true.mp a4 jj (List.mem_range.mpr hjl)
        rw [hgd] at a4
        simp only [Bool.and_eq_true, decide_eq_true_eq] at a4
        first | exact a4.1.1.1.1.1.2 | exact a4.1.1.1.1.2
  | invokespecial j =>
    obtain ⟨n, a, hq, hst, hxc⟩ := hco
    refine ⟨?_, ?_, (x_call_at hxc).2.2.1⟩ <;>
    · unfold m_lkP at hq
      cases hfd : m_LP.find? (fun q => q.1 == m_own m && q.2.1 == j) with
      | none => rw [hfd] at hq; cases hq
      | some z =>
        rw [hfd] at hq
        have h4 := List.all_eq_true.mp m_okP_all z (m_find hfd).1
        have h5 : z.2.2.1 = some (q.1, n) := Option.some.inj hq
        unfold m_okP at h4
        rw [h5] at h4
        simp only [Bool.and_eq_true, decide_eq_true_eq] at h4
        first | exact h4.1.1.1.1.1.1.1 | exact h4.1.1.1.1.1.1.2
  | _ => exact hco.elim
set_option maxHeartbeats 4000000 in
theorem m_sound (hbb : b < bs) : ∀ (n m pc : Nat) (L st : List Value) (μ : mM) (r : Option Value × mM), m_run n m pc L st μ = some r → ∀ (p : Program) (e : Env) (R : Room) (s : State) (mid : MethodId) (args : Array Value) (below : List Frame) (meth : Method) (c : Code) (Q : State → Prop) (cells slots TC TS : Nat),
    m_Cx dC dI dA dR bs b LL xs p R s mid args meth c m → L.length = m_maxL m → cells + mN r.2 = TC + mN μ → slots + mS r.2 = TS + mS μ → TC ≤ R.cells → TS ≤ R.slots → m_Rt l dC dI dA dR bs b p e R s mid args below meth c Q m r TC TS → m_J l dC dI dA dR bs b LL xs p e R s mid args below meth c Q m pc L st μ cells slots := by
  intro n
  induction n with
  | zero => intro m pc L st μ r h; exact absurd h (by simp [m_run])
  | succ n ih =>
    intro m pc L st μ r h p e R s mid args below meth c Q cells slots TC TS C hlen hTC hTS hRc hRs hret
    unfold m_run at h
    split at h
    · cases h
    · rename_i i len hd
      split at h
      · cases h
      · rename_i z hz
        have hk := m_ex_keep hz
        have hk2 := m_run_keep _ _ _ _ _ _ _ h
        intro I
        exact m_st1 C hlen hd hz (by have := hk2.1; omega) (by have := hk2.2.1; omega) I (fun cells' slots' e1 e2 => ih _ _ _ _ _ _ h p e R s mid args below meth c Q cells' slots' TC TS C (hk.1.trans hlen) (by omega) (by omega) hRc hRs hret) I
      · rename_i v hv
        cases h
        obtain ⟨h1, h2, h3⟩ := m_ret_some hv
        subst h1
        subst h3
        have e1 : TC = cells := by simp only at hTC; omega
        have e2 : TS = slots := by simp only at hTS; omega
        subst e1; subst e2
        intro I H locs ls hP hS hL
        exact hret i pc ls H locs hd h2 hP hS
      · rename_i q hq
        rw [Option.bind_eq_some_iff] at h
        obtain ⟨w, hw, h⟩ := h
        have hk2 := m_run_keep _ _ _ _ _ _ _ h
        obtain ⟨q1, q2, q3⟩ := m_cal_ok hq
        intro I
        have hkw : mN μ ≤ mN w.2 ∧ mS μ ≤ mS w.2 ∧ w.2.2.1 = μ.2.1 ∧ (m_wf μ → m_wf w.2) := by
          split at hw
          · exact m_copy_keep hw
          · exact m_run_keep _ _ _ _ _ _ _ hw
        have hM : m_Met l dC dI dA dR bs b LL xs q.1 q.2.1 μ w.1 w.2 := by
          split at hw
          · rename_i hcp
            obtain ⟨a, n0, len0, f, h1, h2, h3, h4, h5⟩ := m_copy_some hw
            rw [hcp, h1, h5]
            exact m_copy_met hbb I.1 h2 h3 h4
          · refine Met.ofW (cc := m_code q.1) (maxL := m_maxL q.1) (ret := m_ret q.1) q2 rfl ?_
            intro p' e' s' mid' args' below' meth' c' s₁ B hml hv
            obtain ⟨rfl, hsz, hKn, hX, hP⟩ := hv
            have hx := B.exec
            have hb := B.bytes
            have hr := B.returns
            have hts : ∀ w ∈ m_TB, w.before (q.2.1.map (m_cv bs b)).toArray s' = true := fun w h => atoms_spec (ws := m_ws q.1) B.pre w (List.mem_cons_of_mem _ h)
            have hok := m_okR_at (m := q.1) (by omega)
            unfold m_okR at hok
            simp only [Bool.and_eq_true, decide_eq_true_eq] at hok
            have hown : s'.vm.findClass (m_oN (m_own q.1)) = some mid'.cls := by rw [hok.1.1.1]; exact findClass_of_methodNamed B.named
            have hlocks := B.notSynchronized
            have hnm : meth'.name = (m_nam q.1).name := (name_of_methodNamed B.named B.method).1
            obtain ⟨p1, p2, p3⟩ := m_pad_ok (m := q.1) (by omega) (bs := bs) (b := b) q3
            rw [lg_entry_eq]
            have C' : m_Cx dC dI dA dR bs b LL xs p' (headSpec (m_ws q.1) (m_rm q.1 (mN w.2 - mN μ) (mS w.2 - mS μ))).room s' mid' (q.2.1.map (m_cv bs b)).toArray meth' c' q.1 := ⟨hx, hb, hml, hown, hts, hKn, hX, hlocks, fun h => hnm.trans h, hr, Nat.le_refl _, Nat.le_refl _, hbb, by omega, hok.1.1.1⟩
            refine ih _ _ _ _ _ _ hw p' e' _ s' mid' _ below' meth' c' _ 0 0 (mN w.2 - mN μ) (mS w.2 - mS μ) C' p1 (by omega) (by omega) (Nat.le_refl _) (Nat.le_refl _) ?_ ⟨I.1, I.2.1, by omega, p2⟩ s'.heap [] _ hP va_S.rf p3
            intro i' pcr ls' H' locs' hd' hrok hP' hS'
            have hfin : ∀ t : State, t.heap = H' → s'.WarmedH t.vm → m_Qc dC dI dA dR bs b w.1 w.2 (q.2.1.map (m_cv bs b)).toArray s' (.returned (w.1.map (m_cv bs b))) t := fun t ht _ => ⟨rfl, by rw [ht]; exact hP', hS'.F ht⟩
            have hfree : ∀ q ∈ locs', (fun q : Nat => bs ≤ q) q.base := hS'.2.2
            obtain ⟨wv, wm⟩ := w
            simp only at hrok hfin ⊢
            unfold m_rok at hrok
            split at hrok
            · rename_i x
              rcases hrok with h1 | ⟨h1, h2⟩
              · exact W.iret (v := x) hx hb (hr.trans h1) hfin hfree hd'
              · exact W.zret (v := x) (ty := .boolean) hx hb (hr.trans h1) (by show Value.int (x &&& 1) = Value.int x; rw [h2]) hfin hfree hd'
            · exact W.lret hx hb (hr.trans hrok) hfin hfree hd'
            · rename_i a
              have hA : ∃ rt, m_ret q.1 = some rt ∧ ((∃ n, rt = .object n) ∨ ∃ t, rt = .array t) := by
                unfold m_isA at hrok
                split at hrok
                · rename_i nn hn; exact ⟨_, hn, Or.inl ⟨_, rfl⟩⟩
                · rename_i nn hn; exact ⟨_, hn, Or.inr ⟨_, rfl⟩⟩
                · cases hrok
              obtain ⟨rt, g1, g2⟩ := hA
              exact W.aret (v := .ref (bs + a)) hx hb (hr.trans g1) g2 (Or.inr ⟨_, rfl⟩) hfin hfree hd'
            · have hA : ∃ rt, m_ret q.1 = some rt ∧ ((∃ n, rt = .object n) ∨ ∃ t, rt = .array t) := by
                unfold m_isA at hrok
                split at hrok
                · rename_i nn hn; exact ⟨_, hn, Or.inl ⟨_, rfl⟩⟩
                · rename_i nn hn; exact ⟨_, hn, Or.inr ⟨_, rfl⟩⟩
                · cases hrok
              obtain ⟨rt, g1, g2⟩ := hA
              exact W.aret (v := .null) hx hb (hr.trans g1) g2 (Or.inl rfl) hfin hfree hd'
            · exact W.vret hx hb (hr.trans hrok) hfin hfree hd'
            · exact hrok.elim
        exact m_stc C hd hq hM (hkw.2.2.2 I.1) hkw.1 hkw.2.1 hkw.2.2.1 (by have := hk2.1; omega) (by have := hk2.2.1; omega) (ih _ _ _ _ _ _ h p e R s mid args below meth c Q _ _ TC TS C hlen (by omega) (by omega) hRc hRs hret) I
end msound3
