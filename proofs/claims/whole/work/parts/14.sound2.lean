section msound
variable {l : Launch} {dC : Nat → ClassId} {dI : Nat → Nat → Nat} {dA dR : Nat → ClassId} {bs b LL : Nat} {xs : Nat → Int32}
/-- a call: what the callee's contract gives the caller -/
theorem m_stc {p : Program} {e : Env} {R : Room} {s : State} {mid : MethodId} {args : Array Value} {below : List Frame} {meth : Method} {c : Code} {Q : State → Prop} {m pc len : Nat} {L st : List Value} {μ μ1 : mM} {cells slots : Nat} {i : Instr} {q : Nat × List Value × List Value} {v : Option Value} (C : m_Cx dC dI dA dR bs b LL xs p R s mid args meth c m) (hd : decode (m_code m) pc = .ok (i, len)) (hx0 : m_ex m pc len L st μ i = some (.inr (.inr q)))
    (hM : m_Met l dC dI dA dR bs b LL xs q.1 q.2.1 μ v μ1) (hw1 : m_wf μ1) (hn1 : mN μ ≤ mN μ1) (hs1 : mS μ ≤ mS μ1) (hsc : μ1.2.1 = μ.2.1) (hcl : cells + mN μ1 ≤ R.cells + mN μ) (hsl : slots + mS μ1 ≤ R.slots + mS μ)
    (k : m_J l dC dI dA dR bs b LL xs p e R s mid args below meth c Q m (pc + 3) L (v.toList ++ q.2.2) μ1 (cells + (mN μ1 - mN μ)) (slots + (mS μ1 - mS μ))) : m_J l dC dI dA dR bs b LL xs p e R s mid args below meth c Q m pc L st μ cells slots := by
  obtain ⟨hx, hb, hml, hown, hts, ⟨hK, hN⟩, hX, hlk, hnm, hrt, hfr, hlo, hbb, hbs, hon⟩ := C
  obtain ⟨hl3, hco⟩ := m_call_some hx0
  subst hl3
  intro I H locs ls hP hS hL T hT X
  have hsz : H.size = bs + mN μ := m_hsize hP hS hT X I.2.2.1 hbs
  revert X hT T
  refine (?_ : W p l e R s mid args below meth c H locs cells slots Q (F0 mid pc ls (st.map (m_cv bs b))))
  have hf : cells + (mN μ1 - mN μ) ≤ R.cells ∧ slots + (mS μ1 - mS μ) ≤ R.slots := ⟨by omega, by omega⟩
  have kk : ∀ (H1 : Heap) (locs1 : List Loc), va_P (dC, dI) vwCl (m_W dA dR bs b μ1) H1 → va_S (fun q => bs ≤ q) s.heap H1 locs1 → W p l e R s mid args below meth c H1 locs1 (cells + (mN μ1 - mN μ)) (slots + (mS μ1 - mS μ)) Q (F0 mid (pc + 3) ls ((v.toList ++ q.2.2).map (m_cv bs b))) := fun H1 locs1 hP1 hS1 => k ⟨hw1, hsc.trans I.2.1, by have := I.2.2.1; omega, I.2.2.2⟩ H1 locs1 ls hP1 hS1 hL
  have hpre : ∀ U : State, U.heap = H → s.WarmedH U.vm → m_Pc dC dI dA dR bs b LL xs q.2.1 μ (q.2.1.map (m_cv bs b)).toArray U := by
    intro U hU hW
    refine ⟨rfl, by rw [hU]; exact hsz, m_Kn_warm hW ⟨hK, hN⟩, ?_, by rw [hU]; exact hP⟩
    rw [hU]
    exact va_X.kept (va_X.moved hW.alike hX) (hS.2.1 b (by omega) (by show ¬ bs ≤ b; omega))
  have hpre2 : ∀ (vs : List Value), q.2.1 = vs → PreS s H (m_Pc dC dI dA dR bs b LL xs q.2.1 μ) (vs.map (m_cv bs b)) := fun vs hvs => ⟨m_Pc_blind, fun U hU hW => hvs ▸ hpre U hU hW⟩
  have hF : CallFix p mid c (m_code m) (m_maxL m) s args m_TB (m_oN (m_own m)) := ⟨hx, hb, hml, hown, hts⟩
  cases i with
  | invokestatic j =>
    obtain ⟨n, hq, hmx, hxc⟩ := hco
    obtain ⟨x1, x2, x3, x4, x5, x6⟩ := x_call_at hxc
    unfold m_lkS at hq
    cases hfd : m_LT.find? (fun q => q.1 == m_own m && q.2.1 == j) with
    | none => rw [hfd] at hq; cases hq
    | some z =>
      rw [hfd] at hq
      obtain ⟨y1, y2, y3⟩ := m_find hfd
      have h4 := List.all_eq_true.mp m_okT_all z y1
      have h5 : z.2.2.1 = (q.1, n) := Option.some.inj hq
      unfold m_okT at h4
      simp only [Bool.and_eq_true, decide_eq_true_eq] at h4
      obtain ⟨⟨⟨⟨⟨a1, a2⟩, a3⟩, a4⟩, a5⟩, a6⟩ := h4
      rw [h5] at a1 a2 a3 a4 a5 a6
      rw [y2, y3] at a6
      have hmo := m_okM_all a1
      unfold m_okM at hmo
      simp only [Bool.and_eq_true, decide_eq_true_eq] at hmo
      have hstk : st.map (m_cv bs b) = (q.2.1.map (m_cv bs b)).reverse ++ q.2.2.map (m_cv bs b) := by
        rw [x5, x6, ← List.map_reverse, List.reverse_reverse, ← List.map_append, List.take_append_drop]
      have hnl : (q.2.1.map (m_cv bs b)).length = n := by rw [x5]; simp; omega
      have hR : (m_rm q.1 (mN μ1 - mN μ) (mS μ1 - mS μ)).frames + 1 ≤ R.frames ∧ 8 + (m_maxL q.1 + 11) + (m_rm q.1 (mN μ1 - mN μ) (mS μ1 - mS μ)).locals ≤ R.locals := ⟨Nat.le_trans x4.1 hfr, Nat.le_trans x4.2 hlo⟩
      have hini := hts _ (m_at_in a5)
      have hstat := hts _ (m_at_in a4)
      have hroom := lv_room (m := mid) (pc := pc) (ls := ls) (rest := st.map (m_cv bs b)) (m_rst8 (bs := bs) (b := b) x2)
      split at a6
      · refine m_cont (va_runS hF hM (va_cwS n hts (m_GI (fun w hw => ?_)) rfl rfl rfl ⟨hmo.1, hmo.2, a3⟩ hR) (hpre2 _ rfl) rfl hnl hL.1 hstk hroom hd hf) hS kk
        rcases List.mem_append.mp hw with hw | hw
        · rcases List.mem_cons.mp hw with rfl | hw
          · exact m_at_in a6
          · rcases List.mem_cons.mp hw with rfl | hw
            · exact m_at_in a4
            · rcases List.mem_cons.mp hw with rfl | hw
              · exact m_at_in a5
              · cases hw
        · exact m_ws_in a1 w hw
      · exact m_cont (va_runSN hF hM ⟨va_cnB n hts (m_GI (m_ws_in a1)) rfl rfl rfl (hN _ (m_atN_in a6)) hini ⟨hmo.1, hmo.2, a3⟩ hR, hstat, trivial⟩ (hpre2 _ rfl) rfl hnl hL.1 hstk hroom hd hf) hS kk
      · simp only [Bool.and_eq_true] at a6
        exact m_cont (x_runSU hF hM (m_GI (m_ws_in a1)) rfl rfl rfl hini (hts _ (m_at_in a6.1)) (hts _ (m_at_in a6.2)) ⟨rfl, rfl⟩ hstat ⟨hmo.1, hmo.2, a3⟩ hR (hpre2 _ rfl) rfl hnl hL.1 hstk hroom hd hf) hS kk
  | invokevirtual j =>
    obtain ⟨n, lst, a, ci, hq, hst, hoc, hfind, hxc⟩ := hco
    obtain ⟨x1, x2, x3, x4, x5, x6⟩ := x_call_at hxc
    obtain ⟨t1, t2⟩ := x_take hst
    unfold m_lkV at hq
    cases hfd : m_LV.find? (fun q => q.1 == m_own m && q.2.1 == j) with
    | none => rw [hfd] at hq; cases hq
    | some z =>
      rw [hfd] at hq
      obtain ⟨y1, y2, y3⟩ := m_find hfd
      have h4 := List.all_eq_true.mp m_okV_all z y1
      have h5 : z.2.2.1 = (n, lst) := Option.some.inj hq
      unfold m_okV at h4
      simp only [Bool.and_eq_true, decide_eq_true_eq] at h4
      obtain ⟨⟨⟨⟨a1, a2⟩, a3⟩, a4⟩, a5⟩ := h4
      rw [h5] at a2 a3 a4 a5
      rw [y2, y3] at a1
      simp only at a2 a3 a4 a5
      obtain ⟨jj, hjj⟩ := List.getElem?_of_mem (List.mem_of_find?_eq_some hfind)
      have hjl : jj < lst.length := (List.getElem?_eq_some_iff.mp hjj).1
      have hgd : lst.getD jj (0, 0) = (ci, q.1) := by rw [List.getD_eq_getElem?_getD, hjj]; rfl
      have a4 := List.all_eq_true.mp a4 jj (List.mem_range.mpr hjl)
      rw [hgd] at a4
      simp only [Bool.and_eq_true, decide_eq_true_eq] at a4
      obtain ⟨⟨⟨⟨⟨⟨b1, b2⟩, b3⟩, b4⟩, b5⟩, b6⟩, b7⟩ := a4
      have hmo := m_okM_all b2
      unfold m_okM at hmo
      simp only [Bool.and_eq_true, decide_eq_true_eq] at hmo
      have hargs : q.2.1 = .ref a :: (st.take n).reverse := x5.trans t1
      have hstk : st.map (m_cv bs b) = (((st.take n).reverse).map (m_cv bs b)).reverse ++ .ref (bs + a) :: q.2.2.map (m_cv bs b) := by
        rw [x6, ← List.map_reverse, List.reverse_reverse]
        conv => lhs; rw [t2]
        rw [List.map_append]
        rfl
      have hnl : (((st.take n).reverse).map (m_cv bs b)).length = n := by simp; omega
      have hR : (m_rm q.1 (mN μ1 - mN μ) (mS μ1 - mS μ)).frames + 1 ≤ R.frames ∧ 8 + (m_maxL q.1 + 11) + (m_rm q.1 (mN μ1 - mN μ) (mS μ1 - mS μ)).locals ≤ R.locals := ⟨Nat.le_trans x4.1 hfr, Nat.le_trans x4.2 hlo⟩
      have hroom := lv_room (m := mid) (pc := pc) (ls := ls) (rest := st.map (m_cv bs b)) (m_rst8 (bs := bs) (b := b) x2)
      obtain ⟨fs, hfa⟩ : ∃ fs, mF μ a = some (m_ob ci fs) := by
        unfold m_oc at hoc
        split at hoc
        · rename_i o ho
          obtain ⟨o1, o2⟩ := o
          cases hoc
          exact ⟨o2, ho⟩
        · cases hoc
      have hpv : PreV s H (m_Rn ci) (bs + a) (m_Pc dC dI dA dR bs b LL xs q.2.1 μ) (((st.take n).reverse).map (m_cv bs b)) := ⟨m_Pc_blind, va_recv (q := (m_Rn ci, m_T ci, m_nf ci)) hK hP (m_vw b1) (m_W_get I.1 hfa), fun U hU hW => by have := hpre U hU hW; rw [hargs] at this ⊢; exact this⟩
      split at a5
      · have hy : m_nam q.1 = z.2.2.2.2.1 := by
          have := List.all_eq_true.mp a5 jj (List.mem_range.mpr hjl)
          rw [hgd] at this
          simpa using this
        rw [← hy] at a1 a2 b6
        refine m_cont (va_runV hF hM (cwV n hts (m_GI (fun w hw => ?_)) rfl rfl rfl ⟨b4, hmo.1, hmo.2, a2⟩ hR) hpv rfl hnl hL.1 hstk hroom hd hf) hS kk
        rcases List.mem_append.mp hw with hw | hw
        · rcases List.mem_cons.mp hw with rfl | hw
          · exact m_at_in a1
          · rcases List.mem_cons.mp hw with rfl | hw
            · exact m_at_in b5
            · rcases List.mem_cons.mp hw with rfl | hw
              · exact m_at_in b6
              · rcases List.mem_cons.mp hw with rfl | hw
                · exact m_at_in b7
                · cases hw
        · exact m_ws_in b2 w hw
      · simp only [Bool.and_eq_true, decide_eq_true_eq] at a5
        obtain ⟨⟨⟨c1, c2⟩, c3⟩, c4⟩ := a5
        refine m_cont (va_runU hF hM (va_cwA (C := m_Rn ci) (owner := z.2.2.2.2.1.cls) (x := z.2.2.2.2.1) n hts (m_GI (fun w hw => ?_)) rfl rfl rfl (hN _ (m_atN_in c2)) ⟨c3, c4, a2⟩ hR) hpv rfl hnl hL.1 hstk hroom hd hf) hS kk
        rcases List.mem_append.mp hw with hw | hw
        · rcases List.mem_cons.mp hw with rfl | hw
          · exact m_at_in a1
          · rcases List.mem_cons.mp hw with rfl | hw
            · exact m_at_in c1
            · rcases List.mem_cons.mp hw with rfl | hw
              · exact m_at_in b6
              · rcases List.mem_cons.mp hw with rfl | hw
                · exact m_at_in b5
                · rcases List.mem_cons.mp hw with rfl | hw
                  · rw [b4]; exact m_at_in b7
                  · cases hw
        · exact m_ws_in b2 w hw
  | invokespecial j =>
    obtain ⟨n, a, hq, hst, hxc⟩ := hco
    obtain ⟨x1, x2, x3, x4, x5, x6⟩ := x_call_at hxc
    obtain ⟨t1, t2⟩ := x_take hst
    unfold m_lkP at hq
    cases hfd : m_LP.find? (fun q => q.1 == m_own m && q.2.1 == j) with
    | none => rw [hfd] at hq; cases hq
    | some z =>
      rw [hfd] at hq
      obtain ⟨y1, y2, y3⟩ := m_find hfd
      have h4 := List.all_eq_true.mp m_okP_all z y1
      have h5 : z.2.2.1 = some (q.1, n) := Option.some.inj hq
      unfold m_okP at h4
      rw [h5, y2, y3] at h4
      simp only [Bool.and_eq_true, decide_eq_true_eq] at h4
      obtain ⟨⟨⟨⟨⟨⟨⟨a1, a2⟩, a3⟩, a4⟩, a5⟩, a6⟩, a7⟩, a8⟩ := h4
      have hmo := m_okM_all a1
      unfold m_okM at hmo
      simp only [Bool.and_eq_true, decide_eq_true_eq] at hmo
      have hargs : q.2.1 = .ref a :: (st.take n).reverse := x5.trans t1
      have hstk : st.map (m_cv bs b) = (((st.take n).reverse).map (m_cv bs b)).reverse ++ .ref (bs + a) :: q.2.2.map (m_cv bs b) := by
        rw [x6, ← List.map_reverse, List.reverse_reverse]
        conv => lhs; rw [t2]
        rw [List.map_append]
        rfl
      have hnl : (((st.take n).reverse).map (m_cv bs b)).length = n := by simp; omega
      have hR : (m_rm q.1 (mN μ1 - mN μ) (mS μ1 - mS μ)).frames + 1 ≤ R.frames ∧ 8 + (m_maxL q.1 + 11) + (m_rm q.1 (mN μ1 - mN μ) (mS μ1 - mS μ)).locals ≤ R.locals := ⟨Nat.le_trans x4.1 hfr, Nat.le_trans x4.2 hlo⟩
      have hroom := lv_room (m := mid) (pc := pc) (ls := ls) (rest := st.map (m_cv bs b)) (m_rst8 (bs := bs) (b := b) x2)
      have hps : PreS s H (m_Pc dC dI dA dR bs b LL xs q.2.1 μ) (.ref (bs + a) :: ((st.take n).reverse).map (m_cv bs b)) := hpre2 (.ref a :: (st.take n).reverse) hargs
      have hcw : m_ws q.1 = Cond.code (m_nam q.1) (m_code q.1) (m_maxL q.1) none :: m_TB := by unfold m_ws m_cw; rw [a5]
      have hini := hts _ (m_at_in a7)
      have hins := hts _ (m_at_in a6)
      split at a8
      · exact m_cont (va_runI hF hM (cwI n hts (m_GI (m_ws_in a1)) hcw rfl rfl hini (hts _ (m_at_in a8)) hins a4 ⟨hmo.1, hmo.2, a3⟩ hR) hps rfl hnl hL.1 hstk hroom hd hf) hS kk
      · exact m_cont (va_runIN hF hM ⟨va_cnB n hts (m_GI (m_ws_in a1)) hcw rfl rfl (hN _ (m_atN_in a8)) hini ⟨hmo.1, hmo.2, a3⟩ hR, a4, hins⟩ hps rfl hnl hL.1 hstk hroom hd hf) hS kk
  | _ => exact hco.elim
end msound
