/-! which laws a page breaks -/
theorem SC_FI {X Y : List Nat} {μ ν : mM} (s : SC X Y μ ν) {k : Nat} (hk : k ∉ Y) : FI ν 19 k = FI μ 19 k := s.2.2.2.2 k hk
theorem SC_hbf {X Y : List Nat} {μ ν : mM} (s : SC X Y μ ν) (hX : ∀ a ∈ X, 42 ≤ a) (r p n : Nat) : hbf ν r p n = hbf μ r p n := by
  unfold hbf
  rw [SC_giv s (fun a q => Nat.le_trans (by decide) (hX a q)), SC_A s (a := 22) (by decide) (fun q => absurd (hX _ q) (by decide))]
theorem SC_shP {X Y : List Nat} {μ ν : mM} (s : SC X Y μ ν) (hX : ∀ a ∈ X, 42 ≤ a) (r p m n : Nat) (x : Int32) : shP ν r p m n x = shP μ r p m n x := by
  unfold shP
  rw [SC_hbf s hX, SC_hbf s hX]
theorem SC_hlw {X Y : List Nat} {μ ν : mM} (s : SC X Y μ ν) (hX : ∀ a ∈ X, 42 ≤ a) (l r p m n q : Nat) : hlw ν l r p m n q = hlw μ l r p m n q := by
  unfold hlw
  rw [SC_giv s (fun a q => Nat.le_trans (by decide) (hX a q)), SC_shP s hX, SC_A s (a := 22) (by decide) (fun q => absurd (hX _ q) (by decide)), SC_A s (a := 40) (by decide) (fun q => absurd (hX _ q) (by decide)), SC_A s (a := 41) (by decide) (fun q => absurd (hX _ q) (by decide))]
def fq (μ : mM) (l : Nat) : Nat := (A μ 39 l).toNatClampNeg
def LWs (μ : mM) (k : Nat) : Prop := k ≤ 8 ∧ ∀ l, l < k → A μ 39 l = nI (fq μ l) ∧ fq μ l ≤ 3
def brk (H : Nat → Bool) : Nat → Int32
  | 0 => 0
  | l + 1 => brk H l ||| (if H l = true then (0 : Int32) else (2 : Int32) <<< (nI l &&& 31))
def brO (μ : mM) (r p m n k : Nat) : Int32 := if giv μ r p n 1 = 0 then 1 else brk (fun l => hlw μ l r p m n (fq μ l)) k
theorem brk_st (H : Nat → Bool) (l : Nat) : brk H (l + 1) = brk H l ||| (if H l = true then (0 : Int32) else (2 : Int32) <<< (nI l &&& 31)) := rfl
section brok
variable {μ : mM}
set_option maxHeartbeats 2000000 in
theorem E_brokenOf {r p m n k : Nat} (h : MS μ) (hk : FI μ 19 27 = nI k) (hL : LWs μ k) (hr : r < 10) (hp : p < 8) (hn : n ≤ 24) (hb : A μ 20 p = nI n) (hw : WW (A μ 22) p n) (hP : PW (A μ 23) p n) (hR : RO μ r) (hm : 0 < p → m ≤ 24 ∧ A μ 20 (p - 1) = nI m ∧ WW (A μ 22) (p - 1) m ∧ PW (A μ 23) (p - 1) m) : ∃ ν, m_D 153 [.ref 19, .int (nI r), .int (nI p)] μ = some (some (.int (brO μ r p m n k)), ν) ∧ SC [42, 43] [] μ ν := by
  have ho := oM_oc h
  have hg := E_given h hr hp hn hb hP hR
  unfold brO
  by_cases g0 : giv μ r p n 1 = 0
  · refine ⟨μ, ?_, SC.rf h⟩
    rw [if_pos g0]
    simp (disch := first | omega | assumption) only [D153, i153_0, i153_1, i153_2, i153_3, i153_6, i153_9, i153_10, b_v_s, b_i_s, b_n_s, b_r_s, b_r_n, b_m_s, b_c_s, b_c_v, hg, g0, if_true]
  · rw [if_neg g0]
    have hk8 := hL.1
    obtain ⟨ν, w, e, s⟩ := loop_inv (fun l ν (_ : Unit) => m_G 153 16 [.ref 19, .int (nI r), .int (nI p), .int (brk (fun l => hlw μ l r p m n (fq μ l)) l), .int (nI l)] [] ν) (fun l ν => SC [42, 43] [] μ ν) k (fun l ν v hl s => by
      have hν := s.1
      have hoν := oM_oc hν
      have r27 : FI ν 19 27 = nI k := by rw [SC_FI s (by decide)]; exact hk
      have x20 : A ν 20 = A μ 20 := SC_A s (by decide) (by decide)
      have x22 : A ν 22 = A μ 22 := SC_A s (by decide) (by decide)
      have x23 : A ν 23 = A μ 23 := SC_A s (by decide) (by decide)
      have x39 : A ν 39 = A μ 39 := SC_A s (by decide) (by decide)
      obtain ⟨ξ, e, t⟩ := E_holdsLaw (l := l) (m := m) hν (by omega) hr hp hn (hL.2 l hl).2 (by rw [x39]; exact (hL.2 l hl).1) (by rw [x20]; exact hb) (by rw [x22]; exact hw) (by rw [x23]; exact hP) (SC_RO s (by decide) hR) (by rw [x20, x22, x23]; exact hm)
      rw [SC_hlw s (by decide)] at e
      refine ⟨ξ, (), ?_, s.tr t⟩
      try dsimp only
      rw [i153_16, brk_st _ l]
      cases hH : hlw μ l r p m n (fq μ l) with
      | false =>
        rw [hH] at e
        simp (disch := first | omega | assumption) only [i153_18, i153_19, i153_22, i153_25, i153_26, i153_27, i153_29, i153_30, i153_31, i153_34, i153_37, i153_38, i153_41, i153_42, i153_44, i153_45, i153_46, i153_47, i153_50, gM27 hν, r27, lt_t, if_true, if_false, b_v_s, b_i_s, b_n_s, b_r_s, b_r_n, b_m_s, b_c_s, b_c_v, e, bI_0, nI_add1, Bool.false_eq_true]
      | true =>
        rw [hH] at e
        simp (disch := first | omega | assumption) only [i153_18, i153_19, i153_22, i153_25, i153_26, i153_27, i153_29, i153_30, i153_31, i153_34, i153_37, i153_38, i153_41, i153_42, i153_44, i153_45, i153_46, i153_47, i153_50, gM27 hν, r27, lt_t, if_true, if_false, b_v_s, b_i_s, b_n_s, b_r_s, b_r_n, b_m_s, b_c_s, b_c_v, e, bI_0, nI_add1, Bool.true_eq_false]) μ () (SC.rf h)
    have hν := s.1
    have r27 : FI ν 19 27 = nI k := by rw [SC_FI s (by decide)]; exact hk
    refine ⟨ν, ?_, s⟩
    simp (disch := first | omega | assumption) only [D153, i153_0, i153_1, i153_2, i153_3, i153_6, i153_11, i153_12, i153_13, i153_14, b_v_s, b_i_s, b_n_s, b_r_s, b_r_n, b_m_s, b_c_s, b_c_v, hg, g0, if_false]
    refine (show _ = _ from e).trans ?_
    try dsimp only
    rw [i153_16]
    simp (disch := first | omega | assumption) only [i153_18, i153_19, i153_22, i153_53, i153_54, b_v_s, b_i_s, b_n_s, b_r_s, b_r_n, b_m_s, b_c_s, b_c_v, gM27 hν, r27, lt_f, if_false]
end brok
