/-! what the model's rules give; RM: how many steps, RT: steps -/
def stp (RT : Nat → Int32) (r j : Nat) : Nat := (RT (6 * r + j)).toNatClampNeg
def RW (RM RT : Nat → Int32) (r k : Nat) : Prop := RM r = nI k ∧ k ≤ 6 ∧ ∀ j, j < k → RT (6 * r + j) = nI (stp RT r j) ∧ stp RT r j < 21
def gv (PR KD RT : Nat → Int32) (r p n : Nat) (s : Int32) : Nat → Int32
  | 0 => s
  | j + 1 => mk (ledP PR KD p (gv PR KD RT r p n s j) (stp RT r j)) n
def rowsM (PR : Nat → Int32) (p n : Nat) : Nat → Bool := fun b => decide (0 < cnt (fun c => decide (PR (24 * p + c) = nI b)) n)
def wordM (WD : Nat → Int32) (p : Nat) : Nat → Bool := fun b => decide (¬ WD (24 * p + b) = -1)
def srt (k : Nat) (s rows worded : Int32) : Int32 := match k with
  | 1 => s &&& rows
  | 2 => s &&& -s
  | 3 => s &&& worded
  | 4 => (s &&& rows) &&& -(s &&& rows)
  | 5 => (s &&& rows) &&& ((s &&& rows) - 1)
  | _ => s
theorem le_0 {a : Nat} (h : a < 2147483648) : (nI a ≤ 0) = (a = 0) := by
  rw [n0, nI_leE h (by decide)]
  exact propext ⟨fun q => by omega, fun q => by omega⟩
section given
variable {μ : mM}
set_option maxHeartbeats 2000000 in
theorem E_givenFrom {r p n k q : Nat} {s : Int32} (h : MS μ) (hr : r < 10) (hp : p < 8) (hn : n ≤ 24) (hb : A μ 20 p = nI n) (hw : PW (A μ 23) p n) (hR : RW (A μ 32) (A μ 33) r k) (hq : A μ 31 r = nI q) (hq5 : q ≤ 5) : m_D 126 [.ref 19, .int (nI r), .int (nI p), .int s] μ = some (some (.int (srt q (gv (A μ 23) (A μ 21) (A μ 33) r p n s k) (mk (rowsM (A μ 23) p n) n) (mk (wordM (A μ 22) p) n))), μ) := by
  have ho := oM_oc h
  obtain ⟨hk, hk6, hst⟩ := hR
  have L := loop1 (fun i => m_G 126 6 [.ref 19, .int (nI r), .int (nI p), .int s, .int (gv (A μ 23) (A μ 21) (A μ 33) r p n s i), .int (nI i), m_d, m_d, m_d] [] μ) k (fun i hi => by
    try dsimp only
    obtain ⟨s1, s2⟩ := hst i hi
    have hl := E_led (μ := μ) (p := p) (n := n) (t := stp (A μ 33) r i) (s := gv (A μ 23) (A μ 21) (A μ 33) r p n s i) h hp hn hb hw s2
    rw [i126_6, gv]
    simp (disch := first | omega | assumption) only [i126_8, i126_9, i126_12, i126_13, i126_14, i126_17, i126_18, i126_19, i126_21, i126_22, i126_25, i126_27, i126_28, i126_29, i126_31, i126_32, i126_33, i126_36, i126_38, i126_41, gM19 h, ga_A (aM32 h), gM20 h, ga_A (aM33 h), b_v_s, b_i_s, b_n_s, b_r_s, b_r_n, b_m_s, b_c_s, b_c_v, hk, lt_t, if_true, k6, s1, hl, nI_add1])
  have L2 := loop1 (fun i => m_G 126 61 [.ref 19, .int (nI r), .int (nI p), .int s, .int (gv (A μ 23) (A μ 21) (A μ 33) r p n s k), .int (nI q), .int (mk (rowsM (A μ 23) p n) i), .int (mk (wordM (A μ 22) p) i), .int (nI i)] [] μ) n (fun i hi => by
    try dsimp only
    have hl := E_innerMany (μ := μ) (p := p) (n := n) (b := nI i) h hp hn hb
    have hcl := cnt_le (fun c => decide (A μ 23 (24 * p + c) = nI i)) n
    rw [i126_61, mk, mk]
    simp (disch := first | omega | assumption) only [i126_63, i126_64, i126_67, i126_68, i126_69, i126_72, i126_74, i126_75, i126_76, i126_78, i126_81, i126_84, i126_85, i126_87, i126_88, i126_91, i126_92, i126_93, gM1 h, ga_A (aM20 h), b_v_s, b_i_s, b_n_s, b_r_s, b_r_n, b_m_s, b_c_s, b_c_v, hb, lt_t, if_true, hl, le_0, sb_def, or_0]
    by_cases c1 : cnt (fun c => decide (A μ 23 (24 * p + c) = nI i)) n = 0 <;> by_cases c2 : A μ 22 (24 * p + i) = -1 <;> (
      simp (disch := first | omega | assumption) only [i126_84, i126_85, i126_87, i126_88, i126_91, i126_92, i126_93, i126_95, i126_97, i126_98, i126_101, i126_103, i126_104, i126_105, i126_107, i126_108, i126_109, i126_110, i126_113, i126_114, i126_116, i126_117, i126_120, i126_121, i126_122, i126_124, i126_127, gM3 h, ga_A (aM22 h), b_v_s, b_i_s, b_n_s, b_r_s, b_r_n, b_m_s, b_c_s, b_c_v, k24, sb_def, or_0, nI_add1, c1, c2, if_true, if_false, rowsM, wordM, not_true, decide_false, not_false_eq_true, decide_true, Bool.false_eq_true, Nat.lt_irrefl, show (0 < cnt (fun c => decide (A μ 23 (24 * p + c) = nI i)) n) = (¬ cnt (fun c => decide (A μ 23 (24 * p + c) = nI i)) n = 0) from propext ⟨fun z => by omega, fun z => by omega⟩]))
  simp only [D126, i126_0, i126_1, i126_3, i126_4, n0]
  refine L.trans ?_
  try dsimp only
  rw [i126_6]
  simp (disch := first | omega | assumption) only [i126_8, i126_9, i126_12, i126_13, i126_14, i126_17, i126_18, i126_19, i126_21, i126_22, i126_25, i126_27, i126_28, i126_29, i126_31, i126_32, i126_33, i126_36, i126_38, i126_41, i126_44, i126_45, i126_48, i126_49, i126_50, i126_52, i126_53, i126_55, i126_56, i126_58, i126_59, gM19 h, ga_A (aM32 h), gM18 h, ga_A (aM31 h), b_v_s, b_i_s, b_n_s, b_r_s, b_r_n, b_m_s, b_c_s, b_c_v, hk, lt_f, if_false, hq, n0]
  refine L2.trans ?_
  try dsimp only
  rw [i126_61]
  simp (disch := first | omega | assumption) only [i126_63, i126_64, i126_67, i126_68, i126_69, i126_72, i126_74, i126_75, i126_76, i126_78, i126_81, i126_84, i126_85, i126_87, i126_88, i126_91, i126_92, i126_93, i126_95, i126_97, i126_98, i126_101, i126_103, i126_104, i126_105, i126_107, i126_108, i126_109, i126_110, i126_113, i126_114, i126_116, i126_117, i126_120, i126_121, i126_122, i126_124, i126_127, i126_130, gM1 h, ga_A (aM20 h), b_v_s, b_i_s, b_n_s, b_r_s, b_r_n, b_m_s, b_c_s, b_c_v, hb, lt_f, if_false]
  rcases (show q = 0 ∨ q = 1 ∨ q = 2 ∨ q = 3 ∨ q = 4 ∨ q = 5 by omega) with rfl | rfl | rfl | rfl | rfl | rfl
  · rw [i126_132_d (Or.inl (by decide))]; simp only [i126_168, i126_170, i126_172, i126_173, i126_174, i126_176, i126_178, i126_179, i126_180, i126_181, i126_183, i126_185, i126_186, i126_187, i126_189, i126_191, i126_192, i126_194, i126_196, i126_197, i126_198, i126_199, i126_200, i126_202, i126_204, i126_205, i126_207, i126_209, i126_210, i126_211, i126_212, i126_213, i126_214, i126_216]; rfl
  · rw [show nI 1 = 1 from rfl]; simp only [i126_132_1, i126_132_2, i126_132_3, i126_132_4, i126_132_5, i126_132_d, i126_168, i126_170, i126_172, i126_173, i126_174, i126_176, i126_178, i126_179, i126_180, i126_181, i126_183, i126_185, i126_186, i126_187, i126_189, i126_191, i126_192, i126_194, i126_196, i126_197, i126_198, i126_199, i126_200, i126_202, i126_204, i126_205, i126_207, i126_209, i126_210, i126_211, i126_212, i126_213, i126_214, i126_216]; rfl
  · rw [show nI 2 = 2 from rfl]; simp only [i126_132_1, i126_132_2, i126_132_3, i126_132_4, i126_132_5, i126_132_d, i126_168, i126_170, i126_172, i126_173, i126_174, i126_176, i126_178, i126_179, i126_180, i126_181, i126_183, i126_185, i126_186, i126_187, i126_189, i126_191, i126_192, i126_194, i126_196, i126_197, i126_198, i126_199, i126_200, i126_202, i126_204, i126_205, i126_207, i126_209, i126_210, i126_211, i126_212, i126_213, i126_214, i126_216]; rfl
  · rw [show nI 3 = 3 from rfl]; simp only [i126_132_1, i126_132_2, i126_132_3, i126_132_4, i126_132_5, i126_132_d, i126_168, i126_170, i126_172, i126_173, i126_174, i126_176, i126_178, i126_179, i126_180, i126_181, i126_183, i126_185, i126_186, i126_187, i126_189, i126_191, i126_192, i126_194, i126_196, i126_197, i126_198, i126_199, i126_200, i126_202, i126_204, i126_205, i126_207, i126_209, i126_210, i126_211, i126_212, i126_213, i126_214, i126_216]; rfl
  · rw [show nI 4 = 4 from rfl]; simp only [i126_132_1, i126_132_2, i126_132_3, i126_132_4, i126_132_5, i126_132_d, i126_168, i126_170, i126_172, i126_173, i126_174, i126_176, i126_178, i126_179, i126_180, i126_181, i126_183, i126_185, i126_186, i126_187, i126_189, i126_191, i126_192, i126_194, i126_196, i126_197, i126_198, i126_199, i126_200, i126_202, i126_204, i126_205, i126_207, i126_209, i126_210, i126_211, i126_212, i126_213, i126_214, i126_216]; rfl
  · rw [show nI 5 = 5 from rfl]; simp only [i126_132_1, i126_132_2, i126_132_3, i126_132_4, i126_132_5, i126_132_d, i126_168, i126_170, i126_172, i126_173, i126_174, i126_176, i126_178, i126_179, i126_180, i126_181, i126_183, i126_185, i126_186, i126_187, i126_189, i126_191, i126_192, i126_194, i126_196, i126_197, i126_198, i126_199, i126_200, i126_202, i126_204, i126_205, i126_207, i126_209, i126_210, i126_211, i126_212, i126_213, i126_214, i126_216]; rfl
/-- what rule r gives on page p from a set -/
def giv (μ : mM) (r p n : Nat) (s : Int32) : Int32 := srt (A μ 31 r).toNatClampNeg (gv (A μ 23) (A μ 21) (A μ 33) r p n s (A μ 32 r).toNatClampNeg) (mk (rowsM (A μ 23) p n) n) (mk (wordM (A μ 22) p) n)
theorem giv_eq {r p n k q : Nat} {s : Int32} (hk : A μ 32 r = nI k) (hk6 : k ≤ 6) (hq : A μ 31 r = nI q) (hq5 : q ≤ 5) : giv μ r p n s = srt q (gv (A μ 23) (A μ 21) (A μ 33) r p n s k) (mk (rowsM (A μ 23) p n) n) (mk (wordM (A μ 22) p) n) := by
  unfold giv
  rw [hk, hq, nI_clamp (by omega), nI_clamp (by omega)]
/-- a rule as it must be -/
def RO (μ : mM) (r : Nat) : Prop := ∃ k q, RW (A μ 32) (A μ 33) r k ∧ A μ 31 r = nI q ∧ q ≤ 5
theorem E_givenF {r p n : Nat} {s : Int32} (h : MS μ) (hr : r < 10) (hp : p < 8) (hn : n ≤ 24) (hb : A μ 20 p = nI n) (hw : PW (A μ 23) p n) (hR : RO μ r) : m_D 126 [.ref 19, .int (nI r), .int (nI p), .int s] μ = some (some (.int (giv μ r p n s)), μ) := by
  obtain ⟨k, q, h1, h2, h3⟩ := hR
  rw [E_givenFrom h hr hp hn hb hw h1 h2 h3, giv_eq h1.1 h1.2.1 h2 h3]
theorem E_given {r p n : Nat} (h : MS μ) (hr : r < 10) (hp : p < 8) (hn : n ≤ 24) (hb : A μ 20 p = nI n) (hw : PW (A μ 23) p n) (hR : RO μ r) : m_D 127 [.ref 19, .int (nI r), .int (nI p)] μ = some (some (.int (giv μ r p n 1)), μ) := by
  have ho := oM_oc h
  have hg := E_givenF (s := 1) h hr hp hn hb hw hR
  simp (disch := assumption) only [D127, i127_0, i127_1, i127_2, i127_3, i127_4, i127_7, b_v_s, b_i_s, b_n_s, b_r_s, b_r_n, b_m_s, b_c_s, b_c_v, hg]
end given
