/-! a page of the class, tied to the model's rows: PR parents, KD kinds, WD words of page p, n boxes, its cells from a on -/
def inn (PR : Nat → Int32) (p n b : Nat) : Int32 := mk (fun c => decide (PR (24 * p + c) = nI b)) n
def dpr (PR : Nat → Int32) (p n b : Nat) : Int32 := mk (fun c => decide (0 < c) && bt (dp PR p (sb b) c) (up PR p c)) n
def okd (KD : Nat → Int32) (p n k : Nat) : Int32 := mk (fun c => decide (KD (24 * p + c) = nI k)) n
def fal (WD : Nat → Int32) (p b : Nat) : Nat := match fst (fun c => decide (WD (24 * p + c) = WD (24 * p + b))) b 0 with
  | some i => i
  | none => b
def dph (PR : Nat → Int32) (p : Nat) : Nat → Nat → Nat
  | 0, _ => 0
  | f + 1, b => if b = 0 then 0 else dph PR p f (up PR p b) + 1
def TPg (a : Nat) : Tm := [none, some (some (a + 3)), some (some (a + 4)), some (some (a + 5)), some (some (a + 6)), some (some (a + 7)), some (some (a + 8)), some (some (a + 9)), some (some (a + 1)), none, none, none, none, none, some (some (a + 2)), none]
def PSh (μ : mM) (a n : Nat) : Prop := isO μ a 3 (TPg a) ∧ isA μ (a + 1) 0 5 ∧ isA μ (a + 2) 0 3615 ∧ isA μ (a + 3) 0 n ∧ isA μ (a + 4) 0 n ∧ isA μ (a + 5) 0 n ∧ isA μ (a + 6) 0 n ∧ isA μ (a + 7) 0 n ∧ isA μ (a + 8) 0 n ∧ isA μ (a + 9) 0 n
def PCo (μ : mM) (a p n : Nat) (PR KD WD : Nat → Int32) : Prop := FI μ a 0 = nI n ∧ FI μ a 9 = mk (wordM WD p) n ∧ FI μ a 10 = mk (rowsM PR p n) n ∧ (∀ k, k < 5 → A μ (a + 1) k = okd KD p n k) ∧ ∀ b, b < n → A μ (a + 3) b = KD (24 * p + b) ∧ A μ (a + 4) b = WD (24 * p + b) ∧ A μ (a + 5) b = PR (24 * p + b) ∧ A μ (a + 6) b = nI (dph PR p 24 b) ∧ A μ (a + 7) b = inn PR p n b ∧ A μ (a + 8) b = dpr PR p n b ∧ A μ (a + 9) b = nI (fal WD p b)
def KW (KD : Nat → Int32) (p n : Nat) : Prop := ∀ b, b < n → ∃ k, k < 5 ∧ KD (24 * p + b) = nI k
def PV (μ : mM) (a p n : Nat) (PR KD WD : Nat → Int32) : Prop := PSh μ a n ∧ PCo μ a p n PR KD WD ∧ (1 ≤ n ∧ n ≤ 24) ∧ PW PR p n ∧ WW WD p n ∧ KW KD p n
theorem PV_K {X : List Nat} {Y : List (Nat × Nat)} {μ ν : mM} {a p n : Nat} {PR KD WD : Nat → Int32} (h : PV μ a p n PR KD WD) (k : K X Y μ ν) (hX : ∀ j, j < 10 → j ≠ 0 → j ≠ 2 → a + j ∉ X) (hY : (a, 0) ∉ Y ∧ (a, 9) ∉ Y ∧ (a, 10) ∉ Y) : PV ν a p n PR KD WD := by
  obtain ⟨⟨s0, s1, s2, s3, s4, s5, s6, s7, s8, s9⟩, ⟨c0, c1, c2, c3, c4⟩, r⟩ := h
  refine ⟨⟨K_isO k s0, K_isA k s1, K_isA k s2, K_isA k s3, K_isA k s4, K_isA k s5, K_isA k s6, K_isA k s7, K_isA k s8, K_isA k s9⟩, ⟨?_, ?_, ?_, ?_, ?_⟩, r⟩
  · rw [K_FI k hY.1]; exact c0
  · rw [K_FI k hY.2.1]; exact c1
  · rw [K_FI k hY.2.2]; exact c2
  · rw [K_A k (hX 1 (by decide) (by decide) (by decide))]; exact c3
  · rw [K_A k (hX 3 (by decide) (by decide) (by decide)), K_A k (hX 4 (by decide) (by decide) (by decide)), K_A k (hX 5 (by decide) (by decide) (by decide)), K_A k (hX 6 (by decide) (by decide) (by decide)), K_A k (hX 7 (by decide) (by decide) (by decide)), K_A k (hX 8 (by decide) (by decide) (by decide)), K_A k (hX 9 (by decide) (by decide) (by decide))]
    exact c4
section pv
variable {μ : mM} {a p n b k : Nat} {PR KD WD : Nat → Int32}
theorem P_fsize (h : PV μ a p n PR KD WD) : m_gf μ a 3 0 = some (.int (FI μ a 0)) := gO (e := none) h.1.1 rfl
theorem P_fkinds (h : PV μ a p n PR KD WD) : m_gf μ a 3 1 = some (.ref (a + 3)) := gO (e := some (some (a + 3))) h.1.1 rfl
theorem P_fwords (h : PV μ a p n PR KD WD) : m_gf μ a 3 2 = some (.ref (a + 4)) := gO (e := some (some (a + 4))) h.1.1 rfl
theorem P_fparents (h : PV μ a p n PR KD WD) : m_gf μ a 3 3 = some (.ref (a + 5)) := gO (e := some (some (a + 5))) h.1.1 rfl
theorem P_fdepths (h : PV μ a p n PR KD WD) : m_gf μ a 3 4 = some (.ref (a + 6)) := gO (e := some (some (a + 6))) h.1.1 rfl
theorem P_finner (h : PV μ a p n PR KD WD) : m_gf μ a 3 5 = some (.ref (a + 7)) := gO (e := some (some (a + 7))) h.1.1 rfl
theorem P_fdeeper (h : PV μ a p n PR KD WD) : m_gf μ a 3 6 = some (.ref (a + 8)) := gO (e := some (some (a + 8))) h.1.1 rfl
theorem P_ffirstAlike (h : PV μ a p n PR KD WD) : m_gf μ a 3 7 = some (.ref (a + 9)) := gO (e := some (some (a + 9))) h.1.1 rfl
theorem P_fofKind (h : PV μ a p n PR KD WD) : m_gf μ a 3 8 = some (.ref (a + 1)) := gO (e := some (some (a + 1))) h.1.1 rfl
theorem P_fworded (h : PV μ a p n PR KD WD) : m_gf μ a 3 9 = some (.int (FI μ a 9)) := gO (e := none) h.1.1 rfl
theorem P_fholders (h : PV μ a p n PR KD WD) : m_gf μ a 3 10 = some (.int (FI μ a 10)) := gO (e := none) h.1.1 rfl
theorem P_fyes (h : PV μ a p n PR KD WD) : m_gf μ a 3 11 = some (.int (FI μ a 11)) := gO (e := none) h.1.1 rfl
theorem P_fno (h : PV μ a p n PR KD WD) : m_gf μ a 3 12 = some (.int (FI μ a 12)) := gO (e := none) h.1.1 rfl
theorem P_fisWhole (h : PV μ a p n PR KD WD) : m_gf μ a 3 13 = some (.int (FI μ a 13)) := gO (e := none) h.1.1 rfl
theorem P_fsentenceSets (h : PV μ a p n PR KD WD) : m_gf μ a 3 14 = some (.ref (a + 2)) := gO (e := some (some (a + 2))) h.1.1 rfl
theorem P_fsentencesDrawn (h : PV μ a p n PR KD WD) : m_gf μ a 3 15 = some (.int (FI μ a 15)) := gO (e := none) h.1.1 rfl
theorem P_size (h : PV μ a p n PR KD WD) : m_gf μ a 3 0 = some (.int (nI n)) := by rw [P_fsize h, h.2.1.1]
theorem P_worded (h : PV μ a p n PR KD WD) : m_gf μ a 3 9 = some (.int (mk (wordM WD p) n)) := by rw [P_fworded h, h.2.1.2.1]
theorem P_holders (h : PV μ a p n PR KD WD) : m_gf μ a 3 10 = some (.int (mk (rowsM PR p n) n)) := by rw [P_fholders h, h.2.1.2.2.1]
theorem P_oc (h : PV μ a p n PR KD WD) : m_oc μ a = some 3 := gO_oc h.1.1
theorem PV_n (h : PV μ a p n PR KD WD) : n ≤ 24 := h.2.2.1.2
theorem P_ofKind (h : PV μ a p n PR KD WD) (hk : k < 5) : m_ga μ (a + 1) (nI k) = some (okd KD p n k) := by rw [ga_A h.1.2.1 hk (by decide), h.2.1.2.2.2.1 k hk]
theorem P_kinds (h : PV μ a p n PR KD WD) (hb : b < n) : m_ga μ (a + 3) (nI b) = some (KD (24 * p + b)) := by rw [ga_A h.1.2.2.2.1 hb (by have := PV_n h; omega), (h.2.1.2.2.2.2 b hb).1]
theorem P_words (h : PV μ a p n PR KD WD) (hb : b < n) : m_ga μ (a + 4) (nI b) = some (WD (24 * p + b)) := by rw [ga_A h.1.2.2.2.2.1 hb (by have := PV_n h; omega), (h.2.1.2.2.2.2 b hb).2.1]
theorem P_parents (h : PV μ a p n PR KD WD) (hb : b < n) : m_ga μ (a + 5) (nI b) = some (PR (24 * p + b)) := by rw [ga_A h.1.2.2.2.2.2.1 hb (by have := PV_n h; omega), (h.2.1.2.2.2.2 b hb).2.2.1]
theorem P_depths (h : PV μ a p n PR KD WD) (hb : b < n) : m_ga μ (a + 6) (nI b) = some (nI (dph PR p 24 b)) := by rw [ga_A h.1.2.2.2.2.2.2.1 hb (by have := PV_n h; omega), (h.2.1.2.2.2.2 b hb).2.2.2.1]
theorem P_inner (h : PV μ a p n PR KD WD) (hb : b < n) : m_ga μ (a + 7) (nI b) = some (inn PR p n b) := by rw [ga_A h.1.2.2.2.2.2.2.2.1 hb (by have := PV_n h; omega), (h.2.1.2.2.2.2 b hb).2.2.2.2.1]
theorem P_deeper (h : PV μ a p n PR KD WD) (hb : b < n) : m_ga μ (a + 8) (nI b) = some (dpr PR p n b) := by rw [ga_A h.1.2.2.2.2.2.2.2.2.1 hb (by have := PV_n h; omega), (h.2.1.2.2.2.2 b hb).2.2.2.2.2.1]
theorem P_firstAlike (h : PV μ a p n PR KD WD) (hb : b < n) : m_ga μ (a + 9) (nI b) = some (nI (fal WD p b)) := by rw [ga_A h.1.2.2.2.2.2.2.2.2.2 hb (by have := PV_n h; omega), (h.2.1.2.2.2.2 b hb).2.2.2.2.2.2]
theorem P_sets (h : PV μ a p n PR KD WD) (hb : b < 3615) : m_ga μ (a + 2) (nI b) = some (A μ (a + 2) b) := ga_A h.1.2.2.1 hb (by decide)
theorem m1_nI {k : Nat} (hk : k < 2147483648) : ¬ ((-1 : Int32) = nI k) := fun q => by rw [← nI_ne1 hk]; exact q.symm
theorem up_lt (hw : PW PR p n) {c : Nat} (h0 : 0 < c) (hc : c < n) : up PR p c < c := (hw.2 c h0 hc).2
theorem par_iff (hw : PW PR p n) (hn : n ≤ 24) {c : Nat} (hc : c < n) (hb : b < 24) : (PR (24 * p + c) = nI b) ↔ (0 < c ∧ up PR p c = b) := by
  by_cases h0 : c = 0
  · subst h0
    rw [Nat.add_zero, hw.1]
    exact ⟨fun q => absurd q (m1_nI (by omega)), fun q => absurd q.1 (by decide)⟩
  · obtain ⟨h1, h2⟩ := hw.2 c (by omega) hc
    rw [h1, nI_eqE (by omega) (by omega)]
    exact ⟨fun q => ⟨by omega, q⟩, fun q => q.2⟩
theorem b_inn (hw : PW PR p n) (hn : n ≤ 24) (hb : b < 24) (i : Nat) : bt (inn PR p n b) i = true ↔ (i < n ∧ 0 < i ∧ up PR p i = b) := by
  unfold inn
  rw [b_mk _ (by omega), Bool.and_eq_true, decide_eq_true_eq, decide_eq_true_eq]
  exact ⟨fun ⟨h1, h2⟩ => ⟨h1, (par_iff hw hn h1 hb).mp h2⟩, fun ⟨h1, h2⟩ => ⟨h1, (par_iff hw hn h1 hb).mpr h2⟩⟩
theorem bt_sb (hb : b < 24) (u : Nat) : bt (sb b) u = true ↔ u = b := by rw [b_sb (by omega), decide_eq_true_eq]
/-- a step of the class, as the model numbers it -/
def asC (t : Nat) : Nat := if t < 9 then t else if t < 14 then t + 6 else if t = 14 then 20 else t - 6
theorem asC_asR {t : Nat} (ht : t < 15) : asC t = asR t := by
  unfold asC asR
  split
  · rfl
  · split
    · rfl
    · rw [if_pos (by omega)]
theorem asC_lt {t : Nat} (ht : t < 21) : asC t < 21 := by
  unfold asC
  split
  · omega
  · split
    · omega
    · split <;> omega
theorem l_kind (hw : PW PR p n) (hn : n ≤ 24) (hb : b < 24) {t : Nat} (ht : t < 5) : inn PR p n b &&& okd KD p n t = mk (ledP PR KD p (sb b) t) n := by
  refine b_ext' fun i hi => ?_
  rw [b_and, Bool.and_eq_true, b_inn hw hn hb, b_mk _ (by omega), Bool.and_eq_true, decide_eq_true_eq]
  unfold okd ledP
  rw [b_mk _ (by omega), if_pos ht, Bool.and_eq_true, Bool.and_eq_true, Bool.and_eq_true, decide_eq_true_eq, decide_eq_true_eq, decide_eq_true_eq, bt_sb hb]
  exact ⟨fun ⟨⟨h1, h2, h3⟩, _, h4⟩ => ⟨h1, h2, h3, h4⟩, fun ⟨h1, h2, h3, h4⟩ => ⟨⟨h1, h2, h3⟩, h1, h4⟩⟩
theorem l_deep (hn : n ≤ 24) {t : Nat} (ht : 15 ≤ t) (ht2 : t < 20) : dpr PR p n b &&& okd KD p n (t - 15) = mk (ledP PR KD p (sb b) t) n := by
  refine b_ext' fun i hi => ?_
  rw [b_and, Bool.and_eq_true, b_mk _ (by omega), Bool.and_eq_true, decide_eq_true_eq]
  unfold okd dpr ledP
  rw [b_mk _ (by omega), b_mk _ (by omega), if_neg (by omega), if_neg (by omega), if_pos ht2]
  simp only [Bool.and_eq_true, decide_eq_true_eq]
  exact ⟨fun ⟨⟨h1, h2, h3⟩, _, h4⟩ => ⟨h1, h2, h3, h4⟩, fun ⟨h1, h2, h3, h4⟩ => ⟨⟨h1, h2, h3⟩, h1, h4⟩⟩
theorem bool_ext {x y : Bool} (h : x = true ↔ y = true) : x = y := by cases x <;> cases y <;> simp_all
theorem l_nth (hw : PW PR p n) (hn : n ≤ 24) (hb : b < 24) {t : Nat} (ht : 5 ≤ t) (ht2 : t < 15) : rst (inn PR p n b) (t - 5) &&& -(rst (inn PR p n b) (t - 5)) = mk (ledP PR KD p (sb b) t) n := by
  refine b_ext' fun i hi => ?_
  rw [b_kth _ _ hi, Bool.and_eq_true, decide_eq_true_eq, b_inn hw hn hb, b_mk _ (by omega), Bool.and_eq_true, decide_eq_true_eq]
  unfold ledP
  rw [if_neg (by omega), if_pos ht2, Bool.and_eq_true, Bool.and_eq_true, decide_eq_true_eq, decide_eq_true_eq, bt_sb hb]
  have key : ∀ (_ : i < n) (_ : 0 < i) (_ : up PR p i = b), cnt (bt (inn PR p n b)) i = cnt (sib PR p i) i := by
    intro h1 h2 h3
    refine cnt_congr fun d hd => bool_ext ?_
    rw [b_inn hw hn hb]
    unfold sib
    rw [decide_eq_true_eq, (par_iff hw hn h1 hb).mpr ⟨h2, h3⟩, par_iff hw hn (by omega) hb]
    exact ⟨fun q => q.2, fun q => ⟨by omega, q⟩⟩
  constructor
  · rintro ⟨⟨h1, h2, h3⟩, h4⟩
    exact ⟨h1, h2, h3, by rw [← key h1 h2 h3]; exact h4⟩
  · rintro ⟨h1, h2, h3, h4⟩
    exact ⟨⟨h1, h2, h3⟩, by rw [key h1 h2 h3]; exact h4⟩
theorem lst_iff (P : Nat → Bool) {m k : Nat} (hm : m < 2147483648) (hk : k < 2147483648) : lst P m = nI k ↔ (k < m ∧ P k = true ∧ ∀ j, k < j → j < m → P j = false) := by
  induction m with
  | zero => exact ⟨fun q => absurd q (m1_nI hk), fun q => absurd q.1 (by omega)⟩
  | succ m ih =>
    rw [lst]
    by_cases hP : P m = true
    · rw [if_pos hP, nI_eqE (by omega) hk]
      constructor
      · intro q; subst q; exact ⟨by omega, hP, fun j h1 h2 => by omega⟩
      · rintro ⟨h1, h2, h3⟩
        rcases Nat.lt_or_ge k m with q | q
        · have := h3 m q (by omega); rw [hP] at this; cases this
        · omega
    · rw [if_neg hP, ih (by omega)]
      constructor
      · rintro ⟨h1, h2, h3⟩
        refine ⟨by omega, h2, fun j j1 j2 => ?_⟩
        by_cases q : j = m
        · subst q; simpa using hP
        · exact h3 j j1 (by omega)
      · rintro ⟨h1, h2, h3⟩
        refine ⟨?_, h2, fun j j1 j2 => h3 j j1 (by omega)⟩
        by_cases q : k = m
        · subst q; exact absurd h2 hP
        · omega
theorem l_next0 (hw : PW PR p n) (hn : n ≤ 24) (h1 : 1 ≤ n) : (0 : Int32) = mk (ledP PR KD p (sb 0) 20) n := by
  refine b_ext' fun i hi => ?_
  rw [b_0, b_mk _ (by omega), Bool.and_eq_true, decide_eq_true_eq]
  unfold ledP
  rw [if_neg (by omega), if_neg (by omega), if_neg (by omega)]
  simp only [Bool.and_eq_true, decide_eq_true_eq]
  refine ⟨fun q => (by cases q), fun ⟨hi1, hi2, hi3, hi4⟩ => ?_⟩
  exfalso
  rcases lst_or (sib PR p i) i with q | ⟨k, k1, k2, k3⟩
  · exact hi3 q
  · rw [k2, nI_clamp (by omega), bt_sb (by decide)] at hi4
    subst hi4
    unfold sib at k3
    rw [decide_eq_true_eq, Nat.add_zero, hw.1, (hw.2 i hi2 hi1).1] at k3
    have := up_lt hw hi2 hi1
    exact m1_nI (by omega) k3
theorem l_next (hw : PW PR p n) (hn : n ≤ 24) (hb : b < n) (h0 : 0 < b) : (inn PR p n (up PR p b) &&& ((-2 : Int32) <<< (nI b &&& 31))) &&& -(inn PR p n (up PR p b) &&& ((-2 : Int32) <<< (nI b &&& 31))) = mk (ledP PR KD p (sb b) 20) n := by
  refine b_ext' fun i hi => ?_
  have hu := up_lt hw h0 hb
  have hS : ∀ j, j < 32 → (bt (inn PR p n (up PR p b) &&& ((-2 : Int32) <<< (nI b &&& 31))) j = true ↔ (j < n ∧ 0 < j ∧ up PR p j = up PR p b ∧ b < j)) := by
    intro j hj
    rw [b_and, Bool.and_eq_true, b_inn hw hn (by omega), b_m2 b (by omega) hj, decide_eq_true_eq]
    exact ⟨fun ⟨⟨h1, h2, h3⟩, h4⟩ => ⟨h1, h2, h3, h4⟩, fun ⟨h1, h2, h3, h4⟩ => ⟨⟨h1, h2, h3⟩, h4⟩⟩
  rw [b_least _ hi, Bool.and_eq_true, hS i hi, b_mk _ (by omega), Bool.and_eq_true, decide_eq_true_eq]
  unfold ledP
  rw [if_neg (by omega), if_neg (by omega), if_neg (by omega)]
  simp only [Bool.and_eq_true, decide_eq_true_eq, Bool.not_eq_true']
  have hsib : ∀ j, j < n → 0 < i → i < n → (sib PR p i j = true ↔ (0 < j ∧ up PR p j = up PR p i)) := by
    intro j hj hi1 hi2
    have := up_lt hw hi1 hi2
    unfold sib
    rw [decide_eq_true_eq, (hw.2 i hi1 hi2).1, par_iff hw hn hj (by omega)]
  constructor
  · rintro ⟨⟨h1, h2, h3, h4⟩, h5⟩
    have e : lst (sib PR p i) i = nI b := by
      rw [lst_iff _ (by omega) (by omega)]
      refine ⟨h4, (hsib b hb h2 h1).mpr ⟨h0, h3.symm⟩, fun j j1 j2 => ?_⟩
      cases q : sib PR p i j with
      | false => rfl
      | true =>
        exfalso
        have q2 := (hsib j (by omega) h2 h1).mp q
        have : anyB (inn PR p n (up PR p b) &&& ((-2 : Int32) <<< (nI b &&& 31))) i = true := (anyB_iff _ _).mpr ⟨j, j2, (hS j (by omega)).mpr ⟨by omega, q2.1, by rw [q2.2, h3], j1⟩⟩
        rw [h5] at this; cases this
    refine ⟨h1, h2, ?_, ?_⟩
    · rw [e, nI_ne1 (by omega)]; exact fun z => z
    · rw [e, nI_clamp (by omega), bt_sb (by omega)]
  · rintro ⟨h1, h2, h3, h4⟩
    rcases lst_or (sib PR p i) i with q | ⟨k, k1, k2, k3⟩
    · exact absurd q h3
    · rw [k2, nI_clamp (by omega), bt_sb (by omega)] at h4
      subst h4
      obtain ⟨g1, g2, g3⟩ := (lst_iff _ (by omega) (by omega)).mp k2
      have g4 := (hsib k hb h2 h1).mp k3
      refine ⟨⟨h1, h2, g4.2.symm, k1⟩, ?_⟩
      cases q : anyB (inn PR p n (up PR p k) &&& ((-2 : Int32) <<< (nI k &&& 31))) i with
      | false => rfl
      | true =>
        obtain ⟨j, j1, j2⟩ := (anyB_iff _ _).mp q
        obtain ⟨q1, q2, q3, q4⟩ := (hS j (by omega)).mp j2
        have := g3 j q4 j1
        rw [(hsib j q1 h2 h1).mpr ⟨q2, by rw [q3, g4.2]⟩] at this
        cases this
end pv
