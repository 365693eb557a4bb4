/-! more of bits: the least of a set, all but the least, shifts of -2, how many -/
theorem b_neg (x : Int32) (i : Nat) (hi : i < 32) : bt (-x) i = (bt x i ^^ decide (∃ j, j < i ∧ bt x j = true)) := by
  unfold bt
  rw [Int32.toBitVec_neg, BitVec.getLsbD_neg]
  simp [hi]
def anyB (s : Int32) : Nat → Bool
  | 0 => false
  | n + 1 => anyB s n || bt s n
theorem anyB_iff (s : Int32) (n : Nat) : anyB s n = true ↔ ∃ j, j < n ∧ bt s j = true := by
  induction n with
  | zero => simp [anyB]
  | succ n ih =>
    rw [anyB, Bool.or_eq_true, ih]
    constructor
    · rintro (⟨j, h1, h2⟩ | h)
      · exact ⟨j, by omega, h2⟩
      · exact ⟨n, by omega, h⟩
    · rintro ⟨j, h1, h2⟩
      by_cases q : j = n
      · subst q; exact Or.inr h2
      · exact Or.inl ⟨j, by omega, h2⟩
theorem b_neg' (x : Int32) {i : Nat} (hi : i < 32) : bt (-x) i = (bt x i ^^ anyB x i) := by
  rw [b_neg x i hi]
  congr 1
  cases h : anyB x i with
  | true => exact decide_eq_true ((anyB_iff x i).mp h)
  | false => exact decide_eq_false (fun q => by rw [(anyB_iff x i).mpr q] at h; cases h)
theorem b_not (x : Int32) {i : Nat} (hi : i < 32) : bt (~~~x) i = !(bt x i) := by
  unfold bt
  rw [Int32.toBitVec_not, BitVec.getLsbD_not]
  simp [hi]
theorem b_pred (x : Int32) {i : Nat} (hi : i < 32) : bt (x - 1) i = !(bt x i ^^ anyB x i) := by
  have e : x - 1 = ~~~(-x) := by rw [Int32.not_eq_neg_sub]; simp
  rw [e, b_not _ hi, b_neg' _ hi]
theorem b_least (x : Int32) {i : Nat} (hi : i < 32) : bt (x &&& -x) i = (bt x i && !(anyB x i)) := by
  rw [b_and, b_neg' _ hi]
  cases bt x i <;> simp
theorem b_rest (x : Int32) {i : Nat} (hi : i < 32) : bt (x &&& (x - 1)) i = (bt x i && anyB x i) := by
  rw [b_and, b_pred _ hi]
  cases bt x i <;> simp
theorem b_m2 (k : Nat) (hk : k < 32) {i : Nat} (hi : i < 32) : bt ((-2 : Int32) <<< (nI k &&& 31)) i = decide (k < i) := by
  rw [b_shl k hk _ hi]
  have h2 : ∀ j, j < 32 → bt (-2) j = decide (0 < j) := by decide +kernel
  by_cases q : k ≤ i
  · rw [decide_eq_true q, Bool.true_and, h2 _ (by omega)]
    congr 1
    exact propext ⟨fun z => by omega, fun z => by omega⟩
  · rw [decide_eq_false q, Bool.false_and, decide_eq_false (by omega)]
theorem anyB_cnt (s : Int32) (n : Nat) : anyB s n = decide (0 < cnt (bt s) n) := by
  induction n with
  | zero => rfl
  | succ n ih =>
    rw [anyB, cnt, ih]
    cases h : bt s n <;> simp
/-- a set without its first k -/
def rst (s : Int32) : Nat → Int32
  | 0 => s
  | k + 1 => rst s k &&& (rst s k - 1)
theorem cnt_lt_mono (P : Nat → Bool) {a b : Nat} (h : a ≤ b) : cnt P a ≤ cnt P b := by
  induction b with
  | zero => rw [Nat.le_zero.mp h]; exact Nat.le_refl _
  | succ b ih =>
    rcases Nat.lt_or_ge a (b + 1) with q | q
    · rw [cnt]; have := ih (by omega); omega
    · rw [Nat.le_antisymm h q]; exact Nat.le_refl _
theorem b_rst (s : Int32) (k : Nat) {i : Nat} (hi : i < 32) : bt (rst s k) i = (bt s i && decide (k ≤ cnt (bt s) i)) := by
  induction k generalizing i with
  | zero => rw [rst]; simp
  | succ k ih =>
    rw [rst, b_rest _ hi, ih hi]
    cases hb : bt s i with
    | false => simp
    | true =>
      rw [Bool.true_and, Bool.true_and]
      cases ha : anyB (rst s k) i with
      | true =>
        obtain ⟨j, h1, h2⟩ := (anyB_iff _ _).mp ha
        rw [ih (by omega), Bool.and_eq_true, decide_eq_true_eq] at h2
        have e : cnt (bt s) (j + 1) = cnt (bt s) j + 1 := by rw [cnt, if_pos h2.1]
        have e2 : cnt (bt s) (j + 1) ≤ cnt (bt s) i := cnt_lt_mono _ (by omega)
        rw [Bool.and_true, decide_eq_true (by omega), decide_eq_true (by omega)]
      | false =>
        rw [Bool.and_false, decide_eq_false]
        intro hk
        have no : ∀ j, j ≤ i → cnt (bt s) j ≤ k := by
          intro j
          induction j with
          | zero => intro _; exact Nat.zero_le _
          | succ j ihj =>
            intro hj
            have h1 := ihj (by omega)
            rw [cnt]
            by_cases q : bt s j = true
            · rw [if_pos q]
              rcases Nat.lt_or_ge (cnt (bt s) j) k with r | r
              · omega
              · exfalso
                have : anyB (rst s k) i = true := (anyB_iff _ _).mpr ⟨j, by omega, by rw [ih (by omega), q, decide_eq_true r]; rfl⟩
                rw [ha] at this; cases this
            · rw [if_neg q]; omega
        have := no i (Nat.le_refl i)
        omega
/-- the k-th of a set -/
theorem b_kth (s : Int32) (k : Nat) {i : Nat} (hi : i < 32) : bt (rst s k &&& -(rst s k)) i = (bt s i && decide (cnt (bt s) i = k)) := by
  have e : bt (rst s k &&& -(rst s k)) i = (bt (rst s k) i && !(bt (rst s (k + 1)) i)) := by
    rw [b_least _ hi, rst, b_rest _ hi]
    cases bt (rst s k) i <;> simp
  rw [e, b_rst _ _ hi, b_rst _ _ hi]
  cases bt s i with
  | false => rfl
  | true =>
    rw [Bool.true_and, Bool.true_and, Bool.true_and]
    by_cases q : cnt (bt s) i = k
    · rw [decide_eq_true q, decide_eq_true (by omega), decide_eq_false (by omega)]; rfl
    · rw [decide_eq_false q]
      rcases Nat.lt_or_ge (cnt (bt s) i) k with r | r
      · rw [decide_eq_false (by omega)]; rfl
      · rw [decide_eq_true (by omega), decide_eq_true (by omega)]; rfl
/-! Integer.bitCount -/
theorem and_split (a b x y : Nat) (ha : a < 256) (hx : x < 256) : (a + 256 * b) &&& (x + 256 * y) = (a &&& x) + 256 * (b &&& y) := by
  have h1 : ((a + 256 * b) &&& (x + 256 * y)) % 2 ^ 8 = (a &&& x) := by
    rw [Nat.and_mod_two_pow]
    congr 1 <;> omega
  have h2 : ((a + 256 * b) &&& (x + 256 * y)) / 2 ^ 8 = (b &&& y) := by
    rw [Nat.and_div_two_pow]
    congr 1 <;> omega
  have := Nat.mod_add_div ((a + 256 * b) &&& (x + 256 * y)) (2 ^ 8)
  rw [h1, h2] at this
  omega
def pc8 (v : Nat) : Nat := (v % 2) + (v / 2 % 2) + (v / 4 % 2) + (v / 8 % 2) + (v / 16 % 2) + (v / 32 % 2) + (v / 64 % 2) + (v / 128 % 2)
def q1 (v : Nat) : Nat := v - ((v / 2) &&& 85)
def q2 (v : Nat) : Nat := (v &&& 51) + ((v / 4) &&& 51)
def q3 (v : Nat) : Nat := (v + v / 16) &&& 15
theorem q123 : ∀ v, v < 256 → q3 (q2 (q1 v)) = pc8 v ∧ q1 v < 256 ∧ q2 (q1 v) ≤ 68 ∧ q2 (q1 v) % 16 ≤ 4 ∧ ((v / 2) &&& 85) ≤ v := by decide +kernel
theorem q1c : ∀ v, v < 256 → ∀ e, e < 2 → ((v / 2 + 128 * e) &&& 85) = ((v / 2) &&& 85) := by decide +kernel
theorem q2c : ∀ v, v < 256 → ∀ e, e < 4 → ((v / 4 + 64 * e) &&& 51) = ((v / 4) &&& 51) := by decide +kernel
theorem q3c : ∀ v, v < 69 → ∀ e, e < 5 → ((v + v / 16 + 16 * e) &&& 15) = ((v + v / 16) &&& 15) := by decide +kernel
theorem s1 (v r M : Nat) (hv : v < 256) : (v + 256 * r) - (((v + 256 * r) / 2) &&& (85 + 256 * M)) = q1 v + 256 * (r - ((r / 2) &&& M)) := by
  have e : (v + 256 * r) / 2 = (v / 2 + 128 * (r % 2)) + 256 * (r / 2) := by omega
  have h1 := (q123 v hv).2.2.2.2
  have h2 : (r / 2 &&& M) ≤ r / 2 := Nat.and_le_left
  rw [e, and_split _ _ _ _ (by omega) (by decide), q1c v hv _ (by omega)]
  unfold q1
  omega
theorem s2 (v r M : Nat) (hv : v < 256) : ((v + 256 * r) &&& (51 + 256 * M)) + (((v + 256 * r) / 4) &&& (51 + 256 * M)) = q2 v + 256 * ((r &&& M) + ((r / 4) &&& M)) := by
  have e : (v + 256 * r) / 4 = (v / 4 + 64 * (r % 4)) + 256 * (r / 4) := by omega
  rw [e, and_split _ _ _ _ hv (by decide), and_split _ _ _ _ (by omega) (by decide), q2c v hv _ (by omega)]
  unfold q2
  omega
theorem s3 (v r M : Nat) (hv : v < 69) (hr : r % 16 < 5) : ((v + 256 * r) + (v + 256 * r) / 16) &&& (15 + 256 * M) = q3 v + 256 * ((r + r / 16) &&& M) := by
  have e : (v + 256 * r) + (v + 256 * r) / 16 = (v + v / 16 + 16 * (r % 16)) + 256 * (r + r / 16) := by omega
  rw [e, and_split _ _ _ _ (by omega) (by decide), q3c v hv _ hr]
  rfl
theorem pcN (a b c d : Nat) (ha : a < 256) (hb : b < 256) (hc : c < 256) (hd : d < 256) : ∃ x1 x2 x3 : Nat, x1 = (a + 256 * (b + 256 * (c + 256 * d))) - (((a + 256 * (b + 256 * (c + 256 * d))) / 2) &&& 1431655765) ∧ x2 = (x1 &&& 858993459) + ((x1 / 4) &&& 858993459) ∧ x3 = (x2 + x2 / 16) &&& 252645135 ∧ x3 = pc8 a + 256 * (pc8 b + 256 * (pc8 c + 256 * pc8 d)) ∧ x2 < 4294967296 ∧ x1 < 4294967296 ∧ x2 + x2 / 16 < 4294967296 := by
  obtain ⟨A1, A2, A3, A4, _⟩ := q123 a ha
  obtain ⟨B1, B2, B3, B4, _⟩ := q123 b hb
  obtain ⟨C1, C2, C3, C4, _⟩ := q123 c hc
  obtain ⟨D1, D2, D3, D4, D5⟩ := q123 d hd
  refine ⟨_, _, _, rfl, rfl, rfl, ?_⟩
  have e1 : (a + 256 * (b + 256 * (c + 256 * d))) - (((a + 256 * (b + 256 * (c + 256 * d))) / 2) &&& 1431655765) = q1 a + 256 * (q1 b + 256 * (q1 c + 256 * q1 d)) := by
    rw [show (1431655765 : Nat) = 85 + 256 * (85 + 256 * (85 + 256 * 85)) by decide, s1 _ _ _ ha, s1 _ _ _ hb, s1 _ _ _ hc]
    rfl
  rw [e1]
  have e2 : ((q1 a + 256 * (q1 b + 256 * (q1 c + 256 * q1 d))) &&& 858993459) + (((q1 a + 256 * (q1 b + 256 * (q1 c + 256 * q1 d))) / 4) &&& 858993459) = q2 (q1 a) + 256 * (q2 (q1 b) + 256 * (q2 (q1 c) + 256 * q2 (q1 d))) := by
    rw [show (858993459 : Nat) = 51 + 256 * (51 + 256 * (51 + 256 * 51)) by decide, s2 _ _ _ A2, s2 _ _ _ B2, s2 _ _ _ C2]
    rfl
  rw [e2]
  have e3 : ((q2 (q1 a) + 256 * (q2 (q1 b) + 256 * (q2 (q1 c) + 256 * q2 (q1 d)))) + (q2 (q1 a) + 256 * (q2 (q1 b) + 256 * (q2 (q1 c) + 256 * q2 (q1 d)))) / 16) &&& 252645135 = pc8 a + 256 * (pc8 b + 256 * (pc8 c + 256 * pc8 d)) := by
    rw [show (252645135 : Nat) = 15 + 256 * (15 + 256 * (15 + 256 * 15)) by decide, s3 _ _ _ (by omega) (by omega), s3 _ _ _ (by omega) (by omega), s3 _ _ _ (by omega) (by omega), A1, B1, C1]
    rw [← D1]
    rfl
  exact ⟨e3, by omega, by omega, by omega⟩
