/-! numbers, bits, loops -/
theorem nN (n : Nat) : Int32.ofNat n = nI n := rfl
theorem nI_add1 (n : Nat) : nI n + 1 = nI (n + 1) := (nI_succ n).symm
theorem nI_ltE {a b : Nat} (ha : a < 2147483648) (hb : b < 2147483648) : (nI a < nI b) = (a < b) := by
  rw [Int32.lt_iff_toInt_lt, nI_toInt ha, nI_toInt hb]; simp
theorem nI_leE {a b : Nat} (ha : a < 2147483648) (hb : b < 2147483648) : (nI a ≤ nI b) = (a ≤ b) := by
  rw [Int32.le_iff_toInt_le, nI_toInt ha, nI_toInt hb]; simp
theorem nI_eqE {a b : Nat} (ha : a < 2147483648) (hb : b < 2147483648) : (nI a = nI b) = (a = b) := by
  refine propext ⟨fun h => ?_, fun h => by rw [h]⟩
  have := congrArg Int32.toInt h
  rw [nI_toInt ha, nI_toInt hb] at this
  omega
def bI (b : Bool) : Int32 := if b = true then 1 else 0
theorem bI_0 (b : Bool) : (bI b = 0) = (b = false) := by cases b <;> simp [bI]
theorem bI_1 (b : Bool) : (bI b = 1) = (b = true) := by cases b <;> simp [bI]
theorem bI_and (b : Bool) : bI b &&& 1 = bI b := by cases b <;> decide
theorem bI_t : bI true = 1 := rfl
theorem bI_f : bI false = 0 := rfl
theorem and_11 : (1 : Int32) &&& 1 = 1 := by decide
theorem and_01 : (0 : Int32) &&& 1 = 0 := by decide
theorem ite_G {p : Prop} [Decidable p] {m pc : Nat} {L st : List Value} {μ : mM} {x y : Int32} : (if p then m_G m pc L (.int x :: st) μ else m_G m pc L (.int y :: st) μ) = m_G m pc L (.int (if p then x else y) :: st) μ := by split <;> rfl
theorem ite_S {p : Prop} [Decidable p] {μ : mM} {x y : Int32} : (if p then some (some (Value.int x), μ) else some (some (Value.int y), μ)) = some (some (Value.int (if p then x else y)), μ) := by split <;> rfl
-- the family 'bt' is pasted out of the kit's rows on bits
/-! ===== Int32 by its bits: bt x i ===== -/
def bt (x : Int32) (i : Nat) : Bool := x.toBitVec.getLsbD i
theorem b_ext {x y : Int32} (h : ∀ i, i < 32 → bt x i = bt y i) : x = y := Int32.toBitVec_inj.mp (BitVec.eq_of_getLsbD_eq (fun i hi => h i hi))
theorem b_or (x y : Int32) (i : Nat) : bt (x ||| y) i = (bt x i || bt y i) := by unfold bt; rw [Int32.toBitVec_or, BitVec.getLsbD_or]
theorem b_and (x y : Int32) (i : Nat) : bt (x &&& y) i = (bt x i && bt y i) := by unfold bt; rw [Int32.toBitVec_and, BitVec.getLsbD_and]
theorem b_xor (x y : Int32) (i : Nat) : bt (x ^^^ y) i = (bt x i ^^ bt y i) := by unfold bt; rw [Int32.toBitVec_xor, BitVec.getLsbD_xor]
theorem b_big {x : Int32} {i : Nat} (h : 32 ≤ i) : bt x i = false := BitVec.getLsbD_of_ge _ _ h
theorem b_255 (i : Nat) : bt 255 i = decide (i < 8) := by
  rcases Nat.lt_or_ge i 32 with h | h
  · exact (by decide +kernel : ∀ i, i < 32 → bt 255 i = decide (i < 8)) i h
  · rw [b_big h, decide_eq_false (by omega)]
theorem b_65535 (i : Nat) : bt 65535 i = decide (i < 16) := by
  rcases Nat.lt_or_ge i 32 with h | h
  · exact (by decide +kernel : ∀ i, i < 32 → bt 65535 i = decide (i < 16)) i h
  · rw [b_big h, decide_eq_false (by omega)]
theorem b_m1 : ∀ i, i < 32 → bt (-1) i = true := by decide +kernel
theorem b_0 (i : Nat) : bt 0 i = false := BitVec.getLsbD_zero
theorem s_l : ∀ n, n < 32 → ((nI n &&& 31).toBitVec.smod 32).toNat = n := by decide +kernel
theorem s_u : ∀ n, n < 32 → (((nI n).toUInt32 &&& Int32.toUInt32 31).toBitVec % 32).toNat = n := by decide +kernel
theorem b_shl (n : Nat) (hn : n < 32) (x : Int32) {i : Nat} (hi : i < 32) : bt (x <<< (nI n &&& 31)) i = (decide (n ≤ i) && bt x (i - n)) := by
  unfold bt
  rw [Int32.toBitVec_shiftLeft]
  show (x.toBitVec <<< ((nI n &&& 31).toBitVec.smod 32).toNat).getLsbD i = _
  rw [s_l n hn, BitVec.getLsbD_shiftLeft]
  rcases Nat.lt_or_ge i n with h | h
  · simp [h, Nat.not_le.mpr h]
  · simp [hi, h, Nat.not_lt.mpr h]
theorem b_ushr (n : Nat) (hn : n < 32) (x : Int32) (i : Nat) : bt ((x.toUInt32 >>> ((nI n).toUInt32 &&& Int32.toUInt32 31)).toInt32) i = bt x (n + i) := by
  show (x.toUInt32 >>> ((nI n).toUInt32 &&& Int32.toUInt32 31)).toBitVec.getLsbD i = x.toUInt32.toBitVec.getLsbD (n + i)
  rw [UInt32.toBitVec_shiftRight]
  show (x.toUInt32.toBitVec >>> (((nI n).toUInt32 &&& Int32.toUInt32 31).toBitVec % 32).toNat).getLsbD i = _
  rw [s_u n hn, BitVec.getLsbD_ushiftRight]
theorem b_sshr (n : Nat) (hn : n < 32) (x : Int32) {i : Nat} (hi : i < 32) : bt (x >>> (nI n &&& 31)) i = if n + i < 32 then bt x (n + i) else bt x 31 := by
  unfold bt
  rw [Int32.toBitVec_shiftRight]
  show (x.toBitVec.sshiftRight ((nI n &&& 31).toBitVec.smod 32).toNat).getLsbD i = _
  rw [s_l n hn, BitVec.getLsbD_sshiftRight, BitVec.msb_eq_getLsbD_last]
  simp [hi]
theorem b_shl8 (x : Int32) {i : Nat} (hi : i < 32) : bt (x <<< ((8 : Int32) &&& 31)) i = (decide (8 ≤ i) && bt x (i - 8)) := b_shl 8 (by omega) x hi
theorem b_shl16 (x : Int32) {i : Nat} (hi : i < 32) : bt (x <<< ((16 : Int32) &&& 31)) i = (decide (16 ≤ i) && bt x (i - 16)) := b_shl 16 (by omega) x hi
theorem b_shl24 (x : Int32) {i : Nat} (hi : i < 32) : bt (x <<< ((24 : Int32) &&& 31)) i = (decide (24 ≤ i) && bt x (i - 24)) := b_shl 24 (by omega) x hi
theorem b_sshr8 (x : Int32) {i : Nat} (hi : i < 32) : bt (x >>> ((8 : Int32) &&& 31)) i = if 8 + i < 32 then bt x (8 + i) else bt x 31 := b_sshr 8 (by omega) x hi
theorem b_1 (i : Nat) : bt 1 i = decide (i = 0) := by
  rcases Nat.lt_or_ge i 32 with h | h
  · exact (by decide +kernel : ∀ i, i < 32 → bt 1 i = decide (i = 0)) i h
  · rw [b_big h, decide_eq_false (by omega)]
theorem b_bI (b : Bool) (i : Nat) : bt (bI b) i = (b && decide (i = 0)) := by
  cases b
  · exact b_0 i
  · exact b_1 i
theorem shr1 {s : Int32} {k : Nat} (hk : k < 32) : (s >>> (nI k &&& 31)) &&& 1 = bI (bt s k) := by
  refine b_ext fun i hi => ?_
  rw [b_and, b_sshr k hk s hi, b_1, b_bI]
  by_cases h : i = 0
  · subst h; simp [hk]
  · simp [h]
/-- the set of one box -/
def sb (k : Nat) : Int32 := 1 <<< (nI k &&& 31)
theorem sb_def (k : Nat) : (1 : Int32) <<< (nI k &&& 31) = sb k := rfl
theorem b_sb {k : Nat} (hk : k < 32) (i : Nat) : bt (sb k) i = decide (i = k) := by
  rcases Nat.lt_or_ge i 32 with h | h
  · unfold sb
    rw [b_shl k hk 1 h, b_1]
    by_cases q : i = k
    · subst q; simp
    · rcases Nat.lt_or_ge i k with r | r
      · simp [q, show ¬ k ≤ i by omega]
      · simp [q, show ¬ i - k = 0 by omega]
  · rw [b_big h, decide_eq_false (by omega)]
/-- the set of the boxes below n of a kind -/
def mk (P : Nat → Bool) : Nat → Int32
  | 0 => 0
  | n + 1 => mk P n ||| (if P n = true then sb n else 0)
theorem b_mk (P : Nat → Bool) {n : Nat} (hn : n ≤ 32) (i : Nat) : bt (mk P n) i = (decide (i < n) && P i) := by
  induction n with
  | zero => rw [mk, b_0]; simp
  | succ n ih =>
    rw [mk, b_or, ih (by omega)]
    by_cases h : P n = true
    · rw [if_pos h, b_sb (by omega)]
      by_cases q : i = n
      · subst q; simp [h]
      · rcases Nat.lt_or_ge i n with r | r
        · simp [q, r, show i < n + 1 by omega]
        · simp [q, show ¬ i < n by omega, show ¬ i < n + 1 by omega]
    · rw [if_neg h, b_0]
      by_cases q : i = n
      · subst q; simp [h]
      · rcases Nat.lt_or_ge i n with r | r
        · simp [r, show i < n + 1 by omega]
        · simp [show ¬ i < n by omega, show ¬ i < n + 1 by omega]
theorem mk_congr {P Q : Nat → Bool} {n : Nat} (h : ∀ i, i < n → P i = Q i) : mk P n = mk Q n := by
  induction n with
  | zero => rfl
  | succ n ih => rw [mk, mk, ih (fun i hi => h i (by omega)), h n (by omega)]
/-- how many below n -/
def cnt (P : Nat → Bool) : Nat → Nat
  | 0 => 0
  | n + 1 => cnt P n + (if P n = true then 1 else 0)
theorem cnt_le (P : Nat → Bool) (n : Nat) : cnt P n ≤ n := by
  induction n with
  | zero => exact Nat.le_refl 0
  | succ n ih => rw [cnt]; split <;> omega
theorem cnt_congr {P Q : Nat → Bool} {n : Nat} (h : ∀ i, i < n → P i = Q i) : cnt P n = cnt Q n := by
  induction n with
  | zero => rfl
  | succ n ih => rw [cnt, cnt, ih (fun i hi => h i (by omega)), h n (by omega)]
theorem nI_plus (a b : Nat) : nI a + nI b = nI (a + b) := by
  induction b with
  | zero => rw [nI_0]; simp
  | succ b ih => rw [nI_succ, ← Int32.add_assoc, ih, ← nI_succ]; rfl
theorem nI_times (a b : Nat) : nI a * nI b = nI (a * b) := by
  induction b with
  | zero => rw [nI_0]; simp [nI_0]
  | succ b ih => rw [nI_succ, Int32.mul_add, ih, Int32.mul_one, nI_plus, Nat.mul_succ]
theorem nI_minus {a b : Nat} (h : b ≤ a) : nI a - nI b = nI (a - b) := by
  have e : nI a = nI (a - b) + nI b := by rw [nI_plus]; congr 1; omega
  rw [e, Int32.add_sub_cancel]
theorem k24 (p b : Nat) : 24 * nI p + nI b = nI (24 * p + b) := by rw [show (24 : Int32) = nI 24 from rfl, nI_times, nI_plus]
theorem k25 (p b : Nat) : 25 * nI p + nI b = nI (25 * p + b) := by rw [show (25 : Int32) = nI 25 from rfl, nI_times, nI_plus]
theorem k6 (p b : Nat) : 6 * nI p + nI b = nI (6 * p + b) := by rw [show (6 : Int32) = nI 6 from rfl, nI_times, nI_plus]
theorem k8 (p b : Nat) : 8 * nI p + nI b = nI (8 * p + b) := by rw [show (8 : Int32) = nI 8 from rfl, nI_times, nI_plus]
theorem nI_m1 (n : Nat) : nI (n + 1) - 1 = nI n := nI_pred n
theorem n0 : (0 : Int32) = nI 0 := rfl
theorem n1 : (1 : Int32) = nI 1 := rfl
theorem nI_b (b : Bool) : bI b = nI (if b = true then 1 else 0) := by cases b <;> rfl
/-- a number that names one of n -/
def inR (x : Int32) (n : Nat) : Bool := decide (0 ≤ x.toInt ∧ x.toInt < n)
theorem inR_nI {x : Int32} {n : Nat} (h : inR x n = true) : ∃ k, k < n ∧ x = nI k := by
  unfold inR at h
  rw [decide_eq_true_eq] at h
  refine ⟨x.toInt.toNat, by omega, ?_⟩
  refine Int32.toInt_inj.mp ?_
  have hx := Int32.toInt_lt x
  rw [nI_toInt (by omega)]
  omega
theorem inR_of {k n : Nat} (hk : k < n) (hn : n < 2147483648) : inR (nI k) n = true := by
  unfold inR
  rw [nI_toInt (by omega), decide_eq_true_eq]
  omega
def it {S : Type} (F : Nat → S → S) : Nat → S → S
  | 0, s => s
  | n + 1, s => F n (it F n s)
/-- a loop that counts upwards -/
theorem loop_up {S X : Type} (cfg : Nat → S → X) (F : Nat → S → S) (P : Nat → S → Prop) (n : Nat) (s0 : S) (h0 : P 0 s0) (hs : ∀ i s, i < n → P i s → cfg i s = cfg (i + 1) (F i s) ∧ P (i + 1) (F i s)) : cfg 0 s0 = cfg n (it F n s0) ∧ P n (it F n s0) := by
  have key : ∀ k, k ≤ n → cfg 0 s0 = cfg k (it F k s0) ∧ P k (it F k s0) := by
    intro k
    induction k with
    | zero => intro _; exact ⟨rfl, h0⟩
    | succ k ih =>
      intro hk
      obtain ⟨e1, e2⟩ := ih (by omega)
      obtain ⟨f1, f2⟩ := hs k _ (by omega) e2
      exact ⟨e1.trans f1, f2⟩
  exact key n (Nat.le_refl n)
-- reads
section rds
variable {μ : mM} {a n k c : Nat} {f : Nat → Int32} {fs : List Value}
theorem ga_ok (h : mF μ a = some (m_ia 0 n f)) (hk : k < n) (hn : n ≤ 100000) : m_ga μ a (nI k) = some (f k) := by
  unfold m_ga
  rw [h]
  have h1 : (nI k).toNatClampNeg = k := nI_clamp (by omega)
  have h2 : m_ix (nI k) n = true := by
    unfold m_ix
    rw [h1, Bool.and_eq_true, decide_eq_true_eq, decide_eq_true_eq]
    exact ⟨nI_pos' (by omega), hk⟩
  simp only [h1, h2, and_self, if_true]
theorem gf_ok (h : mF μ a = some (m_ob c fs)) : m_gf μ a c k = fs[k]? := by
  unfold m_gf
  rw [h]
  simp
theorem oc_ok (h : mF μ a = some (m_ob c fs)) : m_oc μ a = some c := by
  unfold m_oc
  rw [h]
end rds
