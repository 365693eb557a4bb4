/-! Integer.bitCount -/
def tn (x : Int32) : Nat := x.toBitVec.toNat
theorem tn_lt (x : Int32) : tn x < 4294967296 := x.toBitVec.isLt
theorem tn_ext {x y : Int32} (h : tn x = tn y) : x = y := Int32.toBitVec_inj.mp (BitVec.eq_of_toNat_eq h)
theorem tn_sub {x y : Int32} (h : tn y ≤ tn x) : tn (x - y) = tn x - tn y := by
  unfold tn at *
  rw [Int32.toBitVec_sub, BitVec.toNat_sub]
  have h1 := x.toBitVec.isLt
  have h2 := y.toBitVec.isLt
  omega
theorem tn_add {x y : Int32} (h : tn x + tn y < 4294967296) : tn (x + y) = tn x + tn y := by
  unfold tn at *
  rw [Int32.toBitVec_add, BitVec.toNat_add]
  omega
theorem tn_and (x y : Int32) : tn (x &&& y) = tn x &&& tn y := by
  unfold tn
  rw [Int32.toBitVec_and, BitVec.toNat_and]
theorem tn_ushr (n : Nat) (hn : n < 32) (x : Int32) : tn ((x.toUInt32 >>> ((nI n).toUInt32 &&& Int32.toUInt32 31)).toInt32) = tn x / 2 ^ n := by
  show ((x.toUInt32 >>> ((nI n).toUInt32 &&& Int32.toUInt32 31)).toBitVec).toNat = _
  rw [UInt32.toBitVec_shiftRight]
  show (x.toUInt32.toBitVec >>> (((nI n).toUInt32 &&& Int32.toUInt32 31).toBitVec % 32).toNat).toNat = _
  rw [s_u n hn, BitVec.toNat_ushiftRight, Nat.shiftRight_eq_div_pow]
  rfl
theorem u1' (x : Int32) : tn ((x.toUInt32 >>> ((1 : Int32).toUInt32 &&& Int32.toUInt32 31)).toInt32) = tn x / 2 := tn_ushr 1 (by decide) x
theorem u2' (x : Int32) : tn ((x.toUInt32 >>> ((2 : Int32).toUInt32 &&& Int32.toUInt32 31)).toInt32) = tn x / 4 := tn_ushr 2 (by decide) x
theorem u4' (x : Int32) : tn ((x.toUInt32 >>> ((4 : Int32).toUInt32 &&& Int32.toUInt32 31)).toInt32) = tn x / 16 := tn_ushr 4 (by decide) x
theorem u8' (x : Int32) : tn ((x.toUInt32 >>> ((8 : Int32).toUInt32 &&& Int32.toUInt32 31)).toInt32) = tn x / 256 := tn_ushr 8 (by decide) x
theorem u16' (x : Int32) : tn ((x.toUInt32 >>> ((16 : Int32).toUInt32 &&& Int32.toUInt32 31)).toInt32) = tn x / 65536 := tn_ushr 16 (by decide) x
theorem bt_tn (x : Int32) (i : Nat) : (if bt x i = true then 1 else 0) = tn x / 2 ^ i % 2 := by
  have e : bt x i = decide (tn x / 2 ^ i % 2 = 1) := by
    unfold bt tn
    rw [← BitVec.testBit_toNat, Nat.testBit_eq_decide_div_mod_eq]
  rw [e]
  by_cases h : tn x / 2 ^ i % 2 = 1
  · rw [decide_eq_true h, if_pos rfl, h]
  · rw [decide_eq_false h, if_neg (by decide)]; omega
theorem cnt_add (P : Nat → Bool) (n k : Nat) : cnt P (n + k) = cnt P n + cnt (fun i => P (n + i)) k := by
  induction k with
  | zero => rfl
  | succ k ih => rw [← Nat.add_assoc, cnt, ih, cnt, Nat.add_assoc]
theorem cnt8 (P : Nat → Bool) : cnt P 8 = ((((((((0 + (if P 0 = true then 1 else 0)) + (if P 1 = true then 1 else 0)) + (if P 2 = true then 1 else 0)) + (if P 3 = true then 1 else 0)) + (if P 4 = true then 1 else 0)) + (if P 5 = true then 1 else 0)) + (if P 6 = true then 1 else 0)) + (if P 7 = true then 1 else 0)) := rfl
theorem cnt_pc (x : Int32) (k t : Nat) (ht : t = tn x / 2 ^ k % 256) : cnt (fun i => bt x (k + i)) 8 = pc8 t := by
  rw [cnt8]
  simp only [bt_tn]
  have e : ∀ j, tn x / 2 ^ (k + j) = tn x / 2 ^ k / 2 ^ j := fun j => by rw [Nat.pow_add, Nat.div_div_eq_div_mul]
  simp only [e]
  unfold pc8
  generalize tn x / 2 ^ k = u at *
  subst ht
  have h0 : u / 2 ^ 0 % 2 = u % 256 % 2 := by omega
  have h1 : u / 2 ^ 1 % 2 = u % 256 / 2 % 2 := by omega
  have h2 : u / 2 ^ 2 % 2 = u % 256 / 4 % 2 := by omega
  have h3 : u / 2 ^ 3 % 2 = u % 256 / 8 % 2 := by omega
  have h4 : u / 2 ^ 4 % 2 = u % 256 / 16 % 2 := by omega
  have h5 : u / 2 ^ 5 % 2 = u % 256 / 32 % 2 := by omega
  have h6 : u / 2 ^ 6 % 2 = u % 256 / 64 % 2 := by omega
  have h7 : u / 2 ^ 7 % 2 = u % 256 / 128 % 2 := by omega
  rw [h0, h1, h2, h3, h4, h5, h6, h7, Nat.zero_add]
theorem pc8_le (v : Nat) : pc8 v ≤ 8 := by unfold pc8; omega
theorem bitC (x : Int32) : cnt (bt x) 32 = pc8 (tn x % 256) + pc8 (tn x / 256 % 256) + pc8 (tn x / 65536 % 256) + pc8 (tn x / 16777216 % 256) := by
  have e : cnt (bt x) 32 = cnt (bt x) (8 + 8 + 8 + 8) := rfl
  rw [e, cnt_add, cnt_add, cnt_add]
  have h0 := cnt_pc x 0 (tn x % 256) (by simp)
  have h1 := cnt_pc x 8 (tn x / 256 % 256) rfl
  have h2 := cnt_pc x 16 (tn x / 65536 % 256) rfl
  have h3 := cnt_pc x 24 (tn x / 16777216 % 256) rfl
  simp only [Nat.zero_add] at h0
  rw [← h0, ← h1, ← h2, ← h3]
theorem tn_c1 : tn 1431655765 = 1431655765 := by decide
theorem tn_c2 : tn 858993459 = 858993459 := by decide
theorem tn_c3 : tn 252645135 = 252645135 := by decide
theorem tn_c4 : tn 63 = 63 := by decide
theorem tn_nI {n : Nat} (h : n < 4294967296) : tn (nI n) = n := by
  unfold tn
  show (BitVec.ofNat 32 n).toNat = n
  rw [BitVec.toNat_ofNat]
  omega
theorem and63 : ∀ v, v < 64 → ∀ r, (v + 64 * r) &&& 63 = v := by
  intro v hv r
  have : (63 : Nat) = 2 ^ 6 - 1 := by decide
  rw [this, Nat.and_two_pow_sub_one_eq_mod]
  omega
set_option maxRecDepth 4000 in
theorem E_bitCount {μ : mM} {x : Int32} : m_D 169 [.int x] μ = some (some (.int (nI (cnt (bt x) 32))), μ) := by
  simp only [D169, i169_0, i169_1, i169_2, i169_3, i169_4, i169_7, i169_8, i169_9, i169_10, i169_11, i169_14, i169_15, i169_16, i169_17, i169_18, i169_21, i169_22, i169_23, i169_24, i169_25, i169_26, i169_27, i169_28, i169_29, i169_32, i169_33, i169_34, i169_35, i169_36, i169_38, i169_39, i169_40, i169_41, i169_42, i169_43, i169_45, i169_46, i169_47, i169_48, i169_49, i169_51, i169_52]
  congr 3
  refine congrArg Value.int (tn_ext ?_)
  have hx := tn_lt x
  obtain ⟨x1, x2, x3, g1, g2, g3, g4, l2, l1, l3⟩ := pcN (tn x % 256) (tn x / 256 % 256) (tn x / 65536 % 256) (tn x / 16777216 % 256) (by omega) (by omega) (by omega) (by omega)
  have ex : tn x % 256 + 256 * (tn x / 256 % 256 + 256 * (tn x / 65536 % 256 + 256 * (tn x / 16777216 % 256))) = tn x := by omega
  rw [ex] at g1
  have p0 := pc8_le (tn x % 256)
  have p1 := pc8_le (tn x / 256 % 256)
  have p2 := pc8_le (tn x / 65536 % 256)
  have p3 := pc8_le (tn x / 16777216 % 256)
  rw [bitC]
  generalize pc8 (tn x % 256) = a at *
  generalize pc8 (tn x / 256 % 256) = b at *
  generalize pc8 (tn x / 65536 % 256) = c at *
  generalize pc8 (tn x / 16777216 % 256) = d at *
  clear ex
  have m1 : (tn x / 2 &&& 1431655765) ≤ tn x / 2 := Nat.and_le_left
  have t1 : tn (x - ((x.toUInt32 >>> ((1 : Int32).toUInt32 &&& Int32.toUInt32 31)).toInt32 &&& 1431655765)) = x1 := by
    rw [tn_sub (by rw [tn_and, u1', tn_c1]; omega), tn_and, u1', tn_c1, g1]
  generalize x - ((x.toUInt32 >>> ((1 : Int32).toUInt32 &&& Int32.toUInt32 31)).toInt32 &&& 1431655765) = y1 at *
  have m2 : (x1 &&& 858993459) ≤ 858993459 := Nat.and_le_right
  have m3 : (x1 / 4 &&& 858993459) ≤ 858993459 := Nat.and_le_right
  have t2 : tn ((y1 &&& 858993459) + ((y1.toUInt32 >>> ((2 : Int32).toUInt32 &&& Int32.toUInt32 31)).toInt32 &&& 858993459)) = x2 := by
    rw [tn_add (by rw [tn_and, tn_and, u2', tn_c2, t1]; omega), tn_and, tn_and, u2', tn_c2, t1, g2]
  generalize (y1 &&& 858993459) + ((y1.toUInt32 >>> ((2 : Int32).toUInt32 &&& Int32.toUInt32 31)).toInt32 &&& 858993459) = y2 at *
  have t3 : tn ((y2 + (y2.toUInt32 >>> ((4 : Int32).toUInt32 &&& Int32.toUInt32 31)).toInt32) &&& 252645135) = x3 := by
    rw [tn_and, tn_add (by rw [u4', t2]; omega), u4', tn_c3, t2, g3]
  generalize (y2 + (y2.toUInt32 >>> ((4 : Int32).toUInt32 &&& Int32.toUInt32 31)).toInt32) &&& 252645135 = y3 at *
  have t4 : tn (y3 + (y3.toUInt32 >>> ((8 : Int32).toUInt32 &&& Int32.toUInt32 31)).toInt32) = x3 + x3 / 256 := by
    rw [tn_add (by rw [u8', t3]; omega), u8', t3]
  generalize y3 + (y3.toUInt32 >>> ((8 : Int32).toUInt32 &&& Int32.toUInt32 31)).toInt32 = y4 at *
  rw [tn_and, tn_add (by rw [u16', t4]; omega), u16', tn_c4, t4, tn_nI (by omega)]
  have e : x3 + x3 / 256 + (x3 + x3 / 256) / 65536 = (a + b + c + d) + 64 * (4 * (b + c + d + 256 * (c + d + 256 * d)) + 0) := by omega
  rw [e, and63 _ (by omega)]
/-- sets of boxes below 24 -/
theorem cnt_hi {x : Int32} (h : ∀ i, bt x i = true → i < 24) : cnt (bt x) 32 = cnt (bt x) 24 := by
  have e : cnt (bt x) 32 = cnt (bt x) (24 + 8) := rfl
  rw [e, cnt_add]
  have : cnt (fun i => bt x (24 + i)) 8 = cnt (fun _ => false) 8 := cnt_congr fun i _ => by
    cases q : bt x (24 + i) with
    | false => rfl
    | true => have := h _ q; omega
  rw [this]
  rfl
