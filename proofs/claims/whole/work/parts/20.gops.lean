/-! equations of m_G, an opcode each; continuations without a lambda -/
noncomputable def b_v (o : Option Value) (m pc : Nat) (L st : List Value) (μ : mM) : mO := o.bind fun v => m_G m pc L (v :: st) μ
noncomputable def b_i (o : Option Int32) (m pc : Nat) (L st : List Value) (μ : mM) : mO := o.bind fun x => m_G m pc L (.int x :: st) μ
noncomputable def b_n (o : Option Nat) (m pc : Nat) (L st : List Value) (μ : mM) : mO := o.bind fun n => m_G m pc L (.int (Int32.ofNat n) :: st) μ
noncomputable def b_r (o : Option (Option Nat)) (m pc : Nat) (L st : List Value) (μ : mM) : mO := o.bind fun x => m_G m pc L (va_rf x :: st) μ
noncomputable def b_m (o : Option mM) (m pc : Nat) (L st : List Value) : mO := o.bind fun μ => m_G m pc L st μ
noncomputable def b_c (o : mO) (m pc : Nat) (L st : List Value) : mO := o.bind fun w => m_G m pc L (w.1.toList ++ st) w.2
theorem b_v_s (v : Value) (m pc : Nat) (L st : List Value) (μ : mM) : b_v (some v) m pc L st μ = m_G m pc L (v :: st) μ := rfl
theorem b_i_s (x : Int32) (m pc : Nat) (L st : List Value) (μ : mM) : b_i (some x) m pc L st μ = m_G m pc L (.int x :: st) μ := rfl
theorem b_n_s (x : Nat) (m pc : Nat) (L st : List Value) (μ : mM) : b_n (some x) m pc L st μ = m_G m pc L (.int (Int32.ofNat x) :: st) μ := rfl
theorem b_r_s (x : Nat) (m pc : Nat) (L st : List Value) (μ : mM) : b_r (some (some x)) m pc L st μ = m_G m pc L (.ref x :: st) μ := rfl
theorem b_r_n (m pc : Nat) (L st : List Value) (μ : mM) : b_r (some none) m pc L st μ = m_G m pc L (.null :: st) μ := rfl
theorem b_m_s (μ : mM) (m pc : Nat) (L st : List Value) : b_m (some μ) m pc L st = m_G m pc L st μ := rfl
theorem b_c_s (v : Value) (μ : mM) (m pc : Nat) (L st : List Value) : b_c (some (some v, μ)) m pc L st = m_G m pc L (v :: st) μ := rfl
theorem b_c_v (μ : mM) (m pc : Nat) (L st : List Value) : b_c (some (none, μ)) m pc L st = m_G m pc L st μ := rfl
section gops
variable {m pc : Nat} {L st : List Value} {μ : mM}
theorem g_k {L' st' : List Value} {i : Instr} {len pc' : Nat} (hd : decode (m_code m) pc = .ok (i, len)) (hl : x_lok i len = true) (hx : m_e0 m pc L st μ i = some (.inl (pc', L', st', μ))) : m_G m pc L st μ = m_G m pc' L' st' μ := G_go hd (show m_ex m pc len L st μ i = _ by unfold m_ex; rw [if_pos hl]; exact hx)
theorem g_c {i : Instr} {len : Nat} {n : Int} {v : Int32} (hd : decode (m_code m) pc = .ok (i, len)) (hl : x_lok i len = true) (hi : i = .iconst n ∨ False) (hv : Int32.ofInt n = v) : m_G m pc L st μ = m_G m (pc + 1) L (.int v :: st) μ := by
  rcases hi with rfl | h
  · subst hv; exact g_k hd hl rfl
  · exact h.elim
theorem g_iconst {n : Int} {v : Int32} (hd : decode (m_code m) pc = .ok (.iconst n, 1)) (hv : Int32.ofInt n = v) : m_G m pc L st μ = m_G m (pc + 1) L (.int v :: st) μ := by subst hv; exact g_k hd rfl rfl
theorem g_bipush {n : Int} {v : Int32} (hd : decode (m_code m) pc = .ok (.bipush n, 2)) (hv : (Int8.ofInt n).toInt32 = v) : m_G m pc L st μ = m_G m (pc + 2) L (.int v :: st) μ := by subst hv; exact g_k hd rfl rfl
theorem g_sipush {n : Int} {v : Int32} (hd : decode (m_code m) pc = .ok (.sipush n, 3)) (hv : (Int16.ofInt n).toInt32 = v) : m_G m pc L st μ = m_G m (pc + 3) L (.int v :: st) μ := by subst hv; exact g_k hd rfl rfl
theorem g_lconst {n : Fin 2} {v : Int64} (hd : decode (m_code m) pc = .ok (.lconst n, 1)) (hv : Int64.ofNat (n : Nat) = v) : m_G m pc L st μ = m_G m (pc + 1) L (.long v :: st) μ := by subst hv; exact g_k hd rfl rfl
theorem g_ldc_w {i : Nat} {v : Int32} (hd : decode (m_code m) pc = .ok (.ldc_w i, 3)) (hv : m_lkI (m_own m) i = some v) : m_G m pc L st μ = m_G m (pc + 3) L (.int v :: st) μ := g_k hd rfl (by simp only [m_e0, hv, Option.map_some])
theorem g_ldc2_w {i : Nat} {v : Int64} (hd : decode (m_code m) pc = .ok (.ldc2_w i, 3)) (hv : m_lkJ (m_own m) i = some v) : m_G m pc L st μ = m_G m (pc + 3) L (.long v :: st) μ := g_k hd rfl (by simp only [m_e0, hv, Option.map_some])
theorem g_null (hd : decode (m_code m) pc = .ok (.aconst_null, 1)) : m_G m pc L st μ = m_G m (pc + 1) L (.null :: st) μ := g_k hd rfl rfl
theorem g_iload {i : Nat} {x : Int32} (hd : decode (m_code m) pc = .ok (.iload i, 2)) (hl : L[i]? = some (.int x)) : m_G m pc L st μ = m_G m (pc + 2) L (.int x :: st) μ := g_k hd rfl (by simp only [m_e0, x_ild, hl])
theorem g_iload_n {i : Fin 4} {x : Int32} (hd : decode (m_code m) pc = .ok (.iload_n i, 1)) (hl : L[(i : Nat)]? = some (.int x)) : m_G m pc L st μ = m_G m (pc + 1) L (.int x :: st) μ := g_k hd rfl (by simp only [m_e0, x_ild, hl])
theorem g_lload {i : Nat} {x : Int64} (hd : decode (m_code m) pc = .ok (.lload i, 2)) (hl : L[i]? = some (.long x)) : m_G m pc L st μ = m_G m (pc + 2) L (.long x :: st) μ := g_k hd rfl (by simp only [m_e0, x_lld, hl])
theorem g_lload_n {i : Fin 4} {x : Int64} (hd : decode (m_code m) pc = .ok (.lload_n i, 1)) (hl : L[(i : Nat)]? = some (.long x)) : m_G m pc L st μ = m_G m (pc + 1) L (.long x :: st) μ := g_k hd rfl (by simp only [m_e0, x_lld, hl])
theorem g_aload {i : Nat} {x : Nat} (hd : decode (m_code m) pc = .ok (.aload i, 2)) (hl : L[i]? = some (.ref x)) : m_G m pc L st μ = m_G m (pc + 2) L (.ref x :: st) μ := g_k hd rfl (by simp only [m_e0, x_ald, hl])
theorem g_aload_n {i : Fin 4} {x : Nat} (hd : decode (m_code m) pc = .ok (.aload_n i, 1)) (hl : L[(i : Nat)]? = some (.ref x)) : m_G m pc L st μ = m_G m (pc + 1) L (.ref x :: st) μ := g_k hd rfl (by simp only [m_e0, x_ald, hl])
theorem g_aloadN {i : Nat} (hd : decode (m_code m) pc = .ok (.aload i, 2)) (hl : L[i]? = some .null) : m_G m pc L st μ = m_G m (pc + 2) L (.null :: st) μ := g_k hd rfl (by simp only [m_e0, x_ald, hl])
theorem g_aload_nN {i : Fin 4} (hd : decode (m_code m) pc = .ok (.aload_n i, 1)) (hl : L[(i : Nat)]? = some .null) : m_G m pc L st μ = m_G m (pc + 1) L (.null :: st) μ := g_k hd rfl (by simp only [m_e0, x_ald, hl])
theorem g_aload_nS {i : Fin 4} (hd : decode (m_code m) pc = .ok (.aload_n i, 1)) (hl : L[(i : Nat)]? = some (.retAddr 0)) : m_G m pc L st μ = m_G m (pc + 1) L (.retAddr 0 :: st) μ := g_k hd rfl (by simp only [m_e0, x_ald, hl])
theorem g_istore {i : Nat} {x : Int32} {L' : List Value} (hd : decode (m_code m) pc = .ok (.istore i, 2)) (hi : i < L.length) (hl : x_st m i (.int x) L = L') : m_G m pc L (.int x :: st) μ = m_G m (pc + 2) L' st μ := by subst hl; exact g_k hd rfl (by simp only [m_e0, x_ist, p_i, if_pos hi])
theorem g_istore_n {i : Fin 4} {x : Int32} {L' : List Value} (hd : decode (m_code m) pc = .ok (.istore_n i, 1)) (hi : (i : Nat) < L.length) (hl : x_st m i (.int x) L = L') : m_G m pc L (.int x :: st) μ = m_G m (pc + 1) L' st μ := by subst hl; exact g_k hd rfl (by simp only [m_e0, x_ist, p_i, if_pos hi])
theorem g_lstore {i : Nat} {x : Int64} {L' : List Value} (hd : decode (m_code m) pc = .ok (.lstore i, 2)) (hi : i + 1 < L.length ∧ (m_LS m).contains i = true) (hl : x_st m i (.long x) (L.set (i + 1) m_d) = L') : m_G m pc L (.long x :: st) μ = m_G m (pc + 2) L' st μ := by subst hl; exact g_k hd rfl (by simp only [m_e0, x_lst, p_l, if_pos hi])
theorem g_lstore_n {i : Fin 4} {x : Int64} {L' : List Value} (hd : decode (m_code m) pc = .ok (.lstore_n i, 1)) (hi : (i : Nat) + 1 < L.length ∧ (m_LS m).contains (i : Nat) = true) (hl : x_st m i (.long x) (L.set ((i : Nat) + 1) m_d) = L') : m_G m pc L (.long x :: st) μ = m_G m (pc + 1) L' st μ := by subst hl; exact g_k hd rfl (by simp only [m_e0, x_lst, p_l, if_pos hi])
theorem g_astore {i : Nat} {x : Nat} {L' : List Value} (hd : decode (m_code m) pc = .ok (.astore i, 2)) (hi : i < L.length) (hl : x_st m i (.ref x) L = L') : m_G m pc L (.ref x :: st) μ = m_G m (pc + 2) L' st μ := by subst hl; exact g_k hd rfl (by simp only [m_e0, x_ast, if_pos hi])
theorem g_astore_n {i : Fin 4} {x : Nat} {L' : List Value} (hd : decode (m_code m) pc = .ok (.astore_n i, 1)) (hi : (i : Nat) < L.length) (hl : x_st m i (.ref x) L = L') : m_G m pc L (.ref x :: st) μ = m_G m (pc + 1) L' st μ := by subst hl; exact g_k hd rfl (by simp only [m_e0, x_ast, if_pos hi])
theorem g_astoreN {i : Nat} {L' : List Value} (hd : decode (m_code m) pc = .ok (.astore i, 2)) (hi : i < L.length) (hl : x_st m i .null L = L') : m_G m pc L (.null :: st) μ = m_G m (pc + 2) L' st μ := by subst hl; exact g_k hd rfl (by simp only [m_e0, x_ast, if_pos hi])
theorem g_astore_nN {i : Fin 4} {L' : List Value} (hd : decode (m_code m) pc = .ok (.astore_n i, 1)) (hi : (i : Nat) < L.length) (hl : x_st m i .null L = L') : m_G m pc L (.null :: st) μ = m_G m (pc + 1) L' st μ := by subst hl; exact g_k hd rfl (by simp only [m_e0, x_ast, if_pos hi])
theorem g_iinc {i : Nat} {n : Int} {x k : Int32} {L' : List Value} (hd : decode (m_code m) pc = .ok (.iinc i n, 3)) (hx : L[i]? = some (.int x)) (hk : Int32.ofInt n = k) (hl : x_st m i (.int (x + k)) L = L') : m_G m pc L st μ = m_G m (pc + 3) L' st μ := by subst hl; subst hk; exact g_k hd rfl (by simp only [m_e0, hx])
theorem g_iadd {x y : Int32} (hd : decode (m_code m) pc = .ok (.iadd, 1)) : m_G m pc L (.int y :: .int x :: st) μ = m_G m (pc + 1) L (.int (x + y) :: st) μ := g_k hd rfl rfl
theorem g_isub {x y : Int32} (hd : decode (m_code m) pc = .ok (.isub, 1)) : m_G m pc L (.int y :: .int x :: st) μ = m_G m (pc + 1) L (.int (x - y) :: st) μ := g_k hd rfl rfl
theorem g_imul {x y : Int32} (hd : decode (m_code m) pc = .ok (.imul, 1)) : m_G m pc L (.int y :: .int x :: st) μ = m_G m (pc + 1) L (.int (x * y) :: st) μ := g_k hd rfl rfl
theorem g_iand {x y : Int32} (hd : decode (m_code m) pc = .ok (.iand, 1)) : m_G m pc L (.int y :: .int x :: st) μ = m_G m (pc + 1) L (.int (x &&& y) :: st) μ := g_k hd rfl rfl
theorem g_ior {x y : Int32} (hd : decode (m_code m) pc = .ok (.ior, 1)) : m_G m pc L (.int y :: .int x :: st) μ = m_G m (pc + 1) L (.int (x ||| y) :: st) μ := g_k hd rfl rfl
theorem g_ixor {x y : Int32} (hd : decode (m_code m) pc = .ok (.ixor, 1)) : m_G m pc L (.int y :: .int x :: st) μ = m_G m (pc + 1) L (.int (x ^^^ y) :: st) μ := g_k hd rfl rfl
theorem g_ishl {x y : Int32} (hd : decode (m_code m) pc = .ok (.ishl, 1)) : m_G m pc L (.int y :: .int x :: st) μ = m_G m (pc + 1) L (.int (x <<< (y &&& 31)) :: st) μ := g_k hd rfl rfl
theorem g_ishr {x y : Int32} (hd : decode (m_code m) pc = .ok (.ishr, 1)) : m_G m pc L (.int y :: .int x :: st) μ = m_G m (pc + 1) L (.int (x >>> (y &&& 31)) :: st) μ := g_k hd rfl rfl
theorem g_iushr {x y : Int32} (hd : decode (m_code m) pc = .ok (.iushr, 1)) : m_G m pc L (.int y :: .int x :: st) μ = m_G m (pc + 1) L (.int (x.toUInt32 >>> (y.toUInt32 &&& Int32.toUInt32 31)).toInt32 :: st) μ := g_k hd rfl rfl
theorem g_idiv {x y : Int32} (hd : decode (m_code m) pc = .ok (.idiv, 1)) (hy : ¬ y = 0) : m_G m pc L (.int y :: .int x :: st) μ = m_G m (pc + 1) L (.int (x / y) :: st) μ := g_k hd rfl (by simp only [m_e0, p_ii, if_neg hy])
theorem g_irem {x y : Int32} (hd : decode (m_code m) pc = .ok (.irem, 1)) (hy : ¬ y = 0) : m_G m pc L (.int y :: .int x :: st) μ = m_G m (pc + 1) L (.int (x - x / y * y) :: st) μ := g_k hd rfl (by simp only [m_e0, p_ii, if_neg hy])
theorem g_ineg {x : Int32} (hd : decode (m_code m) pc = .ok (.ineg, 1)) : m_G m pc L (.int x :: st) μ = m_G m (pc + 1) L (.int (-x) :: st) μ := g_k hd rfl rfl
theorem g_ladd {x y : Int64} (hd : decode (m_code m) pc = .ok (.ladd, 1)) : m_G m pc L (.long y :: .long x :: st) μ = m_G m (pc + 1) L (.long (x + y) :: st) μ := g_k hd rfl rfl
theorem g_lmul {x y : Int64} (hd : decode (m_code m) pc = .ok (.lmul, 1)) : m_G m pc L (.long y :: .long x :: st) μ = m_G m (pc + 1) L (.long (x * y) :: st) μ := g_k hd rfl rfl
theorem g_land {x y : Int64} (hd : decode (m_code m) pc = .ok (.land, 1)) : m_G m pc L (.long y :: .long x :: st) μ = m_G m (pc + 1) L (.long (x &&& y) :: st) μ := g_k hd rfl rfl
theorem g_lor {x y : Int64} (hd : decode (m_code m) pc = .ok (.lor, 1)) : m_G m pc L (.long y :: .long x :: st) μ = m_G m (pc + 1) L (.long (x ||| y) :: st) μ := g_k hd rfl rfl
theorem g_lcmp {x y : Int64} (hd : decode (m_code m) pc = .ok (.lcmp, 1)) : m_G m pc L (.long y :: .long x :: st) μ = m_G m (pc + 1) L (.int (lg_cmp x y) :: st) μ := g_k hd rfl rfl
theorem g_lshl {x : Int64} {y : Int32} (hd : decode (m_code m) pc = .ok (.lshl, 1)) : m_G m pc L (.int y :: .long x :: st) μ = m_G m (pc + 1) L (.long (x <<< (y.toInt64 &&& 63)) :: st) μ := g_k hd rfl rfl
theorem g_lushr {x : Int64} {y : Int32} (hd : decode (m_code m) pc = .ok (.lushr, 1)) : m_G m pc L (.int y :: .long x :: st) μ = m_G m (pc + 1) L (.long (x.toUInt64 >>> (y.toInt64.toUInt64 &&& Int64.toUInt64 63)).toInt64 :: st) μ := g_k hd rfl rfl
theorem g_i2l {x : Int32} (hd : decode (m_code m) pc = .ok (.i2l, 1)) : m_G m pc L (.int x :: st) μ = m_G m (pc + 1) L (.long x.toInt64 :: st) μ := g_k hd rfl rfl
theorem g_l2i {x : Int64} (hd : decode (m_code m) pc = .ok (.l2i, 1)) : m_G m pc L (.long x :: st) μ = m_G m (pc + 1) L (.int x.toInt32 :: st) μ := g_k hd rfl rfl
theorem g_i2b {x : Int32} (hd : decode (m_code m) pc = .ok (.i2b, 1)) : m_G m pc L (.int x :: st) μ = m_G m (pc + 1) L (.int x.toInt8.toInt32 :: st) μ := g_k hd rfl rfl
theorem g_dupi {x : Int32} (hd : decode (m_code m) pc = .ok (.dup, 1)) : m_G m pc L (.int x :: st) μ = m_G m (pc + 1) L (.int x :: .int x :: st) μ := g_k hd rfl rfl
theorem g_dupr {x : Nat} (hd : decode (m_code m) pc = .ok (.dup, 1)) : m_G m pc L (.ref x :: st) μ = m_G m (pc + 1) L (.ref x :: .ref x :: st) μ := g_k hd rfl rfl
theorem g_dup2 {a : Nat} {i : Int32} (hd : decode (m_code m) pc = .ok (.dup2, 1)) : m_G m pc L (.int i :: .ref a :: st) μ = m_G m (pc + 1) L (.int i :: .ref a :: .int i :: .ref a :: st) μ := g_k hd rfl rfl
theorem g_goto {off : Int} {t : Nat} (hd : decode (m_code m) pc = .ok (.goto off, 3)) (ht : (pc : Int) + off = (t : Int)) : m_G m pc L st μ = m_G m t L st μ := g_k hd rfl (by simp only [m_e0, x_to, ht]; rw [if_pos (Int.natCast_nonneg t)]; simp)
theorem g_br {P : Prop} [Decidable P] {i : Instr} {off : Int} {t : Nat} {st' : List Value} (hd : decode (m_code m) pc = .ok (i, 3)) (hl : x_lok i 3 = true) (he : m_e0 m pc L st μ i = x_br pc off L st' μ P) (ht : (pc : Int) + off = (t : Int)) : m_G m pc L st μ = if P then m_G m t L st' μ else m_G m (pc + 3) L st' μ := by
  have h1 : x_br pc off L st' μ P = if P then some (.inl (t, L, st', μ)) else some (.inl (pc + 3, L, st', μ)) := by
    unfold x_br x_to
    rw [ht, if_pos (Int.natCast_nonneg t)]
    simp
  rw [h1] at he
  split
  · rename_i h; rw [if_pos h] at he; exact g_k hd hl he
  · rename_i h; rw [if_neg h] at he; exact g_k hd hl he
theorem g_ifeq {x : Int32} {off : Int} {t : Nat} (hd : decode (m_code m) pc = .ok (.ifCond .eq off, 3)) (ht : (pc : Int) + off = (t : Int)) : m_G m pc L (.int x :: st) μ = if x = 0 then m_G m t L st μ else m_G m (pc + 3) L st μ := g_br hd rfl rfl ht
theorem g_ifne {x : Int32} {off : Int} {t : Nat} (hd : decode (m_code m) pc = .ok (.ifCond .ne off, 3)) (ht : (pc : Int) + off = (t : Int)) : m_G m pc L (.int x :: st) μ = if x = 0 then m_G m (pc + 3) L st μ else m_G m t L st μ := by
  have h := g_br (m := m) (pc := pc) (L := L) (st := .int x :: st) (μ := μ) (P := ¬ x = 0) hd rfl rfl ht
  rw [h]
  by_cases q : x = 0
  · rw [if_neg (fun z => z q), if_pos q]
  · rw [if_pos q, if_neg q]
theorem g_iflt {x : Int32} {off : Int} {t : Nat} (hd : decode (m_code m) pc = .ok (.ifCond .lt off, 3)) (ht : (pc : Int) + off = (t : Int)) : m_G m pc L (.int x :: st) μ = if x < 0 then m_G m t L st μ else m_G m (pc + 3) L st μ := g_br hd rfl rfl ht
theorem g_ifge {x : Int32} {off : Int} {t : Nat} (hd : decode (m_code m) pc = .ok (.ifCond .ge off, 3)) (ht : (pc : Int) + off = (t : Int)) : m_G m pc L (.int x :: st) μ = if 0 ≤ x then m_G m t L st μ else m_G m (pc + 3) L st μ := g_br hd rfl rfl ht
theorem g_ifgt {x : Int32} {off : Int} {t : Nat} (hd : decode (m_code m) pc = .ok (.ifCond .gt off, 3)) (ht : (pc : Int) + off = (t : Int)) : m_G m pc L (.int x :: st) μ = if 0 < x then m_G m t L st μ else m_G m (pc + 3) L st μ := g_br hd rfl rfl ht
theorem g_ifle {x : Int32} {off : Int} {t : Nat} (hd : decode (m_code m) pc = .ok (.ifCond .le off, 3)) (ht : (pc : Int) + off = (t : Int)) : m_G m pc L (.int x :: st) μ = if x ≤ 0 then m_G m t L st μ else m_G m (pc + 3) L st μ := g_br hd rfl rfl ht
theorem g_cmpeq {x y : Int32} {off : Int} {t : Nat} (hd : decode (m_code m) pc = .ok (.if_icmp .eq off, 3)) (ht : (pc : Int) + off = (t : Int)) : m_G m pc L (.int y :: .int x :: st) μ = if x = y then m_G m t L st μ else m_G m (pc + 3) L st μ := g_br hd rfl rfl ht
theorem g_cmpne {x y : Int32} {off : Int} {t : Nat} (hd : decode (m_code m) pc = .ok (.if_icmp .ne off, 3)) (ht : (pc : Int) + off = (t : Int)) : m_G m pc L (.int y :: .int x :: st) μ = if x = y then m_G m (pc + 3) L st μ else m_G m t L st μ := by
  have h := g_br (m := m) (pc := pc) (L := L) (st := .int y :: .int x :: st) (μ := μ) (P := ¬ x = y) hd rfl rfl ht
  rw [h]
  by_cases q : x = y
  · rw [if_neg (fun z => z q), if_pos q]
  · rw [if_pos q, if_neg q]
theorem g_cmplt {x y : Int32} {off : Int} {t : Nat} (hd : decode (m_code m) pc = .ok (.if_icmp .lt off, 3)) (ht : (pc : Int) + off = (t : Int)) : m_G m pc L (.int y :: .int x :: st) μ = if x < y then m_G m t L st μ else m_G m (pc + 3) L st μ := g_br hd rfl rfl ht
theorem g_cmpge {x y : Int32} {off : Int} {t : Nat} (hd : decode (m_code m) pc = .ok (.if_icmp .ge off, 3)) (ht : (pc : Int) + off = (t : Int)) : m_G m pc L (.int y :: .int x :: st) μ = if x < y then m_G m (pc + 3) L st μ else m_G m t L st μ := by
  have h := g_br (m := m) (pc := pc) (L := L) (st := .int y :: .int x :: st) (μ := μ) (P := y ≤ x) hd rfl rfl ht
  rw [h]
  by_cases q : x < y
  · rw [if_neg (fun z => by rw [Int32.lt_iff_toInt_lt] at q; rw [Int32.le_iff_toInt_le] at z; omega), if_pos q]
  · rw [if_pos (by rw [Int32.lt_iff_toInt_lt] at q; rw [Int32.le_iff_toInt_le]; omega), if_neg q]
theorem g_cmpgt {x y : Int32} {off : Int} {t : Nat} (hd : decode (m_code m) pc = .ok (.if_icmp .gt off, 3)) (ht : (pc : Int) + off = (t : Int)) : m_G m pc L (.int y :: .int x :: st) μ = if y < x then m_G m t L st μ else m_G m (pc + 3) L st μ := g_br hd rfl rfl ht
theorem g_cmple {x y : Int32} {off : Int} {t : Nat} (hd : decode (m_code m) pc = .ok (.if_icmp .le off, 3)) (ht : (pc : Int) + off = (t : Int)) : m_G m pc L (.int y :: .int x :: st) μ = if y < x then m_G m (pc + 3) L st μ else m_G m t L st μ := by
  have h := g_br (m := m) (pc := pc) (L := L) (st := .int y :: .int x :: st) (μ := μ) (P := x ≤ y) hd rfl rfl ht
  rw [h]
  by_cases q : y < x
  · rw [if_neg (fun z => by rw [Int32.lt_iff_toInt_lt] at q; rw [Int32.le_iff_toInt_le] at z; omega), if_pos q]
  · rw [if_pos (by rw [Int32.lt_iff_toInt_lt] at q; rw [Int32.le_iff_toInt_le]; omega), if_neg q]
theorem g_ifnull {a : Nat} {off : Int} (hd : decode (m_code m) pc = .ok (.ifnull off, 3)) : m_G m pc L (.ref a :: st) μ = m_G m (pc + 3) L st μ := g_k hd rfl rfl
theorem g_ifnullN {off : Int} {t : Nat} (hd : decode (m_code m) pc = .ok (.ifnull off, 3)) (ht : (pc : Int) + off = (t : Int)) : m_G m pc L (.null :: st) μ = m_G m t L st μ := g_k hd rfl (by simp only [m_e0, x_to, ht]; rw [if_pos (Int.natCast_nonneg t)]; simp)
theorem g_ifnonnull {a : Nat} {off : Int} {t : Nat} (hd : decode (m_code m) pc = .ok (.ifnonnull off, 3)) (ht : (pc : Int) + off = (t : Int)) : m_G m pc L (.ref a :: st) μ = m_G m t L st μ := g_k hd rfl (by simp only [m_e0, x_to, ht]; rw [if_pos (Int.natCast_nonneg t)]; simp)
theorem g_ifnonnullN {off : Int} (hd : decode (m_code m) pc = .ok (.ifnonnull off, 3)) : m_G m pc L (.null :: st) μ = m_G m (pc + 3) L st μ := g_k hd rfl rfl
theorem g_go' {i : Instr} {len pc' : Nat} {L' st' : List Value} {μ' : mM} (hd : decode (m_code m) pc = .ok (i, len)) (hl : x_lok i len = true) (hx : m_e0 m pc L st μ i = some (.inl (pc', L', st', μ'))) : m_G m pc L st μ = m_G m pc' L' st' μ' := G_go hd (show m_ex m pc len L st μ i = _ by unfold m_ex; rw [if_pos hl]; exact hx)
theorem g_no' {i : Instr} {len : Nat} (hd : decode (m_code m) pc = .ok (i, len)) (hl : x_lok i len = true) (hx : m_e0 m pc L st μ i = none) : m_G m pc L st μ = none := G_no hd (show m_ex m pc len L st μ i = _ by unfold m_ex; rw [if_pos hl]; exact hx)
theorem g_getf {a i c k : Nat} (hd : decode (m_code m) pc = .ok (.getfield i, 3)) (hk : m_lkF (m_own m) i = some (c, k)) : m_G m pc L (.ref a :: st) μ = b_v (m_gf μ a c k) m (pc + 3) L st μ := by
  cases h : m_gf μ a c k with
  | none => exact (g_no' hd rfl (by simp only [m_e0, p_r, hk, Option.bind_some, h, Option.map_none])).trans rfl
  | some v => exact g_k hd rfl (by simp only [m_e0, p_r, hk, Option.bind_some, h, Option.map_some])
theorem g_putf {v : Value} {a i c k : Nat} (hd : decode (m_code m) pc = .ok (.putfield i, 3)) (hk : m_lkF (m_own m) i = some (c, k)) (hf : x_fin c k = false ∨ ((m_nam m).name = "<init>" ∧ (m_T c k).1 = (m_nam m).cls)) {ty : FieldType} (hty : m_ty c k = ty) : m_G m pc L (v :: .ref a :: st) μ = b_m (m_pf μ a c k ty v) m (pc + 3) L st := by
  subst hty
  cases h : m_pf μ a c k (m_ty c k) v with
  | none => exact (g_no' hd rfl (by simp only [m_e0, p_vr, hk, Option.bind_some, if_pos hf, h, Option.map_none])).trans rfl
  | some v => exact g_go' hd rfl (by simp only [m_e0, p_vr, hk, Option.bind_some, if_pos hf, h, Option.map_some])
theorem g_iald {a : Nat} {i : Int32} (hd : decode (m_code m) pc = .ok (.iaload, 1)) : m_G m pc L (.int i :: .ref a :: st) μ = b_i (m_ga μ a i) m (pc + 1) L st μ := by
  cases h : m_ga μ a i with
  | none => exact (g_no' hd rfl (by simp only [m_e0, h, Option.map_none])).trans rfl
  | some v => exact g_k hd rfl (by simp only [m_e0, h, Option.map_some])
theorem g_sald {i : Int32} (hd : decode (m_code m) pc = .ok (.iaload, 1)) : m_G m pc L (.int i :: .retAddr 0 :: st) μ = b_i (m_gs μ i) m (pc + 1) L st μ := by
  cases h : m_gs μ i with
  | none => exact (g_no' hd rfl (by simp only [m_e0, h, Option.map_none])).trans rfl
  | some v => exact g_k hd rfl (by simp only [m_e0, h, Option.map_some])
theorem g_bald {a : Nat} {i : Int32} (hd : decode (m_code m) pc = .ok (.baload, 1)) : m_G m pc L (.int i :: .ref a :: st) μ = b_i (m_gb μ a i) m (pc + 1) L st μ := by
  cases h : m_gb μ a i with
  | none => exact (g_no' hd rfl (by simp only [m_e0, p_ri, h, Option.map_none])).trans rfl
  | some v => exact g_k hd rfl (by simp only [m_e0, p_ri, h, Option.map_some])
theorem g_aald {a : Nat} {i : Int32} (hd : decode (m_code m) pc = .ok (.aaload, 1)) : m_G m pc L (.int i :: .ref a :: st) μ = b_r (m_gr μ a i) m (pc + 1) L st μ := by
  cases h : m_gr μ a i with
  | none => exact (g_no' hd rfl (by simp only [m_e0, p_ri, h, Option.map_none])).trans rfl
  | some v => exact g_k hd rfl (by simp only [m_e0, p_ri, h, Option.map_some])
theorem g_iast {a : Nat} {i x : Int32} (hd : decode (m_code m) pc = .ok (.iastore, 1)) : m_G m pc L (.int x :: .int i :: .ref a :: st) μ = b_m (m_pa μ a i x) m (pc + 1) L st := by
  cases h : m_pa μ a i x with
  | none => exact (g_no' hd rfl (by simp only [m_e0, p_rii, h, Option.map_none])).trans rfl
  | some v => exact g_go' hd rfl (by simp only [m_e0, p_rii, h, Option.map_some])
theorem g_bast {a : Nat} {i x : Int32} (hd : decode (m_code m) pc = .ok (.bastore, 1)) : m_G m pc L (.int x :: .int i :: .ref a :: st) μ = b_m (m_pb μ a i x) m (pc + 1) L st := by
  cases h : m_pb μ a i x with
  | none => exact (g_no' hd rfl (by simp only [m_e0, p_rii, h, Option.map_none])).trans rfl
  | some v => exact g_go' hd rfl (by simp only [m_e0, p_rii, h, Option.map_some])
theorem g_aast {a v : Nat} {i : Int32} (hd : decode (m_code m) pc = .ok (.aastore, 1)) : m_G m pc L (.ref v :: .int i :: .ref a :: st) μ = b_m (m_pr μ a i v) m (pc + 1) L st := by
  cases h : m_pr μ a i v with
  | none => exact (g_no' hd rfl (by simp only [m_e0, p_rir, h, Option.map_none])).trans rfl
  | some v => exact g_go' hd rfl (by simp only [m_e0, p_rir, h, Option.map_some])
theorem g_alen {a : Nat} (hd : decode (m_code m) pc = .ok (.arraylength, 1)) : m_G m pc L (.ref a :: st) μ = b_n (m_ln μ a) m (pc + 1) L st μ := by
  cases h : m_ln μ a with
  | none => exact (g_no' hd rfl (by simp only [m_e0, h, Option.map_none])).trans rfl
  | some v => exact g_k hd rfl (by simp only [m_e0, h, Option.map_some])
theorem g_slen (hd : decode (m_code m) pc = .ok (.arraylength, 1)) : m_G m pc L (.retAddr 0 :: st) μ = m_G m (pc + 1) L (.int (Int32.ofNat μ.2.1.1) :: st) μ := g_k hd rfl rfl
theorem g_newa {n : Int32} {t : ArrayType} {k : Nat} (hd : decode (m_code m) pc = .ok (.newarray t, 2)) (hk : x_tag t = some k) : m_G m pc L (.int n :: st) μ = if x_nok n = true then m_G m (pc + 2) L (.ref (mN μ) :: st) (m_new μ n.toNatClampNeg (m_ia k n.toNatClampNeg (fun _ => 0))) else none := by
  by_cases h : x_nok n = true
  · rw [if_pos h]; exact g_go' hd rfl (by simp only [m_e0, p_i, hk, Option.bind_some, if_pos h])
  · rw [if_neg h]; exact g_no' hd rfl (by simp only [m_e0, p_i, hk, Option.bind_some, if_neg h])
theorem g_anew {n : Int32} {i c : Nat} (hd : decode (m_code m) pc = .ok (.anewarray i, 3)) (hk : m_lkC (m_own m) i = some c) (hc : c = 1 ∨ c = 3 ∨ c = 6) (h : x_nok n = true) : m_G m pc L (.int n :: st) μ = m_G m (pc + 3) L (.ref (mN μ) :: st) (m_new μ n.toNatClampNeg (m_ra c n.toNatClampNeg (fun _ => none))) := g_go' hd rfl (by simp only [m_e0, p_i, hk, Option.bind_some, if_pos (And.intro h hc)])
theorem g_new {i c n : Nat} {fs : List Value} (hd : decode (m_code m) pc = .ok (.new i, 3)) (hk : m_lkC (m_own m) i = some c) (hn : m_nf c = n) (hf : x_nf c = fs) : m_G m pc L st μ = m_G m (pc + 3) L (.ref (mN μ) :: st) (m_new μ n (m_ob c fs)) := by subst hn; subst hf; exact g_go' hd rfl (by simp only [m_e0, hk, Option.bind_some]; rfl)
theorem g_obj {a i : Nat} (hd : decode (m_code m) pc = .ok (.invokespecial i, 3)) (hk : m_lkP (m_own m) i = some none) (hr : st.length ≤ 4 ∧ 1 ≤ m_fr m ∧ 20 ≤ m_lo m) : m_G m pc L (.ref a :: st) μ = m_G m (pc + 3) L st μ := g_k hd rfl (by simp only [m_e0, hk, Option.bind_some, p_r, if_pos hr])
theorem g_max {x y : Int32} {i : Nat} (hd : decode (m_code m) pc = .ok (.invokestatic i, 3)) (hk : m_lkS (m_own m) i = some (m_mx, 2)) (hr : st.length ≤ 4 ∧ 1 ≤ m_fr m ∧ 21 ≤ m_lo m) : m_G m pc L (.int y :: .int x :: st) μ = m_G m (pc + 3) L (.int (if x < y then y else x) :: st) μ := g_k hd rfl (by simp only [m_e0, hk, Option.bind_some, if_true, p_ii, if_pos hr])
theorem g_call {i : Instr} {args rest : List Value} {cal n : Nat} (hd : decode (m_code m) pc = .ok (i, 3)) (hl : x_lok i 3 = true) (he : m_e0 m pc L st μ i = x_call m cal n st) (hc : x_call m cal n st = some (.inr (.inr (cal, args, rest)))) : m_G m pc L st μ = b_c (m_D cal args μ) m (pc + 3) L rest := G_call hd (show m_ex m pc 3 L st μ i = some (.inr (.inr (cal, args, rest))) by unfold m_ex; rw [if_pos hl, he, hc])
theorem g_stat {i cal n : Nat} {args rest : List Value} (hd : decode (m_code m) pc = .ok (.invokestatic i, 3)) (hk : m_lkS (m_own m) i = some (cal, n)) (hm : ¬ cal = m_mx) (hc : x_call m cal n st = some (.inr (.inr (cal, args, rest)))) : m_G m pc L st μ = b_c (m_D cal args μ) m (pc + 3) L rest := g_call hd rfl (by simp only [m_e0, hk, Option.bind_some, if_neg hm]) hc
theorem g_spec {i cal n a : Nat} {args rest : List Value} (hd : decode (m_code m) pc = .ok (.invokespecial i, 3)) (hk : m_lkP (m_own m) i = some (some (cal, n))) (ha : st[n]? = some (.ref a)) (hc : x_call m cal (n + 1) st = some (.inr (.inr (cal, args, rest)))) : m_G m pc L st μ = b_c (m_D cal args μ) m (pc + 3) L rest := g_call hd rfl (by simp only [m_e0, hk, Option.bind_some, ha]) hc
theorem g_virt {i cal n a c : Nat} {l : List (Nat × Nat)} {args rest : List Value} (hd : decode (m_code m) pc = .ok (.invokevirtual i, 3)) (hk : m_lkV (m_own m) i = some (n, l)) (ha : st[n]? = some (.ref a)) (hf : l.find? (fun z => z.1 == c) = some (c, cal)) (hc : x_call m cal (n + 1) st = some (.inr (.inr (cal, args, rest)))) (ho : m_oc μ a = some c) : m_G m pc L st μ = b_c (m_D cal args μ) m (pc + 3) L rest := g_call hd rfl (by simp only [m_e0, hk, Option.bind_some, x_recv, ha, ho, hf]) hc
theorem g_rt {i : Instr} {len : Nat} {v : Option Value} (hd : decode (m_code m) pc = .ok (i, len)) (hl : x_lok i len = true) (hx : m_e0 m pc L st μ i = some (.inr (.inl v))) : m_G m pc L st μ = some (v, μ) := G_ret hd (show m_ex m pc len L st μ i = _ by unfold m_ex; rw [if_pos hl]; exact hx)
theorem g_ireti {x : Int32} (hd : decode (m_code m) pc = .ok (.ireturn, 1)) (hr : m_ret m = some .int) : m_G m pc L [.int x] μ = some (some (.int x), μ) := g_rt hd rfl (by simp only [m_e0, if_pos (Or.inl hr : m_ret m = some .int ∨ (m_ret m = some .boolean ∧ x &&& 1 = x))])
theorem g_iretz {x : Int32} (hd : decode (m_code m) pc = .ok (.ireturn, 1)) (hr : m_ret m = some .boolean) (h1 : x &&& 1 = x) : m_G m pc L [.int x] μ = some (some (.int x), μ) := g_rt hd rfl (by simp only [m_e0, if_pos (Or.inr ⟨hr, h1⟩ : m_ret m = some .int ∨ (m_ret m = some .boolean ∧ x &&& 1 = x))])
theorem g_lret {x : Int64} (hd : decode (m_code m) pc = .ok (.lreturn, 1)) (hr : m_ret m = some .long) : m_G m pc L [.long x] μ = some (some (.long x), μ) := g_rt hd rfl (by simp only [m_e0, if_pos hr])
theorem g_aret {x : Nat} (hd : decode (m_code m) pc = .ok (.areturn, 1)) (hr : m_isA m = true) : m_G m pc L [.ref x] μ = some (some (.ref x), μ) := g_rt hd rfl (by simp only [m_e0, if_pos hr])
theorem g_aretN (hd : decode (m_code m) pc = .ok (.areturn, 1)) (hr : m_isA m = true) : m_G m pc L [.null] μ = some (some .null, μ) := g_rt hd rfl (by simp only [m_e0, if_pos hr])
theorem g_ret (hd : decode (m_code m) pc = .ok (.return_, 1)) (hr : m_ret m = none) : m_G m pc L [] μ = some (none, μ) := g_rt hd rfl (by simp only [m_e0, hr, and_self, if_true])
theorem g_tab {dd lo hi : Int} {offs : Array Int} {len t : Nat} {x : Int32} {off : Int} (hd : decode (m_code m) pc = .ok (.tableswitch dd lo hi offs, len)) (h1 : ¬ (x.toInt < lo ∨ hi < x.toInt)) (ho : offs[(x.toInt - lo).toNat]? = some off) (ht : (pc : Int) + off = (t : Int)) : m_G m pc L (.int x :: st) μ = m_G m t L st μ := g_k hd rfl (by simp only [m_e0, p_i, if_neg h1, ho, Option.bind_some, x_to, ht]; rw [if_pos (Int.natCast_nonneg t)]; simp)
theorem g_tabO {dd lo hi : Int} {offs : Array Int} {len t : Nat} {x : Int32} (hd : decode (m_code m) pc = .ok (.tableswitch dd lo hi offs, len)) (h1 : x.toInt < lo ∨ hi < x.toInt) (ht : (pc : Int) + dd = (t : Int)) : m_G m pc L (.int x :: st) μ = m_G m t L st μ := g_k hd rfl (by simp only [m_e0, p_i, if_pos h1, x_to, ht]; rw [if_pos (Int.natCast_nonneg t)]; simp)
theorem g_look {dd : Int} {ps : Array (Int × Int)} {len t : Nat} {x : Int32} (hd : decode (m_code m) pc = .ok (.lookupswitch dd ps, len)) (h0 : (ps.toList.zip (ps.toList.drop 1)).all (fun (a, next) => a.1 < next.1) = true) (ht : (pc : Int) + Op.lookupswitch.offset ps.toList dd x.toInt = (t : Int)) : m_G m pc L (.int x :: st) μ = m_G m t L st μ := g_k hd rfl (by simp only [m_e0, p_i, x_to, ht]; rw [if_pos ⟨h0, Int.natCast_nonneg t⟩]; simp)
theorem x_call_ok {cal n : Nat} {args rest : List Value} {ws : List Nat} (h1 : n ≤ st.length) (h2 : m_rst rest = true) (hw : m_wid cal = ws) (h3 : args.map (fun v => v.category) = ws) (h4 : m_room m cal = true) (e1 : (st.take n).reverse = args) (e2 : st.drop n = rest) : x_call m cal n st = some (.inr (.inr (cal, args, rest))) := by
  unfold x_call
  rw [e1, e2, if_pos ⟨h1, h2, h3.trans hw.symm, h4⟩]
theorem d_def {args Lc : List Value} (hm : ¬ m = m_cp) (hp : m_pad m args = Lc) : m_D m args μ = m_G m 0 Lc [] μ := by unfold m_D; rw [if_neg hm, hp]
end gops
