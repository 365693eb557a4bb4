/-! A small machine over cells, on which the bytecode of every method is run; part 'sound' ties it to the JVM's. -/
abbrev mE : Type := (Nat × Nat × (Nat → Int32)) ⊕ ((Nat × Nat × (Nat → Option Nat)) ⊕ (Nat × List Value))
abbrev mM : Type := (Nat × Nat) × ((Nat × (Nat → Int32)) × (Nat → Option mE))
abbrev mX : Type := (Nat × List Value × List Value × mM) ⊕ (Option Value ⊕ (Nat × List Value × List Value))
abbrev mO : Type := Option (Option Value × mM)
abbrev m_ia (k n : Nat) (f : Nat → Int32) : mE := .inl (k, n, f)
abbrev m_ra (c n : Nat) (f : Nat → Option Nat) : mE := .inr (.inl (c, n, f))
abbrev m_ob (c : Nat) (fs : List Value) : mE := .inr (.inr (c, fs))
def mN (μ : mM) : Nat := μ.1.1
def mS (μ : mM) : Nat := μ.1.2
def mF (μ : mM) (a : Nat) : Option mE := μ.2.2 a
def m_set (μ : mM) (a : Nat) (e : mE) : mM := (μ.1, μ.2.1, va_up μ.2.2 a (some e))
def m_new (μ : mM) (k : Nat) (e : mE) : mM := ((μ.1.1 + 1, μ.1.2 + k), μ.2.1, va_up μ.2.2 μ.1.1 (some e))
abbrev m_d : Value := .retAddr 1
abbrev m_scr : Value := .retAddr 0
def m_ix (i : Int32) (n : Nat) : Bool := decide (0 ≤ i) && decide (i.toNatClampNeg < n)
-- reads and writes
def m_gf (μ : mM) (a c k : Nat) : Option Value := match mF μ a with
  | some (.inr (.inr q)) => if q.1 = c then q.2[k]? else none
  | _ => none
def m_pf (μ : mM) (a c k : Nat) (ty : FieldType) (v : Value) : Option mM := match mF μ a with
  | some (.inr (.inr q)) => if q.1 = c ∧ k < q.2.length ∧ fits ty v = true ∧ narrow ty v = v then some (m_set μ a (m_ob c (q.2.set k v))) else none
  | _ => none
def m_ga (μ : mM) (a : Nat) (i : Int32) : Option Int32 := match mF μ a with
  | some (.inl q) => if q.1 = 0 ∧ m_ix i q.2.1 = true then some (q.2.2 i.toNatClampNeg) else none
  | _ => none
def m_gb (μ : mM) (a : Nat) (i : Int32) : Option Int32 := match mF μ a with
  | some (.inl q) => if (q.1 = 1 ∨ q.1 = 2) ∧ m_ix i q.2.1 = true then some (q.2.2 i.toNatClampNeg) else none
  | _ => none
def m_gs (μ : mM) (i : Int32) : Option Int32 := if m_ix i μ.2.1.1 = true then some (μ.2.1.2 i.toNatClampNeg) else none
def m_pa (μ : mM) (a : Nat) (i x : Int32) : Option mM := match mF μ a with
  | some (.inl q) => if q.1 = 0 ∧ m_ix i q.2.1 = true then some (m_set μ a (m_ia 0 q.2.1 (upd q.2.2 i.toNatClampNeg x))) else none
  | _ => none
def m_pb (μ : mM) (a : Nat) (i x : Int32) : Option mM := match mF μ a with
  | some (.inl q) => if (q.1 = 1 ∨ q.1 = 2) ∧ m_ix i q.2.1 = true then some (m_set μ a (m_ia q.1 q.2.1 (upd q.2.2 i.toNatClampNeg (vp_nar (if q.1 = 1 then .boolean else .byte) x)))) else none
  | _ => none
def m_gr (μ : mM) (a : Nat) (i : Int32) : Option (Option Nat) := match mF μ a with
  | some (.inr (.inl q)) => if m_ix i q.2.1 = true then some (q.2.2 i.toNatClampNeg) else none
  | _ => none
def m_pr (μ : mM) (a : Nat) (i : Int32) (v : Nat) : Option mM := match mF μ a, mF μ v with
  | some (.inr (.inl q)), some (.inr (.inr o)) => if o.1 = q.1 ∧ m_ix i q.2.1 = true then some (m_set μ a (m_ra q.1 q.2.1 (va_up q.2.2 i.toNatClampNeg (some v)))) else none
  | _, _ => none
def m_ln (μ : mM) (a : Nat) : Option Nat := match mF μ a with
  | some (.inl q) => some q.2.1
  | some (.inr (.inl q)) => some q.2.1
  | _ => none
def m_oc (μ : mM) (a : Nat) : Option Nat := match mF μ a with
  | some (.inr (.inr q)) => some q.1
  | _ => none
-- shapes of the stack
def p_i (st : List Value) (k : Int32 → List Value → Option mX) : Option mX := match st with
  | .int x :: r => k x r
  | _ => none
def p_ii (st : List Value) (k : Int32 → Int32 → List Value → Option mX) : Option mX := match st with
  | .int y :: .int x :: r => k x y r
  | _ => none
def p_l (st : List Value) (k : Int64 → List Value → Option mX) : Option mX := match st with
  | .long x :: r => k x r
  | _ => none
def p_ll (st : List Value) (k : Int64 → Int64 → List Value → Option mX) : Option mX := match st with
  | .long y :: .long x :: r => k x y r
  | _ => none
def p_li (st : List Value) (k : Int64 → Int32 → List Value → Option mX) : Option mX := match st with
  | .int y :: .long x :: r => k x y r
  | _ => none
def p_r (st : List Value) (k : Nat → List Value → Option mX) : Option mX := match st with
  | .ref a :: r => k a r
  | _ => none
def p_vr (st : List Value) (k : Nat → Value → List Value → Option mX) : Option mX := match st with
  | v :: .ref a :: r => k a v r
  | _ => none
def p_ri (st : List Value) (k : Nat → Int32 → List Value → Option mX) : Option mX := match st with
  | .int i :: .ref a :: r => k a i r
  | _ => none
def p_rii (st : List Value) (k : Nat → Int32 → Int32 → List Value → Option mX) : Option mX := match st with
  | .int x :: .int i :: .ref a :: r => k a i x r
  | _ => none
def p_rir (st : List Value) (k : Nat → Int32 → Nat → List Value → Option mX) : Option mX := match st with
  | .ref v :: .int i :: .ref a :: r => k a i v r
  | _ => none
def x_to (pc : Nat) (off : Int) : Nat := ((pc : Int) + off).toNat
def x_br (pc : Nat) (off : Int) (L st : List Value) (μ : mM) (b : Prop) [Decidable b] : Option mX :=
  if 0 ≤ (pc : Int) + off then (if b then some (.inl (x_to pc off, L, st, μ)) else some (.inl (pc + 3, L, st, μ))) else none
def x_st (m i : Nat) (v : Value) (L : List Value) : List Value := if (m_LS m).contains (i - 1) && decide (0 < i) then (L.set i v).set (i - 1) m_d else L.set i v
def x_ist (m pc i : Nat) (L st : List Value) (μ : mM) : Option mX := p_i st fun x r => if i < L.length then some (.inl (pc, x_st m i (.int x) L, r, μ)) else none
def x_lst (m pc i : Nat) (L st : List Value) (μ : mM) : Option mX := p_l st fun x r => if i + 1 < L.length ∧ (m_LS m).contains i = true then some (.inl (pc, x_st m i (.long x) ((L.set (i + 1) m_d)), r, μ)) else none
def x_ast (m pc i : Nat) (L st : List Value) (μ : mM) : Option mX := match st with
  | .ref a :: r => if i < L.length then some (.inl (pc, x_st m i (.ref a) L, r, μ)) else none
  | .null :: r => if i < L.length then some (.inl (pc, x_st m i .null L, r, μ)) else none
  | _ => none
def x_ild (pc i : Nat) (L st : List Value) (μ : mM) : Option mX := match L[i]? with
  | some (.int x) => some (.inl (pc, L, .int x :: st, μ))
  | _ => none
def x_lld (pc i : Nat) (L st : List Value) (μ : mM) : Option mX := match L[i]? with
  | some (.long x) => some (.inl (pc, L, .long x :: st, μ))
  | _ => none
def x_ald (pc i : Nat) (L st : List Value) (μ : mM) : Option mX := match L[i]? with
  | some (.ref x) => some (.inl (pc, L, .ref x :: st, μ))
  | some .null => some (.inl (pc, L, .null :: st, μ))
  | some (.retAddr 0) => some (.inl (pc, L, .retAddr 0 :: st, μ))
  | _ => none
/-- a call: n arguments and, where it has one, the object -/
def m_room (m cal : Nat) : Bool := decide (m_fr cal + 1 ≤ m_fr m) && decide (8 + (m_maxL cal + 11) + m_lo cal ≤ m_lo m)
def m_isA (m : Nat) : Bool := match m_ret m with
  | some (.object _) => true
  | some (.array _) => true
  | _ => false
def m_rst (r : List Value) : Bool := decide (r.length ≤ 4) || (decide (r.length ≤ 8) && r.all (fun v => decide (v.category = 1)))
def x_call (m cal n : Nat) (st : List Value) : Option mX :=
  if n ≤ st.length ∧ m_rst (st.drop n) = true ∧ ((st.take n).reverse.map (fun v => v.category)) = m_wid cal ∧ m_room m cal = true then some (.inr (.inr (cal, (st.take n).reverse, st.drop n))) else none
def x_recv (μ : mM) (n : Nat) (st : List Value) : Option Nat := match st[n]? with
  | some (.ref a) => m_oc μ a
  | _ => none
def x_fin (c k : Nat) : Bool := (m_T c k).2.2.2
def x_nf (c : Nat) : List Value := (List.range (m_nf c)).map (fun k => defaultValue (m_ty c k))
def x_new (pc c : Nat) (L st : List Value) (μ : mM) : Option mX := some (.inl (pc + 3, L, .ref (mN μ) :: st, m_new μ (m_nf c) (m_ob c (x_nf c))))
def x_nok (n : Int32) : Bool := decide (0 ≤ n) && decide (n ≤ 100000)
def x_tag (t : ArrayType) : Option Nat := match t with
  | .int => some 0
  | .boolean => some 1
  | .byte => some 2
  | _ => none
/-- how long an instruction is -/
def x_ln (i : Instr) : Nat := match i with
  | .bipush _ => 2
  | .iload _ => 2
  | .lload _ => 2
  | .aload _ => 2
  | .istore _ => 2
  | .lstore _ => 2
  | .astore _ => 2
  | .newarray _ => 2
  | .sipush _ => 3
  | .ldc_w _ => 3
  | .ldc2_w _ => 3
  | .iinc _ _ => 3
  | .goto _ => 3
  | .ifCond _ _ => 3
  | .if_icmp _ _ => 3
  | .ifnull _ => 3
  | .ifnonnull _ => 3
  | .getfield _ => 3
  | .putfield _ => 3
  | .new _ => 3
  | .anewarray _ => 3
  | .invokestatic _ => 3
  | .invokevirtual _ => 3
  | .invokespecial _ => 3
  | _ => 1
def x_lok (i : Instr) (len : Nat) : Bool := match i with
  | .tableswitch _ _ _ _ => true
  | .lookupswitch _ _ => true
  | i => len == x_ln i
/-- one instruction -/
def m_e0 (m pc : Nat) (L st : List Value) (μ : mM) (i : Instr) : Option mX := match i with
  | .iconst n => some (.inl (pc + 1, L, .int (Int32.ofInt n) :: st, μ))
  | .bipush n => some (.inl (pc + 2, L, .int (Int8.ofInt n).toInt32 :: st, μ))
  | .sipush n => some (.inl (pc + 3, L, .int (Int16.ofInt n).toInt32 :: st, μ))
  | .lconst n => some (.inl (pc + 1, L, .long (Int64.ofNat (n : Nat)) :: st, μ))
  | .ldc_w i => (m_lkI (m_own m) i).map fun v => .inl (pc + 3, L, .int v :: st, μ)
  | .ldc2_w i => (m_lkJ (m_own m) i).map fun v => .inl (pc + 3, L, .long v :: st, μ)
  | .aconst_null => some (.inl (pc + 1, L, .null :: st, μ))
  | .iload i => x_ild (pc + 2) i L st μ
  | .iload_n i => x_ild (pc + 1) (i : Nat) L st μ
  | .lload i => x_lld (pc + 2) i L st μ
  | .lload_n i => x_lld (pc + 1) (i : Nat) L st μ
  | .aload i => x_ald (pc + 2) i L st μ
  | .aload_n i => x_ald (pc + 1) (i : Nat) L st μ
  | .istore i => x_ist m (pc + 2) i L st μ
  | .istore_n i => x_ist m (pc + 1) (i : Nat) L st μ
  | .lstore i => x_lst m (pc + 2) i L st μ
  | .lstore_n i => x_lst m (pc + 1) (i : Nat) L st μ
  | .astore i => x_ast m (pc + 2) i L st μ
  | .astore_n i => x_ast m (pc + 1) (i : Nat) L st μ
  | .iinc i n => match L[i]? with
    | some (.int x) => some (.inl (pc + 3, x_st m i (.int (x + Int32.ofInt n)) L, st, μ))
    | _ => none
  | .iadd => p_ii st fun x y r => some (.inl (pc + 1, L, .int (x + y) :: r, μ))
  | .isub => p_ii st fun x y r => some (.inl (pc + 1, L, .int (x - y) :: r, μ))
  | .imul => p_ii st fun x y r => some (.inl (pc + 1, L, .int (x * y) :: r, μ))
  | .iand => p_ii st fun x y r => some (.inl (pc + 1, L, .int (x &&& y) :: r, μ))
  | .ior => p_ii st fun x y r => some (.inl (pc + 1, L, .int (x ||| y) :: r, μ))
  | .ixor => p_ii st fun x y r => some (.inl (pc + 1, L, .int (x ^^^ y) :: r, μ))
  | .ishl => p_ii st fun x y r => some (.inl (pc + 1, L, .int (x <<< (y &&& 31)) :: r, μ))
  | .ishr => p_ii st fun x y r => some (.inl (pc + 1, L, .int (x >>> (y &&& 31)) :: r, μ))
  | .iushr => p_ii st fun x y r => some (.inl (pc + 1, L, .int (x.toUInt32 >>> (y.toUInt32 &&& Int32.toUInt32 31)).toInt32 :: r, μ))
  | .idiv => p_ii st fun x y r => if y = 0 then none else some (.inl (pc + 1, L, .int (x / y) :: r, μ))
  | .irem => p_ii st fun x y r => if y = 0 then none else some (.inl (pc + 1, L, .int (x - x / y * y) :: r, μ))
  | .ineg => p_i st fun x r => some (.inl (pc + 1, L, .int (-x) :: r, μ))
  | .ladd => p_ll st fun x y r => some (.inl (pc + 1, L, .long (x + y) :: r, μ))
  | .lmul => p_ll st fun x y r => some (.inl (pc + 1, L, .long (x * y) :: r, μ))
  | .land => p_ll st fun x y r => some (.inl (pc + 1, L, .long (x &&& y) :: r, μ))
  | .lor => p_ll st fun x y r => some (.inl (pc + 1, L, .long (x ||| y) :: r, μ))
  | .lcmp => p_ll st fun x y r => some (.inl (pc + 1, L, .int (lg_cmp x y) :: r, μ))
  | .lshl => p_li st fun x y r => some (.inl (pc + 1, L, .long (x <<< (y.toInt64 &&& 63)) :: r, μ))
  | .lushr => p_li st fun x y r => some (.inl (pc + 1, L, .long (x.toUInt64 >>> (y.toInt64.toUInt64 &&& Int64.toUInt64 63)).toInt64 :: r, μ))
  | .i2l => p_i st fun x r => some (.inl (pc + 1, L, .long x.toInt64 :: r, μ))
  | .l2i => p_l st fun x r => some (.inl (pc + 1, L, .int x.toInt32 :: r, μ))
  | .i2b => p_i st fun x r => some (.inl (pc + 1, L, .int x.toInt8.toInt32 :: r, μ))
  | .dup => match st with
    | .int x :: r => some (.inl (pc + 1, L, .int x :: .int x :: r, μ))
    | .ref x :: r => some (.inl (pc + 1, L, .ref x :: .ref x :: r, μ))
    | _ => none
  | .dup2 => p_ri st fun a i r => some (.inl (pc + 1, L, .int i :: .ref a :: .int i :: .ref a :: r, μ))
  | .goto off => if 0 ≤ (pc : Int) + off then some (.inl (x_to pc off, L, st, μ)) else none
  | .ifCond .eq off => p_i st fun x r => x_br pc off L r μ (x = 0)
  | .ifCond .ne off => p_i st fun x r => x_br pc off L r μ (¬ x = 0)
  | .ifCond .lt off => p_i st fun x r => x_br pc off L r μ (x < 0)
  | .ifCond .ge off => p_i st fun x r => x_br pc off L r μ (0 ≤ x)
  | .ifCond .gt off => p_i st fun x r => x_br pc off L r μ (0 < x)
  | .ifCond .le off => p_i st fun x r => x_br pc off L r μ (x ≤ 0)
  | .if_icmp .eq off => p_ii st fun x y r => x_br pc off L r μ (x = y)
  | .if_icmp .ne off => p_ii st fun x y r => x_br pc off L r μ (¬ x = y)
  | .if_icmp .lt off => p_ii st fun x y r => x_br pc off L r μ (x < y)
  | .if_icmp .ge off => p_ii st fun x y r => x_br pc off L r μ (y ≤ x)
  | .if_icmp .gt off => p_ii st fun x y r => x_br pc off L r μ (y < x)
  | .if_icmp .le off => p_ii st fun x y r => x_br pc off L r μ (x ≤ y)
  | .ifnull off => match st with
    | .ref _ :: r => some (.inl (pc + 3, L, r, μ))
    | .null :: r => if 0 ≤ (pc : Int) + off then some (.inl (x_to pc off, L, r, μ)) else none
    | _ => none
  | .ifnonnull off => match st with
    | .ref _ :: r => if 0 ≤ (pc : Int) + off then some (.inl (x_to pc off, L, r, μ)) else none
    | .null :: r => some (.inl (pc + 3, L, r, μ))
    | _ => none
  | .tableswitch d lo hi offs => p_i st fun x r =>
    if x.toInt < lo ∨ hi < x.toInt then (if 0 ≤ (pc : Int) + d then some (.inl (x_to pc d, L, r, μ)) else none)
    else (offs[(x.toInt - lo).toNat]?).bind fun off => if 0 ≤ (pc : Int) + off then some (.inl (x_to pc off, L, r, μ)) else none
  | .lookupswitch d ps => p_i st fun x r =>
    if (ps.toList.zip (ps.toList.drop 1)).all (fun (a, next) => a.1 < next.1) = true ∧ 0 ≤ (pc : Int) + Op.lookupswitch.offset ps.toList d x.toInt then some (.inl (x_to pc (Op.lookupswitch.offset ps.toList d x.toInt), L, r, μ)) else none
  | .getfield i => p_r st fun a r => (m_lkF (m_own m) i).bind fun q => (m_gf μ a q.1 q.2).map fun v => .inl (pc + 3, L, v :: r, μ)
  | .putfield i => p_vr st fun a v r => (m_lkF (m_own m) i).bind fun q => if x_fin q.1 q.2 = false ∨ ((m_nam m).name = "<init>" ∧ (m_T q.1 q.2).1 = (m_nam m).cls) then (m_pf μ a q.1 q.2 (m_ty q.1 q.2) v).map fun μ1 => .inl (pc + 3, L, r, μ1) else none
  | .iaload => match st with
    | .int i :: .ref a :: r => (m_ga μ a i).map fun x => .inl (pc + 1, L, .int x :: r, μ)
    | .int i :: .retAddr 0 :: r => (m_gs μ i).map fun x => .inl (pc + 1, L, .int x :: r, μ)
    | _ => none
  | .baload => p_ri st fun a i r => (m_gb μ a i).map fun x => .inl (pc + 1, L, .int x :: r, μ)
  | .aaload => p_ri st fun a i r => (m_gr μ a i).map fun x => .inl (pc + 1, L, va_rf x :: r, μ)
  | .iastore => p_rii st fun a i x r => (m_pa μ a i x).map fun μ1 => .inl (pc + 1, L, r, μ1)
  | .bastore => p_rii st fun a i x r => (m_pb μ a i x).map fun μ1 => .inl (pc + 1, L, r, μ1)
  | .aastore => p_rir st fun a i v r => (m_pr μ a i v).map fun μ1 => .inl (pc + 1, L, r, μ1)
  | .arraylength => match st with
    | .ref a :: r => (m_ln μ a).map fun n => .inl (pc + 1, L, .int (Int32.ofNat n) :: r, μ)
    | .retAddr 0 :: r => some (.inl (pc + 1, L, .int (Int32.ofNat μ.2.1.1) :: r, μ))
    | _ => none
  | .newarray t => p_i st fun n r => (x_tag t).bind fun k => if x_nok n = true then some (.inl (pc + 2, L, .ref (mN μ) :: r, m_new μ n.toNatClampNeg (m_ia k n.toNatClampNeg (fun _ => 0)))) else none
  | .anewarray i => p_i st fun n r => (m_lkC (m_own m) i).bind fun c => if x_nok n = true ∧ (c = 1 ∨ c = 3 ∨ c = 6) then some (.inl (pc + 3, L, .ref (mN μ) :: r, m_new μ n.toNatClampNeg (m_ra c n.toNatClampNeg (fun _ => none)))) else none
  | .new i => (m_lkC (m_own m) i).bind fun c => x_new pc c L st μ
  | .invokestatic i => (m_lkS (m_own m) i).bind fun q => if q.1 = m_mx then (p_ii st fun x y r => if r.length ≤ 4 ∧ 1 ≤ m_fr m ∧ 21 ≤ m_lo m then some (.inl (pc + 3, L, .int (if x < y then y else x) :: r, μ)) else none) else x_call m q.1 q.2 st
  | .invokevirtual i => (m_lkV (m_own m) i).bind fun q => (x_recv μ q.1 st).bind fun c => ((q.2.find? (fun z => z.1 == c)).bind fun z => x_call m z.2 (q.1 + 1) st)
  | .invokespecial i => (m_lkP (m_own m) i).bind fun q => match q with
    | none => p_r st fun _ r => if r.length ≤ 4 ∧ 1 ≤ m_fr m ∧ 20 ≤ m_lo m then some (.inl (pc + 3, L, r, μ)) else none
    | some z => match st[z.2]? with
      | some (.ref _) => x_call m z.1 (z.2 + 1) st
      | _ => none
  | .ireturn => match st with
    | [.int x] => if m_ret m = some .int ∨ (m_ret m = some .boolean ∧ x &&& 1 = x) then some (.inr (.inl (some (.int x)))) else none
    | _ => none
  | .lreturn => match st with
    | [.long x] => if m_ret m = some .long then some (.inr (.inl (some (.long x)))) else none
    | _ => none
  | .areturn => match st with
    | [.ref x] => if m_isA m = true then some (.inr (.inl (some (.ref x)))) else none
    | [.null] => if m_isA m = true then some (.inr (.inl (some .null))) else none
    | _ => none
  | .return_ => if st = [] ∧ m_ret m = none then some (.inr (.inl none)) else none
  | _ => none

def m_ex (m pc len : Nat) (L st : List Value) (μ : mM) (i : Instr) : Option mX := if x_lok i len = true then m_e0 m pc L st μ i else none
-- a run
def m_spread : List Value → List Value
  | [] => []
  | v :: r => if v.category = 2 then v :: m_d :: m_spread r else v :: m_spread r
def m_pad (m : Nat) (args : List Value) : List Value := m_spread args ++ List.replicate (m_maxL m - (m_spread args).length) m_d
def m_copy (args : List Value) (μ : mM) : mO := match args with
  | [.ref a, .int n] => match mF μ a with
    | some (.inl q) => if q.1 = 0 ∧ q.2.1 ≤ 100000 ∧ x_nok n = true then some (some (.ref (mN μ)), m_new μ n.toNatClampNeg (m_ia 0 n.toNatClampNeg (fun j => if j < q.2.1 then q.2.2 j else 0))) else none
    | _ => none
  | _ => none
def m_run : Nat → Nat → Nat → List Value → List Value → mM → mO
  | 0, _, _, _, _, _ => none
  | n + 1, m, pc, L, st, μ => match decode (m_code m) pc with
    | .error _ => none
    | .ok (i, len) => match m_ex m pc len L st μ i with
      | none => none
      | some (.inl c) => m_run n m c.1 c.2.1 c.2.2.1 c.2.2.2
      | some (.inr (.inl r)) => some (r, μ)
      | some (.inr (.inr q)) => (if q.1 = m_cp then m_copy q.2.1 μ else m_run n q.1 0 (m_pad q.1 q.2.1) [] μ).bind fun w => m_run n m (pc + 3) L (w.1.toList ++ q.2.2) w.2
theorem m_run_mono : ∀ (n m pc : Nat) (L st : List Value) (μ : mM) (r : Option Value × mM), m_run n m pc L st μ = some r → m_run (n + 1) m pc L st μ = some r := by
  intro n
  induction n with
  | zero => intro m pc L st μ r h; exact absurd h (by simp [m_run])
  | succ n ih =>
    intro m pc L st μ r h
    unfold m_run at h ⊢
    split at h
    · exact h
    · rename_i i len hd
      split at h
      · exact absurd h (by simp)
      · exact ih _ _ _ _ _ _ h
      · exact h
      · rename_i q hq
        by_cases hc : q.1 = m_cp
        · rw [if_pos hc] at h ⊢
          cases hm : m_copy q.2.1 μ with
          | none => rw [hm] at h; exact absurd h (by simp)
          | some w => rw [hm] at h; exact ih _ _ _ _ _ _ h
        · rw [if_neg hc] at h ⊢
          cases hm : m_run n q.1 0 (m_pad q.1 q.2.1) [] μ with
          | none => rw [hm] at h; exact absurd h (by simp)
          | some w =>
            rw [hm] at h
            rw [ih _ _ _ _ _ _ hm]
            exact ih _ _ _ _ _ _ h
theorem m_run_le {n k m pc : Nat} {L st : List Value} {μ : mM} {r : Option Value × mM} (h : m_run n m pc L st μ = some r) (hk : n ≤ k) : m_run k m pc L st μ = some r := by
  induction k with
  | zero => rw [Nat.le_zero.mp hk] at h; exact h
  | succ k ih =>
    rcases Nat.lt_or_ge n (k + 1) with q | q
    · exact m_run_mono _ _ _ _ _ _ _ (ih (by omega))
    · rw [← Nat.le_antisymm hk q]; exact h
/-- what a method comes to from a place -/
noncomputable def m_G (m pc : Nat) (L st : List Value) (μ : mM) : mO := @dite _ (∃ r, ∃ n, m_run n m pc L st μ = some r) (Classical.propDecidable _) (fun h => some (Classical.choose h)) (fun _ => none)
theorem m_G_iff {m pc : Nat} {L st : List Value} {μ : mM} {r : Option Value × mM} : m_G m pc L st μ = some r ↔ ∃ n, m_run n m pc L st μ = some r := by
  unfold m_G
  constructor
  · intro h
    split at h
    · rename_i q
      rw [← Option.some.inj h]
      exact Classical.choose_spec q
    · exact absurd h (by simp)
  · rintro ⟨n, hn⟩
    have q : ∃ r, ∃ n, m_run n m pc L st μ = some r := ⟨r, n, hn⟩
    rw [dif_pos q]
    obtain ⟨k, hk⟩ := Classical.choose_spec q
    have h1 := m_run_le hk (Nat.le_max_left k n)
    have h2 := m_run_le hn (Nat.le_max_right k n)
    rw [h1] at h2
    exact h2
/-- what a call comes to -/
noncomputable def m_D (m : Nat) (args : List Value) (μ : mM) : mO := if m = m_cp then m_copy args μ else m_G m 0 (m_pad m args) [] μ
theorem m_ext {a b : mO} (h : ∀ r, a = some r ↔ b = some r) : a = b := Option.ext h
theorem G_go {m pc len : Nat} {L st : List Value} {μ : mM} {i : Instr} {c : Nat × List Value × List Value × mM} (hd : decode (m_code m) pc = .ok (i, len)) (hx : m_ex m pc len L st μ i = some (.inl c)) : m_G m pc L st μ = m_G m c.1 c.2.1 c.2.2.1 c.2.2.2 := by
  refine m_ext fun r => ?_
  rw [m_G_iff, m_G_iff]
  constructor
  · rintro ⟨n, hn⟩
    cases n with
    | zero => exact absurd hn (by simp [m_run])
    | succ n => refine ⟨n, ?_⟩; unfold m_run at hn; simpa only [hd, hx] using hn
  · rintro ⟨n, hn⟩
    refine ⟨n + 1, ?_⟩
    unfold m_run
    simpa only [hd, hx] using hn
theorem G_no {m pc len : Nat} {L st : List Value} {μ : mM} {i : Instr} (hd : decode (m_code m) pc = .ok (i, len)) (hx : m_ex m pc len L st μ i = none) : m_G m pc L st μ = none := by
  refine m_ext fun r => ?_
  rw [m_G_iff]
  constructor
  · rintro ⟨n, hn⟩
    cases n with
    | zero => exact absurd hn (by simp [m_run])
    | succ n => unfold m_run at hn; simp only [hd, hx] at hn; exact absurd hn (by simp)
  · intro h; exact absurd h (by simp)
theorem G_ret {m pc len : Nat} {L st : List Value} {μ : mM} {i : Instr} {v : Option Value} (hd : decode (m_code m) pc = .ok (i, len)) (hx : m_ex m pc len L st μ i = some (.inr (.inl v))) : m_G m pc L st μ = some (v, μ) := by
  rw [m_G_iff]
  refine ⟨1, ?_⟩
  unfold m_run
  simp only [hd, hx]
theorem G_call {m pc len : Nat} {L st : List Value} {μ : mM} {i : Instr} {q : Nat × List Value × List Value} (hd : decode (m_code m) pc = .ok (i, len)) (hx : m_ex m pc len L st μ i = some (.inr (.inr q))) : m_G m pc L st μ = (m_D q.1 q.2.1 μ).bind fun w => m_G m (pc + 3) L (w.1.toList ++ q.2.2) w.2 := by
  refine m_ext fun r => ?_
  rw [m_G_iff]
  constructor
  · rintro ⟨n, hn⟩
    cases n with
    | zero => exact absurd hn (by simp [m_run])
    | succ n =>
      unfold m_run at hn
      simp only [hd, hx] at hn
      unfold m_D
      by_cases hc : q.1 = m_cp
      · rw [if_pos hc] at hn ⊢
        cases hm : m_copy q.2.1 μ with
        | none => rw [hm] at hn; exact absurd hn (by simp)
        | some w => rw [hm] at hn; exact m_G_iff.mpr ⟨n, hn⟩
      · rw [if_neg hc] at hn ⊢
        cases hm : m_run n q.1 0 (m_pad q.1 q.2.1) [] μ with
        | none => rw [hm] at hn; exact absurd hn (by simp)
        | some w =>
          rw [hm] at hn
          rw [m_G_iff.mpr ⟨n, hm⟩]
          exact m_G_iff.mpr ⟨n, hn⟩
  · intro h
    unfold m_D at h
    by_cases hc : q.1 = m_cp
    · rw [if_pos hc] at h
      cases hm : m_copy q.2.1 μ with
      | none => rw [hm] at h; exact absurd h (by simp)
      | some w =>
        rw [hm] at h
        obtain ⟨n, hn⟩ := m_G_iff.mp h
        refine ⟨n + 1, ?_⟩
        unfold m_run
        simp only [hd, hx]
        rw [if_pos hc, hm]
        exact hn
    · rw [if_neg hc] at h
      cases hm : m_G q.1 0 (m_pad q.1 q.2.1) [] μ with
      | none => rw [hm] at h; exact absurd h (by simp)
      | some w =>
        rw [hm] at h
        obtain ⟨n, hn⟩ := m_G_iff.mp h
        obtain ⟨k, hk⟩ := m_G_iff.mp hm
        refine ⟨max n k + 1, ?_⟩
        unfold m_run
        simp only [hd, hx]
        rw [if_neg hc, m_run_le hk (Nat.le_max_right n k)]
        exact m_run_le hn (Nat.le_max_left n k)
