section i_24_id
variable {v0 v1 v2 v3 v4 v5 v6 v7 v8 v9 v10 v11 v12 v13 v14 v15 v16 v17 v18 v19 w0 w1 w2 w3 w4 w5 : Value} {x0 x1 x2 x3 x4 x5 x6 : Int32} {l0 l1 l2 l3 : Int64} {a0 a1 a2 a3 a4 a5 a6 : Nat} {st L : List Value} {μ : mM}
theorem i169_0 : m_G 169 0 [.int x0] st μ = m_G 169 1 [.int x0] (.int x0 :: st) μ := g_iload_n (i := 0) (by decide +kernel) rfl
theorem i169_1 : m_G 169 1 [.int x0] st μ = m_G 169 2 [.int x0] (.int x0 :: st) μ := g_iload_n (i := 0) (by decide +kernel) rfl
theorem i169_2 : m_G 169 2 L st μ = m_G 169 3 L (.int 1 :: st) μ := g_iconst (n := 1) (by decide +kernel) (by decide)
theorem i169_3 : m_G 169 3 L (.int x1 :: .int x0 :: st) μ = m_G 169 4 L (.int (x0.toUInt32 >>> (x1.toUInt32 &&& Int32.toUInt32 31)).toInt32 :: st) μ := g_iushr (by decide +kernel)
theorem i169_4 : m_G 169 4 L st μ = m_G 169 7 L (.int (1431655765) :: st) μ := g_ldc_w (i := 265) (by decide +kernel) (by decide +kernel)
theorem i169_7 : m_G 169 7 L (.int x1 :: .int x0 :: st) μ = m_G 169 8 L (.int (x0 &&& x1) :: st) μ := g_iand (by decide +kernel)
theorem i169_8 : m_G 169 8 L (.int x1 :: .int x0 :: st) μ = m_G 169 9 L (.int (x0 - x1) :: st) μ := g_isub (by decide +kernel)
theorem i169_9 : m_G 169 9 [v0] (.int x0 :: st) μ = m_G 169 10 [.int x0] st μ := g_istore_n (i := 0) (by decide +kernel) (Nat.le_of_ble_eq_true rfl) rfl
theorem i169_10 : m_G 169 10 [.int x0] st μ = m_G 169 11 [.int x0] (.int x0 :: st) μ := g_iload_n (i := 0) (by decide +kernel) rfl
theorem i169_11 : m_G 169 11 L st μ = m_G 169 14 L (.int (858993459) :: st) μ := g_ldc_w (i := 266) (by decide +kernel) (by decide +kernel)
theorem i169_14 : m_G 169 14 L (.int x1 :: .int x0 :: st) μ = m_G 169 15 L (.int (x0 &&& x1) :: st) μ := g_iand (by decide +kernel)
theorem i169_15 : m_G 169 15 [.int x0] st μ = m_G 169 16 [.int x0] (.int x0 :: st) μ := g_iload_n (i := 0) (by decide +kernel) rfl
theorem i169_16 : m_G 169 16 L st μ = m_G 169 17 L (.int 2 :: st) μ := g_iconst (n := 2) (by decide +kernel) (by decide)
theorem i169_17 : m_G 169 17 L (.int x1 :: .int x0 :: st) μ = m_G 169 18 L (.int (x0.toUInt32 >>> (x1.toUInt32 &&& Int32.toUInt32 31)).toInt32 :: st) μ := g_iushr (by decide +kernel)
theorem i169_18 : m_G 169 18 L st μ = m_G 169 21 L (.int (858993459) :: st) μ := g_ldc_w (i := 266) (by decide +kernel) (by decide +kernel)
theorem i169_21 : m_G 169 21 L (.int x1 :: .int x0 :: st) μ = m_G 169 22 L (.int (x0 &&& x1) :: st) μ := g_iand (by decide +kernel)
theorem i169_22 : m_G 169 22 L (.int x1 :: .int x0 :: st) μ = m_G 169 23 L (.int (x0 + x1) :: st) μ := g_iadd (by decide +kernel)
theorem i169_23 : m_G 169 23 [v0] (.int x0 :: st) μ = m_G 169 24 [.int x0] st μ := g_istore_n (i := 0) (by decide +kernel) (Nat.le_of_ble_eq_true rfl) rfl
theorem i169_24 : m_G 169 24 [.int x0] st μ = m_G 169 25 [.int x0] (.int x0 :: st) μ := g_iload_n (i := 0) (by decide +kernel) rfl
theorem i169_25 : m_G 169 25 [.int x0] st μ = m_G 169 26 [.int x0] (.int x0 :: st) μ := g_iload_n (i := 0) (by decide +kernel) rfl
theorem i169_26 : m_G 169 26 L st μ = m_G 169 27 L (.int 4 :: st) μ := g_iconst (n := 4) (by decide +kernel) (by decide)
theorem i169_27 : m_G 169 27 L (.int x1 :: .int x0 :: st) μ = m_G 169 28 L (.int (x0.toUInt32 >>> (x1.toUInt32 &&& Int32.toUInt32 31)).toInt32 :: st) μ := g_iushr (by decide +kernel)
theorem i169_28 : m_G 169 28 L (.int x1 :: .int x0 :: st) μ = m_G 169 29 L (.int (x0 + x1) :: st) μ := g_iadd (by decide +kernel)
theorem i169_29 : m_G 169 29 L st μ = m_G 169 32 L (.int (252645135) :: st) μ := g_ldc_w (i := 267) (by decide +kernel) (by decide +kernel)
theorem i169_32 : m_G 169 32 L (.int x1 :: .int x0 :: st) μ = m_G 169 33 L (.int (x0 &&& x1) :: st) μ := g_iand (by decide +kernel)
theorem i169_33 : m_G 169 33 [v0] (.int x0 :: st) μ = m_G 169 34 [.int x0] st μ := g_istore_n (i := 0) (by decide +kernel) (Nat.le_of_ble_eq_true rfl) rfl
theorem i169_34 : m_G 169 34 [.int x0] st μ = m_G 169 35 [.int x0] (.int x0 :: st) μ := g_iload_n (i := 0) (by decide +kernel) rfl
theorem i169_35 : m_G 169 35 [.int x0] st μ = m_G 169 36 [.int x0] (.int x0 :: st) μ := g_iload_n (i := 0) (by decide +kernel) rfl
theorem i169_36 : m_G 169 36 L st μ = m_G 169 38 L (.int 8 :: st) μ := g_bipush (n := 8) (by decide +kernel) (by decide)
theorem i169_38 : m_G 169 38 L (.int x1 :: .int x0 :: st) μ = m_G 169 39 L (.int (x0.toUInt32 >>> (x1.toUInt32 &&& Int32.toUInt32 31)).toInt32 :: st) μ := g_iushr (by decide +kernel)
theorem i169_39 : m_G 169 39 L (.int x1 :: .int x0 :: st) μ = m_G 169 40 L (.int (x0 + x1) :: st) μ := g_iadd (by decide +kernel)
theorem i169_40 : m_G 169 40 [v0] (.int x0 :: st) μ = m_G 169 41 [.int x0] st μ := g_istore_n (i := 0) (by decide +kernel) (Nat.le_of_ble_eq_true rfl) rfl
theorem i169_41 : m_G 169 41 [.int x0] st μ = m_G 169 42 [.int x0] (.int x0 :: st) μ := g_iload_n (i := 0) (by decide +kernel) rfl
theorem i169_42 : m_G 169 42 [.int x0] st μ = m_G 169 43 [.int x0] (.int x0 :: st) μ := g_iload_n (i := 0) (by decide +kernel) rfl
theorem i169_43 : m_G 169 43 L st μ = m_G 169 45 L (.int 16 :: st) μ := g_bipush (n := 16) (by decide +kernel) (by decide)
theorem i169_45 : m_G 169 45 L (.int x1 :: .int x0 :: st) μ = m_G 169 46 L (.int (x0.toUInt32 >>> (x1.toUInt32 &&& Int32.toUInt32 31)).toInt32 :: st) μ := g_iushr (by decide +kernel)
theorem i169_46 : m_G 169 46 L (.int x1 :: .int x0 :: st) μ = m_G 169 47 L (.int (x0 + x1) :: st) μ := g_iadd (by decide +kernel)
theorem i169_47 : m_G 169 47 [v0] (.int x0 :: st) μ = m_G 169 48 [.int x0] st μ := g_istore_n (i := 0) (by decide +kernel) (Nat.le_of_ble_eq_true rfl) rfl
theorem i169_48 : m_G 169 48 [.int x0] st μ = m_G 169 49 [.int x0] (.int x0 :: st) μ := g_iload_n (i := 0) (by decide +kernel) rfl
theorem i169_49 : m_G 169 49 L st μ = m_G 169 51 L (.int 63 :: st) μ := g_bipush (n := 63) (by decide +kernel) (by decide)
theorem i169_51 : m_G 169 51 L (.int x1 :: .int x0 :: st) μ = m_G 169 52 L (.int (x0 &&& x1) :: st) μ := g_iand (by decide +kernel)
theorem i169_52 : m_G 169 52 L [.int x0] μ = some (some (.int x0), μ) := g_ireti (by decide +kernel) (by decide)
theorem D169 : m_D 169 [.int x0] μ = m_G 169 0 [.int x0] [] μ := d_def (by decide) rfl
theorem i172_0 : m_G 172 0 L st μ = m_G 172 1 L (.int 0 :: st) μ := g_iconst (n := 0) (by decide +kernel) (by decide)
theorem i172_1 : m_G 172 1 [v0, v1, v2, v3] (.int x0 :: st) μ = m_G 172 2 [v0, v1, .int x0, v3] st μ := g_istore_n (i := 2) (by decide +kernel) (Nat.le_of_ble_eq_true rfl) rfl
theorem i172_2 : m_G 172 2 [.ref a0, v1, v2, v3] st μ = m_G 172 3 [.ref a0, v1, v2, v3] (.ref a0 :: st) μ := g_aload_n (i := 0) (by decide +kernel) rfl
theorem i172_3 : m_G 172 3 L (.ref a0 :: st) μ = b_n (m_ln μ a0) 172 4 L st μ := g_alen (by decide +kernel)
theorem i172_4 : m_G 172 4 [v0, v1, v2, v3] (.int x0 :: st) μ = m_G 172 5 [v0, v1, v2, .int x0] st μ := g_istore_n (i := 3) (by decide +kernel) (Nat.le_of_ble_eq_true rfl) rfl
theorem i172_5 : m_G 172 5 [v0, v1, .int x0, v3] st μ = m_G 172 6 [v0, v1, .int x0, v3] (.int x0 :: st) μ := g_iload_n (i := 2) (by decide +kernel) rfl
theorem i172_6 : m_G 172 6 [v0, v1, v2, .int x0] st μ = m_G 172 7 [v0, v1, v2, .int x0] (.int x0 :: st) μ := g_iload_n (i := 3) (by decide +kernel) rfl
theorem i172_7 : m_G 172 7 L (.int x1 :: .int x0 :: st) μ = if x0 < x1 then m_G 172 10 L st μ else m_G 172 20 L st μ := g_cmpge (off := 13) (by decide +kernel) (by decide)
theorem i172_10 : m_G 172 10 [.ref a0, v1, v2, v3] st μ = m_G 172 11 [.ref a0, v1, v2, v3] (.ref a0 :: st) μ := g_aload_n (i := 0) (by decide +kernel) rfl
theorem i172_11 : m_G 172 11 [v0, v1, .int x0, v3] st μ = m_G 172 12 [v0, v1, .int x0, v3] (.int x0 :: st) μ := g_iload_n (i := 2) (by decide +kernel) rfl
theorem i172_12 : m_G 172 12 [v0, .int x0, v2, v3] st μ = m_G 172 13 [v0, .int x0, v2, v3] (.int x0 :: st) μ := g_iload_n (i := 1) (by decide +kernel) rfl
theorem i172_13 : m_G 172 13 L (.int x1 :: .int x0 :: .ref a0 :: st) μ = b_m (m_pa μ a0 x0 x1) 172 14 L st := g_iast (by decide +kernel)
theorem i172_14 : m_G 172 14 [v0, v1, .int x0, v3] st μ = m_G 172 17 [v0, v1, .int (x0 + 1), v3] st μ := g_iinc (i := 2) (n := 1) (by decide +kernel) rfl (by decide) rfl
theorem i172_17 : m_G 172 17 L st μ = m_G 172 5 L st μ := g_goto (off := -12) (by decide +kernel) (by decide)
theorem i172_20 : m_G 172 20 L [] μ = some (none, μ) := g_ret (by decide +kernel) (by decide)
theorem D172 : m_D 172 [.ref a1, .int x1] μ = m_G 172 0 [.ref a1, .int x1, m_d, m_d] [] μ := d_def (by decide) rfl
theorem i174_0 : m_G 174 0 L st μ = m_G 174 3 L (.ref (mN μ) :: st) (m_new μ 15 (m_ob 8 [.null, .int 0, .null, .int 0, .null, .int 0, .null, .int 0, .null, .null, .null, .int 0, .null, .null, .null])) := g_new (i := 7) (by decide +kernel) (by decide +kernel) rfl (by decide +kernel)
theorem i174_3 : m_G 174 3 L (.ref a0 :: st) μ = m_G 174 4 L (.ref a0 :: .ref a0 :: st) μ := g_dupr (by decide +kernel)
theorem i174_3I : m_G 174 3 L (.int x0 :: st) μ = m_G 174 4 L (.int x0 :: .int x0 :: st) μ := g_dupi (by decide +kernel)
theorem i174_4 : m_G 174 4 L (.ref a0 :: [w0]) μ = b_c (m_D 57 [.ref a0] μ) 174 7 L [w0] := g_spec (i := 9) (n := 0) (a := a0) (by decide +kernel) (by decide +kernel) rfl (x_call_ok (ws := [1]) (Nat.le_of_ble_eq_true rfl) rfl (by decide +kernel) rfl (by decide +kernel) rfl rfl)
theorem i174_7 : m_G 174 7 [v0, v1, v2, v3] (.ref a0 :: st) μ = m_G 174 8 [v0, .ref a0, v2, v3] st μ := g_astore_n (i := 1) (by decide +kernel) (Nat.le_of_ble_eq_true rfl) rfl
theorem i174_8 : m_G 174 8 L st μ = m_G 174 11 L (.ref (mN μ) :: st) (m_new μ 38 (m_ob 9 [.int 0, .null, .null, .null, .null, .null, .null, .null, .int 0, .int 0, .int 0, .null, .null, .null, .int 0, .null, .int 0, .int 0, .null, .null, .null, .null, .null, .int 0, .null, .null, .null, .int 0, .null, .null, .null, .null, .null, .null, .null, .null, .null, .long 0])) := g_new (i := 10) (by decide +kernel) (by decide +kernel) rfl (by decide +kernel)
theorem i174_11 : m_G 174 11 L (.ref a0 :: st) μ = m_G 174 12 L (.ref a0 :: .ref a0 :: st) μ := g_dupr (by decide +kernel)
theorem i174_11I : m_G 174 11 L (.int x0 :: st) μ = m_G 174 12 L (.int x0 :: .int x0 :: st) μ := g_dupi (by decide +kernel)
theorem i174_12 : m_G 174 12 L (.ref a0 :: [w0]) μ = b_c (m_D 101 [.ref a0] μ) 174 15 L [w0] := g_spec (i := 12) (n := 0) (a := a0) (by decide +kernel) (by decide +kernel) rfl (x_call_ok (ws := [1]) (Nat.le_of_ble_eq_true rfl) rfl (by decide +kernel) rfl (by decide +kernel) rfl rfl)
theorem i174_15 : m_G 174 15 [v0, v1, v2, v3] (.ref a0 :: st) μ = m_G 174 16 [v0, v1, .ref a0, v3] st μ := g_astore_n (i := 2) (by decide +kernel) (Nat.le_of_ble_eq_true rfl) rfl
theorem i174_16 : m_G 174 16 L st μ = m_G 174 17 L (.int 0 :: st) μ := g_iconst (n := 0) (by decide +kernel) (by decide)
theorem i174_17 : m_G 174 17 [v0, v1, v2, v3] (.int x0 :: st) μ = m_G 174 18 [v0, v1, v2, .int x0] st μ := g_istore_n (i := 3) (by decide +kernel) (Nat.le_of_ble_eq_true rfl) rfl
theorem i174_18 : m_G 174 18 [v0, v1, v2, .int x0] st μ = m_G 174 19 [v0, v1, v2, .int x0] (.int x0 :: st) μ := g_iload_n (i := 3) (by decide +kernel) rfl
theorem i174_19 : m_G 174 19 [.retAddr 0, v1, v2, v3] st μ = m_G 174 20 [.retAddr 0, v1, v2, v3] (.retAddr 0 :: st) μ := g_aload_nS (i := 0) (by decide +kernel) rfl
theorem i174_20 : m_G 174 20 L (.retAddr 0 :: st) μ = m_G 174 21 L (.int (Int32.ofNat μ.2.1.1) :: st) μ := g_slen (by decide +kernel)
theorem i174_21 : m_G 174 21 L st μ = m_G 174 23 L (.int 7 :: st) μ := g_bipush (n := 7) (by decide +kernel) (by decide)
theorem i174_23 : m_G 174 23 L (.int x1 :: .int x0 :: st) μ = m_G 174 24 L (.int (x0 - x1) :: st) μ := g_isub (by decide +kernel)
theorem i174_24 : m_G 174 24 L (.int x1 :: .int x0 :: st) μ = if x1 < x0 then m_G 174 1075 L st μ else m_G 174 27 L st μ := g_cmpgt (off := 1051) (by decide +kernel) (by decide)
theorem i174_27 : m_G 174 27 [.retAddr 0, v1, v2, v3] st μ = m_G 174 28 [.retAddr 0, v1, v2, v3] (.retAddr 0 :: st) μ := g_aload_nS (i := 0) (by decide +kernel) rfl
theorem i174_28 : m_G 174 28 [v0, v1, v2, .int x0] st μ = m_G 174 29 [v0, v1, v2, .int x0] (.int x0 :: st) μ := g_iload_n (i := 3) (by decide +kernel) rfl
theorem i174_29 : m_G 174 29 L (.int x0 :: .retAddr 0 :: st) μ = b_i (m_gs μ x0) 174 30 L st μ := g_sald (by decide +kernel)
theorem i174_30 : m_G 174 30 L st μ = m_G 174 32 L (.int 31 :: st) μ := g_bipush (n := 31) (by decide +kernel) (by decide)
theorem i174_32 : m_G 174 32 L (.int x1 :: .int x0 :: st) μ = m_G 174 33 L (.int (x0 &&& x1) :: st) μ := g_iand (by decide +kernel)
theorem i174_33_0 : m_G 174 33 L (.int 0 :: st) μ = m_G 174 152 L st μ := g_tab (dd := 1036) (lo := 0) (hi := 25) (offs := #[119, 172, 185, 208, 221, 244, 277, 320, 353, 396, 439, 482, 531, 554, 587, 620, 643, 686, 729, 762, 815, 848, 871, 946, 999, 1022]) (len := 119) (off := 119) (by decide +kernel) (by decide) (by decide) (by decide)
theorem i174_33_1 : m_G 174 33 L (.int 1 :: st) μ = m_G 174 205 L st μ := g_tab (dd := 1036) (lo := 0) (hi := 25) (offs := #[119, 172, 185, 208, 221, 244, 277, 320, 353, 396, 439, 482, 531, 554, 587, 620, 643, 686, 729, 762, 815, 848, 871, 946, 999, 1022]) (len := 119) (off := 172) (by decide +kernel) (by decide) (by decide) (by decide)
theorem i174_33_2 : m_G 174 33 L (.int 2 :: st) μ = m_G 174 218 L st μ := g_tab (dd := 1036) (lo := 0) (hi := 25) (offs := #[119, 172, 185, 208, 221, 244, 277, 320, 353, 396, 439, 482, 531, 554, 587, 620, 643, 686, 729, 762, 815, 848, 871, 946, 999, 1022]) (len := 119) (off := 185) (by decide +kernel) (by decide) (by decide) (by decide)
theorem i174_33_3 : m_G 174 33 L (.int 3 :: st) μ = m_G 174 241 L st μ := g_tab (dd := 1036) (lo := 0) (hi := 25) (offs := #[119, 172, 185, 208, 221, 244, 277, 320, 353, 396, 439, 482, 531, 554, 587, 620, 643, 686, 729, 762, 815, 848, 871, 946, 999, 1022]) (len := 119) (off := 208) (by decide +kernel) (by decide) (by decide) (by decide)
theorem i174_33_4 : m_G 174 33 L (.int 4 :: st) μ = m_G 174 254 L st μ := g_tab (dd := 1036) (lo := 0) (hi := 25) (offs := #[119, 172, 185, 208, 221, 244, 277, 320, 353, 396, 439, 482, 531, 554, 587, 620, 643, 686, 729, 762, 815, 848, 871, 946, 999, 1022]) (len := 119) (off := 221) (by decide +kernel) (by decide) (by decide) (by decide)
theorem i174_33_5 : m_G 174 33 L (.int 5 :: st) μ = m_G 174 277 L st μ := g_tab (dd := 1036) (lo := 0) (hi := 25) (offs := #[119, 172, 185, 208, 221, 244, 277, 320, 353, 396, 439, 482, 531, 554, 587, 620, 643, 686, 729, 762, 815, 848, 871, 946, 999, 1022]) (len := 119) (off := 244) (by decide +kernel) (by decide) (by decide) (by decide)
theorem i174_33_6 : m_G 174 33 L (.int 6 :: st) μ = m_G 174 310 L st μ := g_tab (dd := 1036) (lo := 0) (hi := 25) (offs := #[119, 172, 185, 208, 221, 244, 277, 320, 353, 396, 439, 482, 531, 554, 587, 620, 643, 686, 729, 762, 815, 848, 871, 946, 999, 1022]) (len := 119) (off := 277) (by decide +kernel) (by decide) (by decide) (by decide)
theorem i174_33_7 : m_G 174 33 L (.int 7 :: st) μ = m_G 174 353 L st μ := g_tab (dd := 1036) (lo := 0) (hi := 25) (offs := #[119, 172, 185, 208, 221, 244, 277, 320, 353, 396, 439, 482, 531, 554, 587, 620, 643, 686, 729, 762, 815, 848, 871, 946, 999, 1022]) (len := 119) (off := 320) (by decide +kernel) (by decide) (by decide) (by decide)
theorem i174_33_8 : m_G 174 33 L (.int 8 :: st) μ = m_G 174 386 L st μ := g_tab (dd := 1036) (lo := 0) (hi := 25) (offs := #[119, 172, 185, 208, 221, 244, 277, 320, 353, 396, 439, 482, 531, 554, 587, 620, 643, 686, 729, 762, 815, 848, 871, 946, 999, 1022]) (len := 119) (off := 353) (by decide +kernel) (by decide) (by decide) (by decide)
theorem i174_33_9 : m_G 174 33 L (.int 9 :: st) μ = m_G 174 429 L st μ := g_tab (dd := 1036) (lo := 0) (hi := 25) (offs := #[119, 172, 185, 208, 221, 244, 277, 320, 353, 396, 439, 482, 531, 554, 587, 620, 643, 686, 729, 762, 815, 848, 871, 946, 999, 1022]) (len := 119) (off := 396) (by decide +kernel) (by decide) (by decide) (by decide)
theorem i174_33_10 : m_G 174 33 L (.int 10 :: st) μ = m_G 174 472 L st μ := g_tab (dd := 1036) (lo := 0) (hi := 25) (offs := #[119, 172, 185, 208, 221, 244, 277, 320, 353, 396, 439, 482, 531, 554, 587, 620, 643, 686, 729, 762, 815, 848, 871, 946, 999, 1022]) (len := 119) (off := 439) (by decide +kernel) (by decide) (by decide) (by decide)
theorem i174_33_11 : m_G 174 33 L (.int 11 :: st) μ = m_G 174 515 L st μ := g_tab (dd := 1036) (lo := 0) (hi := 25) (offs := #[119, 172, 185, 208, 221, 244, 277, 320, 353, 396, 439, 482, 531, 554, 587, 620, 643, 686, 729, 762, 815, 848, 871, 946, 999, 1022]) (len := 119) (off := 482) (by decide +kernel) (by decide) (by decide) (by decide)
theorem i174_33_12 : m_G 174 33 L (.int 12 :: st) μ = m_G 174 564 L st μ := g_tab (dd := 1036) (lo := 0) (hi := 25) (offs := #[119, 172, 185, 208, 221, 244, 277, 320, 353, 396, 439, 482, 531, 554, 587, 620, 643, 686, 729, 762, 815, 848, 871, 946, 999, 1022]) (len := 119) (off := 531) (by decide +kernel) (by decide) (by decide) (by decide)
theorem i174_33_13 : m_G 174 33 L (.int 13 :: st) μ = m_G 174 587 L st μ := g_tab (dd := 1036) (lo := 0) (hi := 25) (offs := #[119, 172, 185, 208, 221, 244, 277, 320, 353, 396, 439, 482, 531, 554, 587, 620, 643, 686, 729, 762, 815, 848, 871, 946, 999, 1022]) (len := 119) (off := 554) (by decide +kernel) (by decide) (by decide) (by decide)
theorem i174_33_14 : m_G 174 33 L (.int 14 :: st) μ = m_G 174 620 L st μ := g_tab (dd := 1036) (lo := 0) (hi := 25) (offs := #[119, 172, 185, 208, 221, 244, 277, 320, 353, 396, 439, 482, 531, 554, 587, 620, 643, 686, 729, 762, 815, 848, 871, 946, 999, 1022]) (len := 119) (off := 587) (by decide +kernel) (by decide) (by decide) (by decide)
theorem i174_33_15 : m_G 174 33 L (.int 15 :: st) μ = m_G 174 653 L st μ := g_tab (dd := 1036) (lo := 0) (hi := 25) (offs := #[119, 172, 185, 208, 221, 244, 277, 320, 353, 396, 439, 482, 531, 554, 587, 620, 643, 686, 729, 762, 815, 848, 871, 946, 999, 1022]) (len := 119) (off := 620) (by decide +kernel) (by decide) (by decide) (by decide)
theorem i174_33_16 : m_G 174 33 L (.int 16 :: st) μ = m_G 174 676 L st μ := g_tab (dd := 1036) (lo := 0) (hi := 25) (offs := #[119, 172, 185, 208, 221, 244, 277, 320, 353, 396, 439, 482, 531, 554, 587, 620, 643, 686, 729, 762, 815, 848, 871, 946, 999, 1022]) (len := 119) (off := 643) (by decide +kernel) (by decide) (by decide) (by decide)
theorem i174_33_17 : m_G 174 33 L (.int 17 :: st) μ = m_G 174 719 L st μ := g_tab (dd := 1036) (lo := 0) (hi := 25) (offs := #[119, 172, 185, 208, 221, 244, 277, 320, 353, 396, 439, 482, 531, 554, 587, 620, 643, 686, 729, 762, 815, 848, 871, 946, 999, 1022]) (len := 119) (off := 686) (by decide +kernel) (by decide) (by decide) (by decide)
theorem i174_33_18 : m_G 174 33 L (.int 18 :: st) μ = m_G 174 762 L st μ := g_tab (dd := 1036) (lo := 0) (hi := 25) (offs := #[119, 172, 185, 208, 221, 244, 277, 320, 353, 396, 439, 482, 531, 554, 587, 620, 643, 686, 729, 762, 815, 848, 871, 946, 999, 1022]) (len := 119) (off := 729) (by decide +kernel) (by decide) (by decide) (by decide)
theorem i174_33_19 : m_G 174 33 L (.int 19 :: st) μ = m_G 174 795 L st μ := g_tab (dd := 1036) (lo := 0) (hi := 25) (offs := #[119, 172, 185, 208, 221, 244, 277, 320, 353, 396, 439, 482, 531, 554, 587, 620, 643, 686, 729, 762, 815, 848, 871, 946, 999, 1022]) (len := 119) (off := 762) (by decide +kernel) (by decide) (by decide) (by decide)
theorem i174_33_20 : m_G 174 33 L (.int 20 :: st) μ = m_G 174 848 L st μ := g_tab (dd := 1036) (lo := 0) (hi := 25) (offs := #[119, 172, 185, 208, 221, 244, 277, 320, 353, 396, 439, 482, 531, 554, 587, 620, 643, 686, 729, 762, 815, 848, 871, 946, 999, 1022]) (len := 119) (off := 815) (by decide +kernel) (by decide) (by decide) (by decide)
theorem i174_33_21 : m_G 174 33 L (.int 21 :: st) μ = m_G 174 881 L st μ := g_tab (dd := 1036) (lo := 0) (hi := 25) (offs := #[119, 172, 185, 208, 221, 244, 277, 320, 353, 396, 439, 482, 531, 554, 587, 620, 643, 686, 729, 762, 815, 848, 871, 946, 999, 1022]) (len := 119) (off := 848) (by decide +kernel) (by decide) (by decide) (by decide)
theorem i174_33_22 : m_G 174 33 L (.int 22 :: st) μ = m_G 174 904 L st μ := g_tab (dd := 1036) (lo := 0) (hi := 25) (offs := #[119, 172, 185, 208, 221, 244, 277, 320, 353, 396, 439, 482, 531, 554, 587, 620, 643, 686, 729, 762, 815, 848, 871, 946, 999, 1022]) (len := 119) (off := 871) (by decide +kernel) (by decide) (by decide) (by decide)
theorem i174_33_23 : m_G 174 33 L (.int 23 :: st) μ = m_G 174 979 L st μ := g_tab (dd := 1036) (lo := 0) (hi := 25) (offs := #[119, 172, 185, 208, 221, 244, 277, 320, 353, 396, 439, 482, 531, 554, 587, 620, 643, 686, 729, 762, 815, 848, 871, 946, 999, 1022]) (len := 119) (off := 946) (by decide +kernel) (by decide) (by decide) (by decide)
theorem i174_33_24 : m_G 174 33 L (.int 24 :: st) μ = m_G 174 1032 L st μ := g_tab (dd := 1036) (lo := 0) (hi := 25) (offs := #[119, 172, 185, 208, 221, 244, 277, 320, 353, 396, 439, 482, 531, 554, 587, 620, 643, 686, 729, 762, 815, 848, 871, 946, 999, 1022]) (len := 119) (off := 999) (by decide +kernel) (by decide) (by decide) (by decide)
theorem i174_33_25 : m_G 174 33 L (.int 25 :: st) μ = m_G 174 1055 L st μ := g_tab (dd := 1036) (lo := 0) (hi := 25) (offs := #[119, 172, 185, 208, 221, 244, 277, 320, 353, 396, 439, 482, 531, 554, 587, 620, 643, 686, 729, 762, 815, 848, 871, 946, 999, 1022]) (len := 119) (off := 1022) (by decide +kernel) (by decide) (by decide) (by decide)
theorem i174_33_d (h : x0.toInt < 0 ∨ 25 < x0.toInt) : m_G 174 33 L (.int x0 :: st) μ = m_G 174 1069 L st μ := g_tabO (dd := 1036) (lo := 0) (hi := 25) (offs := #[119, 172, 185, 208, 221, 244, 277, 320, 353, 396, 439, 482, 531, 554, 587, 620, 643, 686, 729, 762, 815, 848, 871, 946, 999, 1022]) (len := 119) (by decide +kernel) h (by decide)
theorem i174_152 : m_G 174 152 [v0, .ref a0, v2, v3] st μ = m_G 174 153 [v0, .ref a0, v2, v3] (.ref a0 :: st) μ := g_aload_n (i := 1) (by decide +kernel) rfl
theorem i174_153 : m_G 174 153 [.retAddr 0, v1, v2, v3] st μ = m_G 174 154 [.retAddr 0, v1, v2, v3] (.retAddr 0 :: st) μ := g_aload_nS (i := 0) (by decide +kernel) rfl
theorem i174_154 : m_G 174 154 [v0, v1, v2, .int x0] st μ = m_G 174 155 [v0, v1, v2, .int x0] (.int x0 :: st) μ := g_iload_n (i := 3) (by decide +kernel) rfl
theorem i174_155 : m_G 174 155 L st μ = m_G 174 156 L (.int 1 :: st) μ := g_iconst (n := 1) (by decide +kernel) (by decide)
theorem i174_156 : m_G 174 156 L (.int x1 :: .int x0 :: st) μ = m_G 174 157 L (.int (x0 + x1) :: st) μ := g_iadd (by decide +kernel)
theorem i174_157 : m_G 174 157 L (.int x0 :: .retAddr 0 :: st) μ = b_i (m_gs μ x0) 174 158 L st μ := g_sald (by decide +kernel)
theorem i174_158 : m_G 174 158 L (.int x0 :: st) μ = m_G 174 159 L (.long x0.toInt64 :: st) μ := g_i2l (by decide +kernel)
theorem i174_159 : m_G 174 159 L st μ = m_G 174 161 L (.int 32 :: st) μ := g_bipush (n := 32) (by decide +kernel) (by decide)
theorem i174_161 : m_G 174 161 L (.int x0 :: .long l0 :: st) μ = m_G 174 162 L (.long (l0 <<< (x0.toInt64 &&& 63)) :: st) μ := g_lshl (by decide +kernel)
theorem i174_162 : m_G 174 162 [.retAddr 0, v1, v2, v3] st μ = m_G 174 163 [.retAddr 0, v1, v2, v3] (.retAddr 0 :: st) μ := g_aload_nS (i := 0) (by decide +kernel) rfl
theorem i174_163 : m_G 174 163 [v0, v1, v2, .int x0] st μ = m_G 174 164 [v0, v1, v2, .int x0] (.int x0 :: st) μ := g_iload_n (i := 3) (by decide +kernel) rfl
theorem i174_164 : m_G 174 164 L st μ = m_G 174 165 L (.int 2 :: st) μ := g_iconst (n := 2) (by decide +kernel) (by decide)
theorem i174_165 : m_G 174 165 L (.int x1 :: .int x0 :: st) μ = m_G 174 166 L (.int (x0 + x1) :: st) μ := g_iadd (by decide +kernel)
theorem i174_166 : m_G 174 166 L (.int x0 :: .retAddr 0 :: st) μ = b_i (m_gs μ x0) 174 167 L st μ := g_sald (by decide +kernel)
theorem i174_167 : m_G 174 167 L (.int x0 :: st) μ = m_G 174 168 L (.long x0.toInt64 :: st) μ := g_i2l (by decide +kernel)
theorem i174_168 : m_G 174 168 L st μ = m_G 174 171 L (.long (4294967295) :: st) μ := g_ldc2_w (i := 13) (by decide +kernel) (by decide +kernel)
theorem i174_171 : m_G 174 171 L (.long l1 :: .long l0 :: st) μ = m_G 174 172 L (.long (l0 &&& l1) :: st) μ := g_land (by decide +kernel)
theorem i174_172 : m_G 174 172 L (.long l1 :: .long l0 :: st) μ = m_G 174 173 L (.long (l0 ||| l1) :: st) μ := g_lor (by decide +kernel)
theorem i174_173 (ho : m_oc μ a0 = some 8) : m_G 174 173 L (.long l0 :: .ref a0 :: []) μ = b_c (m_D 58 [.ref a0, .long l0] μ) 174 176 L [] := g_virt (i := 15) (n := 1) (a := a0) (c := 8) (l := [(8, 58)]) (by decide +kernel) (by decide +kernel) rfl rfl (x_call_ok (ws := [1, 2]) (Nat.le_of_ble_eq_true rfl) rfl (by decide +kernel) rfl (by decide +kernel) rfl rfl) ho
theorem i174_176 : m_G 174 176 [v0, v1, .ref a0, v3] st μ = m_G 174 177 [v0, v1, .ref a0, v3] (.ref a0 :: st) μ := g_aload_n (i := 2) (by decide +kernel) rfl
theorem i174_177 : m_G 174 177 [.retAddr 0, v1, v2, v3] st μ = m_G 174 178 [.retAddr 0, v1, v2, v3] (.retAddr 0 :: st) μ := g_aload_nS (i := 0) (by decide +kernel) rfl
theorem i174_178 : m_G 174 178 [v0, v1, v2, .int x0] st μ = m_G 174 179 [v0, v1, v2, .int x0] (.int x0 :: st) μ := g_iload_n (i := 3) (by decide +kernel) rfl
theorem i174_179 : m_G 174 179 L st μ = m_G 174 180 L (.int 1 :: st) μ := g_iconst (n := 1) (by decide +kernel) (by decide)
theorem i174_180 : m_G 174 180 L (.int x1 :: .int x0 :: st) μ = m_G 174 181 L (.int (x0 + x1) :: st) μ := g_iadd (by decide +kernel)
theorem i174_181 : m_G 174 181 L (.int x0 :: .retAddr 0 :: st) μ = b_i (m_gs μ x0) 174 182 L st μ := g_sald (by decide +kernel)
theorem i174_182 : m_G 174 182 L (.int x0 :: st) μ = m_G 174 183 L (.long x0.toInt64 :: st) μ := g_i2l (by decide +kernel)
theorem i174_183 : m_G 174 183 L st μ = m_G 174 185 L (.int 32 :: st) μ := g_bipush (n := 32) (by decide +kernel) (by decide)
theorem i174_185 : m_G 174 185 L (.int x0 :: .long l0 :: st) μ = m_G 174 186 L (.long (l0 <<< (x0.toInt64 &&& 63)) :: st) μ := g_lshl (by decide +kernel)
theorem i174_186 : m_G 174 186 [.retAddr 0, v1, v2, v3] st μ = m_G 174 187 [.retAddr 0, v1, v2, v3] (.retAddr 0 :: st) μ := g_aload_nS (i := 0) (by decide +kernel) rfl
theorem i174_187 : m_G 174 187 [v0, v1, v2, .int x0] st μ = m_G 174 188 [v0, v1, v2, .int x0] (.int x0 :: st) μ := g_iload_n (i := 3) (by decide +kernel) rfl
theorem i174_188 : m_G 174 188 L st μ = m_G 174 189 L (.int 2 :: st) μ := g_iconst (n := 2) (by decide +kernel) (by decide)
theorem i174_189 : m_G 174 189 L (.int x1 :: .int x0 :: st) μ = m_G 174 190 L (.int (x0 + x1) :: st) μ := g_iadd (by decide +kernel)
theorem i174_190 : m_G 174 190 L (.int x0 :: .retAddr 0 :: st) μ = b_i (m_gs μ x0) 174 191 L st μ := g_sald (by decide +kernel)
theorem i174_191 : m_G 174 191 L (.int x0 :: st) μ = m_G 174 192 L (.long x0.toInt64 :: st) μ := g_i2l (by decide +kernel)
theorem i174_192 : m_G 174 192 L st μ = m_G 174 195 L (.long (4294967295) :: st) μ := g_ldc2_w (i := 13) (by decide +kernel) (by decide +kernel)
theorem i174_195 : m_G 174 195 L (.long l1 :: .long l0 :: st) μ = m_G 174 196 L (.long (l0 &&& l1) :: st) μ := g_land (by decide +kernel)
theorem i174_196 : m_G 174 196 L (.long l1 :: .long l0 :: st) μ = m_G 174 197 L (.long (l0 ||| l1) :: st) μ := g_lor (by decide +kernel)
theorem i174_197 (ho : m_oc μ a0 = some 9) : m_G 174 197 L (.long l0 :: .ref a0 :: [w0]) μ = b_c (m_D 107 [.ref a0, .long l0] μ) 174 200 L [w0] := g_virt (i := 19) (n := 1) (a := a0) (c := 9) (l := [(9, 107)]) (by decide +kernel) (by decide +kernel) rfl rfl (x_call_ok (ws := [1, 2]) (Nat.le_of_ble_eq_true rfl) rfl (by decide +kernel) rfl (by decide +kernel) rfl rfl) ho
theorem i174_200 : m_G 174 200 L (.int x1 :: .int x0 :: st) μ = if x0 = x1 then m_G 174 1069 L st μ else m_G 174 203 L st μ := g_cmpeq (off := 869) (by decide +kernel) (by decide)
theorem i174_203 : m_G 174 203 L st μ = m_G 174 204 L (.int 0 :: st) μ := g_iconst (n := 0) (by decide +kernel) (by decide)
theorem i174_204 (h : x0 &&& 1 = x0) : m_G 174 204 L [.int x0] μ = some (some (.int x0), μ) := g_iretz (by decide +kernel) (by decide) h
theorem i174_205 : m_G 174 205 [v0, .ref a0, v2, v3] st μ = m_G 174 206 [v0, .ref a0, v2, v3] (.ref a0 :: st) μ := g_aload_n (i := 1) (by decide +kernel) rfl
theorem i174_206 (ho : m_oc μ a0 = some 8) : m_G 174 206 L (.ref a0 :: []) μ = b_c (m_D 60 [.ref a0] μ) 174 209 L [] := g_virt (i := 20) (n := 0) (a := a0) (c := 8) (l := [(8, 60)]) (by decide +kernel) (by decide +kernel) rfl rfl (x_call_ok (ws := [1]) (Nat.le_of_ble_eq_true rfl) rfl (by decide +kernel) rfl (by decide +kernel) rfl rfl) ho
theorem i174_209 : m_G 174 209 [v0, v1, .ref a0, v3] st μ = m_G 174 210 [v0, v1, .ref a0, v3] (.ref a0 :: st) μ := g_aload_n (i := 2) (by decide +kernel) rfl
theorem i174_210 (ho : m_oc μ a0 = some 9) : m_G 174 210 L (.ref a0 :: [w0]) μ = b_c (m_D 108 [.ref a0] μ) 174 213 L [w0] := g_virt (i := 24) (n := 0) (a := a0) (c := 9) (l := [(9, 108)]) (by decide +kernel) (by decide +kernel) rfl rfl (x_call_ok (ws := [1]) (Nat.le_of_ble_eq_true rfl) rfl (by decide +kernel) rfl (by decide +kernel) rfl rfl) ho
theorem i174_213 : m_G 174 213 L (.int x1 :: .int x0 :: st) μ = if x0 = x1 then m_G 174 1069 L st μ else m_G 174 216 L st μ := g_cmpeq (off := 856) (by decide +kernel) (by decide)
theorem i174_216 : m_G 174 216 L st μ = m_G 174 217 L (.int 0 :: st) μ := g_iconst (n := 0) (by decide +kernel) (by decide)
theorem i174_217 (h : x0 &&& 1 = x0) : m_G 174 217 L [.int x0] μ = some (some (.int x0), μ) := g_iretz (by decide +kernel) (by decide) h
theorem i174_218 : m_G 174 218 [v0, .ref a0, v2, v3] st μ = m_G 174 219 [v0, .ref a0, v2, v3] (.ref a0 :: st) μ := g_aload_n (i := 1) (by decide +kernel) rfl
theorem i174_219 : m_G 174 219 [.retAddr 0, v1, v2, v3] st μ = m_G 174 220 [.retAddr 0, v1, v2, v3] (.retAddr 0 :: st) μ := g_aload_nS (i := 0) (by decide +kernel) rfl
theorem i174_220 : m_G 174 220 [v0, v1, v2, .int x0] st μ = m_G 174 221 [v0, v1, v2, .int x0] (.int x0 :: st) μ := g_iload_n (i := 3) (by decide +kernel) rfl
theorem i174_221 : m_G 174 221 L st μ = m_G 174 222 L (.int 1 :: st) μ := g_iconst (n := 1) (by decide +kernel) (by decide)
theorem i174_222 : m_G 174 222 L (.int x1 :: .int x0 :: st) μ = m_G 174 223 L (.int (x0 + x1) :: st) μ := g_iadd (by decide +kernel)
theorem i174_223 : m_G 174 223 L (.int x0 :: .retAddr 0 :: st) μ = b_i (m_gs μ x0) 174 224 L st μ := g_sald (by decide +kernel)
theorem i174_224 (ho : m_oc μ a0 = some 8) : m_G 174 224 L (.int x0 :: .ref a0 :: []) μ = b_c (m_D 61 [.ref a0, .int x0] μ) 174 227 L [] := g_virt (i := 25) (n := 1) (a := a0) (c := 8) (l := [(8, 61)]) (by decide +kernel) (by decide +kernel) rfl rfl (x_call_ok (ws := [1, 1]) (Nat.le_of_ble_eq_true rfl) rfl (by decide +kernel) rfl (by decide +kernel) rfl rfl) ho
theorem i174_227 : m_G 174 227 [v0, v1, .ref a0, v3] st μ = m_G 174 228 [v0, v1, .ref a0, v3] (.ref a0 :: st) μ := g_aload_n (i := 2) (by decide +kernel) rfl
theorem i174_228 : m_G 174 228 [.retAddr 0, v1, v2, v3] st μ = m_G 174 229 [.retAddr 0, v1, v2, v3] (.retAddr 0 :: st) μ := g_aload_nS (i := 0) (by decide +kernel) rfl
theorem i174_229 : m_G 174 229 [v0, v1, v2, .int x0] st μ = m_G 174 230 [v0, v1, v2, .int x0] (.int x0 :: st) μ := g_iload_n (i := 3) (by decide +kernel) rfl
theorem i174_230 : m_G 174 230 L st μ = m_G 174 231 L (.int 1 :: st) μ := g_iconst (n := 1) (by decide +kernel) (by decide)
theorem i174_231 : m_G 174 231 L (.int x1 :: .int x0 :: st) μ = m_G 174 232 L (.int (x0 + x1) :: st) μ := g_iadd (by decide +kernel)
theorem i174_232 : m_G 174 232 L (.int x0 :: .retAddr 0 :: st) μ = b_i (m_gs μ x0) 174 233 L st μ := g_sald (by decide +kernel)
theorem i174_233 (ho : m_oc μ a0 = some 9) : m_G 174 233 L (.int x0 :: .ref a0 :: [w0]) μ = b_c (m_D 114 [.ref a0, .int x0] μ) 174 236 L [w0] := g_virt (i := 29) (n := 1) (a := a0) (c := 9) (l := [(9, 114)]) (by decide +kernel) (by decide +kernel) rfl rfl (x_call_ok (ws := [1, 1]) (Nat.le_of_ble_eq_true rfl) rfl (by decide +kernel) rfl (by decide +kernel) rfl rfl) ho
theorem i174_236 : m_G 174 236 L (.int x1 :: .int x0 :: st) μ = if x0 = x1 then m_G 174 1069 L st μ else m_G 174 239 L st μ := g_cmpeq (off := 833) (by decide +kernel) (by decide)
theorem i174_239 : m_G 174 239 L st μ = m_G 174 240 L (.int 0 :: st) μ := g_iconst (n := 0) (by decide +kernel) (by decide)
theorem i174_240 (h : x0 &&& 1 = x0) : m_G 174 240 L [.int x0] μ = some (some (.int x0), μ) := g_iretz (by decide +kernel) (by decide) h
theorem i174_241 : m_G 174 241 [v0, .ref a0, v2, v3] st μ = m_G 174 242 [v0, .ref a0, v2, v3] (.ref a0 :: st) μ := g_aload_n (i := 1) (by decide +kernel) rfl
theorem i174_242 (ho : m_oc μ a0 = some 8) : m_G 174 242 L (.ref a0 :: []) μ = b_c (m_D 64 [.ref a0] μ) 174 245 L [] := g_virt (i := 30) (n := 0) (a := a0) (c := 8) (l := [(8, 64)]) (by decide +kernel) (by decide +kernel) rfl rfl (x_call_ok (ws := [1]) (Nat.le_of_ble_eq_true rfl) rfl (by decide +kernel) rfl (by decide +kernel) rfl rfl) ho
theorem i174_245 : m_G 174 245 [v0, v1, .ref a0, v3] st μ = m_G 174 246 [v0, v1, .ref a0, v3] (.ref a0 :: st) μ := g_aload_n (i := 2) (by decide +kernel) rfl
theorem i174_246 (ho : m_oc μ a0 = some 9) : m_G 174 246 L (.ref a0 :: [w0]) μ = b_c (m_D 115 [.ref a0] μ) 174 249 L [w0] := g_virt (i := 33) (n := 0) (a := a0) (c := 9) (l := [(9, 115)]) (by decide +kernel) (by decide +kernel) rfl rfl (x_call_ok (ws := [1]) (Nat.le_of_ble_eq_true rfl) rfl (by decide +kernel) rfl (by decide +kernel) rfl rfl) ho
theorem i174_249 : m_G 174 249 L (.int x1 :: .int x0 :: st) μ = if x0 = x1 then m_G 174 1069 L st μ else m_G 174 252 L st μ := g_cmpeq (off := 820) (by decide +kernel) (by decide)
theorem i174_252 : m_G 174 252 L st μ = m_G 174 253 L (.int 0 :: st) μ := g_iconst (n := 0) (by decide +kernel) (by decide)
theorem i174_253 (h : x0 &&& 1 = x0) : m_G 174 253 L [.int x0] μ = some (some (.int x0), μ) := g_iretz (by decide +kernel) (by decide) h
theorem i174_254 : m_G 174 254 [v0, .ref a0, v2, v3] st μ = m_G 174 255 [v0, .ref a0, v2, v3] (.ref a0 :: st) μ := g_aload_n (i := 1) (by decide +kernel) rfl
theorem i174_255 : m_G 174 255 [.retAddr 0, v1, v2, v3] st μ = m_G 174 256 [.retAddr 0, v1, v2, v3] (.retAddr 0 :: st) μ := g_aload_nS (i := 0) (by decide +kernel) rfl
theorem i174_256 : m_G 174 256 [v0, v1, v2, .int x0] st μ = m_G 174 257 [v0, v1, v2, .int x0] (.int x0 :: st) μ := g_iload_n (i := 3) (by decide +kernel) rfl
theorem i174_257 : m_G 174 257 L st μ = m_G 174 258 L (.int 1 :: st) μ := g_iconst (n := 1) (by decide +kernel) (by decide)
theorem i174_258 : m_G 174 258 L (.int x1 :: .int x0 :: st) μ = m_G 174 259 L (.int (x0 + x1) :: st) μ := g_iadd (by decide +kernel)
theorem i174_259 : m_G 174 259 L (.int x0 :: .retAddr 0 :: st) μ = b_i (m_gs μ x0) 174 260 L st μ := g_sald (by decide +kernel)
theorem i174_260 (ho : m_oc μ a0 = some 8) : m_G 174 260 L (.int x0 :: .ref a0 :: []) μ = b_c (m_D 65 [.ref a0, .int x0] μ) 174 263 L [] := g_virt (i := 34) (n := 1) (a := a0) (c := 8) (l := [(8, 65)]) (by decide +kernel) (by decide +kernel) rfl rfl (x_call_ok (ws := [1, 1]) (Nat.le_of_ble_eq_true rfl) rfl (by decide +kernel) rfl (by decide +kernel) rfl rfl) ho
theorem i174_263 : m_G 174 263 [v0, v1, .ref a0, v3] st μ = m_G 174 264 [v0, v1, .ref a0, v3] (.ref a0 :: st) μ := g_aload_n (i := 2) (by decide +kernel) rfl
theorem i174_264 : m_G 174 264 [.retAddr 0, v1, v2, v3] st μ = m_G 174 265 [.retAddr 0, v1, v2, v3] (.retAddr 0 :: st) μ := g_aload_nS (i := 0) (by decide +kernel) rfl
theorem i174_265 : m_G 174 265 [v0, v1, v2, .int x0] st μ = m_G 174 266 [v0, v1, v2, .int x0] (.int x0 :: st) μ := g_iload_n (i := 3) (by decide +kernel) rfl
theorem i174_266 : m_G 174 266 L st μ = m_G 174 267 L (.int 1 :: st) μ := g_iconst (n := 1) (by decide +kernel) (by decide)
theorem i174_267 : m_G 174 267 L (.int x1 :: .int x0 :: st) μ = m_G 174 268 L (.int (x0 + x1) :: st) μ := g_iadd (by decide +kernel)
theorem i174_268 : m_G 174 268 L (.int x0 :: .retAddr 0 :: st) μ = b_i (m_gs μ x0) 174 269 L st μ := g_sald (by decide +kernel)
theorem i174_269 (ho : m_oc μ a0 = some 9) : m_G 174 269 L (.int x0 :: .ref a0 :: [w0]) μ = b_c (m_D 116 [.ref a0, .int x0] μ) 174 272 L [w0] := g_virt (i := 37) (n := 1) (a := a0) (c := 9) (l := [(9, 116)]) (by decide +kernel) (by decide +kernel) rfl rfl (x_call_ok (ws := [1, 1]) (Nat.le_of_ble_eq_true rfl) rfl (by decide +kernel) rfl (by decide +kernel) rfl rfl) ho
theorem i174_272 : m_G 174 272 L (.int x1 :: .int x0 :: st) μ = if x0 = x1 then m_G 174 1069 L st μ else m_G 174 275 L st μ := g_cmpeq (off := 797) (by decide +kernel) (by decide)
theorem i174_275 : m_G 174 275 L st μ = m_G 174 276 L (.int 0 :: st) μ := g_iconst (n := 0) (by decide +kernel) (by decide)
theorem i174_276 (h : x0 &&& 1 = x0) : m_G 174 276 L [.int x0] μ = some (some (.int x0), μ) := g_iretz (by decide +kernel) (by decide) h
theorem i174_277 : m_G 174 277 [v0, .ref a0, v2, v3] st μ = m_G 174 278 [v0, .ref a0, v2, v3] (.ref a0 :: st) μ := g_aload_n (i := 1) (by decide +kernel) rfl
theorem i174_278 : m_G 174 278 [.retAddr 0, v1, v2, v3] st μ = m_G 174 279 [.retAddr 0, v1, v2, v3] (.retAddr 0 :: st) μ := g_aload_nS (i := 0) (by decide +kernel) rfl
theorem i174_279 : m_G 174 279 [v0, v1, v2, .int x0] st μ = m_G 174 280 [v0, v1, v2, .int x0] (.int x0 :: st) μ := g_iload_n (i := 3) (by decide +kernel) rfl
theorem i174_280 : m_G 174 280 L st μ = m_G 174 281 L (.int 1 :: st) μ := g_iconst (n := 1) (by decide +kernel) (by decide)
theorem i174_281 : m_G 174 281 L (.int x1 :: .int x0 :: st) μ = m_G 174 282 L (.int (x0 + x1) :: st) μ := g_iadd (by decide +kernel)
theorem i174_282 : m_G 174 282 L (.int x0 :: .retAddr 0 :: st) μ = b_i (m_gs μ x0) 174 283 L st μ := g_sald (by decide +kernel)
theorem i174_283 : m_G 174 283 [.retAddr 0, v1, v2, v3] st μ = m_G 174 284 [.retAddr 0, v1, v2, v3] (.retAddr 0 :: st) μ := g_aload_nS (i := 0) (by decide +kernel) rfl
theorem i174_284 : m_G 174 284 [v0, v1, v2, .int x0] st μ = m_G 174 285 [v0, v1, v2, .int x0] (.int x0 :: st) μ := g_iload_n (i := 3) (by decide +kernel) rfl
theorem i174_285 : m_G 174 285 L st μ = m_G 174 286 L (.int 2 :: st) μ := g_iconst (n := 2) (by decide +kernel) (by decide)
theorem i174_286 : m_G 174 286 L (.int x1 :: .int x0 :: st) μ = m_G 174 287 L (.int (x0 + x1) :: st) μ := g_iadd (by decide +kernel)
theorem i174_287 : m_G 174 287 L (.int x0 :: .retAddr 0 :: st) μ = b_i (m_gs μ x0) 174 288 L st μ := g_sald (by decide +kernel)
theorem i174_288 (ho : m_oc μ a0 = some 8) : m_G 174 288 L (.int x1 :: .int x0 :: .ref a0 :: []) μ = b_c (m_D 70 [.ref a0, .int x0, .int x1] μ) 174 291 L [] := g_virt (i := 38) (n := 2) (a := a0) (c := 8) (l := [(8, 70)]) (by decide +kernel) (by decide +kernel) rfl rfl (x_call_ok (ws := [1, 1, 1]) (Nat.le_of_ble_eq_true rfl) rfl (by decide +kernel) rfl (by decide +kernel) rfl rfl) ho
theorem i174_291 : m_G 174 291 [v0, v1, .ref a0, v3] st μ = m_G 174 292 [v0, v1, .ref a0, v3] (.ref a0 :: st) μ := g_aload_n (i := 2) (by decide +kernel) rfl
theorem i174_292 : m_G 174 292 [.retAddr 0, v1, v2, v3] st μ = m_G 174 293 [.retAddr 0, v1, v2, v3] (.retAddr 0 :: st) μ := g_aload_nS (i := 0) (by decide +kernel) rfl
theorem i174_293 : m_G 174 293 [v0, v1, v2, .int x0] st μ = m_G 174 294 [v0, v1, v2, .int x0] (.int x0 :: st) μ := g_iload_n (i := 3) (by decide +kernel) rfl
theorem i174_294 : m_G 174 294 L st μ = m_G 174 295 L (.int 1 :: st) μ := g_iconst (n := 1) (by decide +kernel) (by decide)
theorem i174_295 : m_G 174 295 L (.int x1 :: .int x0 :: st) μ = m_G 174 296 L (.int (x0 + x1) :: st) μ := g_iadd (by decide +kernel)
theorem i174_296 : m_G 174 296 L (.int x0 :: .retAddr 0 :: st) μ = b_i (m_gs μ x0) 174 297 L st μ := g_sald (by decide +kernel)
theorem i174_297 : m_G 174 297 [.retAddr 0, v1, v2, v3] st μ = m_G 174 298 [.retAddr 0, v1, v2, v3] (.retAddr 0 :: st) μ := g_aload_nS (i := 0) (by decide +kernel) rfl
theorem i174_298 : m_G 174 298 [v0, v1, v2, .int x0] st μ = m_G 174 299 [v0, v1, v2, .int x0] (.int x0 :: st) μ := g_iload_n (i := 3) (by decide +kernel) rfl
theorem i174_299 : m_G 174 299 L st μ = m_G 174 300 L (.int 2 :: st) μ := g_iconst (n := 2) (by decide +kernel) (by decide)
theorem i174_300 : m_G 174 300 L (.int x1 :: .int x0 :: st) μ = m_G 174 301 L (.int (x0 + x1) :: st) μ := g_iadd (by decide +kernel)
theorem i174_301 : m_G 174 301 L (.int x0 :: .retAddr 0 :: st) μ = b_i (m_gs μ x0) 174 302 L st μ := g_sald (by decide +kernel)
theorem i174_302 (ho : m_oc μ a0 = some 9) : m_G 174 302 L (.int x1 :: .int x0 :: .ref a0 :: [w0]) μ = b_c (m_D 118 [.ref a0, .int x0, .int x1] μ) 174 305 L [w0] := g_virt (i := 42) (n := 2) (a := a0) (c := 9) (l := [(9, 118)]) (by decide +kernel) (by decide +kernel) rfl rfl (x_call_ok (ws := [1, 1, 1]) (Nat.le_of_ble_eq_true rfl) rfl (by decide +kernel) rfl (by decide +kernel) rfl rfl) ho
theorem i174_305 : m_G 174 305 L (.int x1 :: .int x0 :: st) μ = if x0 = x1 then m_G 174 1069 L st μ else m_G 174 308 L st μ := g_cmpeq (off := 764) (by decide +kernel) (by decide)
theorem i174_308 : m_G 174 308 L st μ = m_G 174 309 L (.int 0 :: st) μ := g_iconst (n := 0) (by decide +kernel) (by decide)
theorem i174_309 (h : x0 &&& 1 = x0) : m_G 174 309 L [.int x0] μ = some (some (.int x0), μ) := g_iretz (by decide +kernel) (by decide) h
theorem i174_310 : m_G 174 310 [v0, .ref a0, v2, v3] st μ = m_G 174 311 [v0, .ref a0, v2, v3] (.ref a0 :: st) μ := g_aload_n (i := 1) (by decide +kernel) rfl
theorem i174_311 : m_G 174 311 [.retAddr 0, v1, v2, v3] st μ = m_G 174 312 [.retAddr 0, v1, v2, v3] (.retAddr 0 :: st) μ := g_aload_nS (i := 0) (by decide +kernel) rfl
theorem i174_312 : m_G 174 312 [v0, v1, v2, .int x0] st μ = m_G 174 313 [v0, v1, v2, .int x0] (.int x0 :: st) μ := g_iload_n (i := 3) (by decide +kernel) rfl
theorem i174_313 : m_G 174 313 L st μ = m_G 174 314 L (.int 1 :: st) μ := g_iconst (n := 1) (by decide +kernel) (by decide)
theorem i174_314 : m_G 174 314 L (.int x1 :: .int x0 :: st) μ = m_G 174 315 L (.int (x0 + x1) :: st) μ := g_iadd (by decide +kernel)
theorem i174_315 : m_G 174 315 L (.int x0 :: .retAddr 0 :: st) μ = b_i (m_gs μ x0) 174 316 L st μ := g_sald (by decide +kernel)
theorem i174_316 : m_G 174 316 [.retAddr 0, v1, v2, v3] st μ = m_G 174 317 [.retAddr 0, v1, v2, v3] (.retAddr 0 :: st) μ := g_aload_nS (i := 0) (by decide +kernel) rfl
theorem i174_317 : m_G 174 317 [v0, v1, v2, .int x0] st μ = m_G 174 318 [v0, v1, v2, .int x0] (.int x0 :: st) μ := g_iload_n (i := 3) (by decide +kernel) rfl
theorem i174_318 : m_G 174 318 L st μ = m_G 174 319 L (.int 2 :: st) μ := g_iconst (n := 2) (by decide +kernel) (by decide)
theorem i174_319 : m_G 174 319 L (.int x1 :: .int x0 :: st) μ = m_G 174 320 L (.int (x0 + x1) :: st) μ := g_iadd (by decide +kernel)
theorem i174_320 : m_G 174 320 L (.int x0 :: .retAddr 0 :: st) μ = b_i (m_gs μ x0) 174 321 L st μ := g_sald (by decide +kernel)
theorem i174_321 : m_G 174 321 [.retAddr 0, v1, v2, v3] st μ = m_G 174 322 [.retAddr 0, v1, v2, v3] (.retAddr 0 :: st) μ := g_aload_nS (i := 0) (by decide +kernel) rfl
theorem i174_322 : m_G 174 322 [v0, v1, v2, .int x0] st μ = m_G 174 323 [v0, v1, v2, .int x0] (.int x0 :: st) μ := g_iload_n (i := 3) (by decide +kernel) rfl
theorem i174_323 : m_G 174 323 L st μ = m_G 174 324 L (.int 3 :: st) μ := g_iconst (n := 3) (by decide +kernel) (by decide)
theorem i174_324 : m_G 174 324 L (.int x1 :: .int x0 :: st) μ = m_G 174 325 L (.int (x0 + x1) :: st) μ := g_iadd (by decide +kernel)
theorem i174_325 : m_G 174 325 L (.int x0 :: .retAddr 0 :: st) μ = b_i (m_gs μ x0) 174 326 L st μ := g_sald (by decide +kernel)
theorem i174_326 (ho : m_oc μ a0 = some 8) : m_G 174 326 L (.int x2 :: .int x1 :: .int x0 :: .ref a0 :: []) μ = b_c (m_D 71 [.ref a0, .int x0, .int x1, .int x2] μ) 174 329 L [] := g_virt (i := 43) (n := 3) (a := a0) (c := 8) (l := [(8, 71)]) (by decide +kernel) (by decide +kernel) rfl rfl (x_call_ok (ws := [1, 1, 1, 1]) (Nat.le_of_ble_eq_true rfl) rfl (by decide +kernel) rfl (by decide +kernel) rfl rfl) ho
theorem i174_329 : m_G 174 329 [v0, v1, .ref a0, v3] st μ = m_G 174 330 [v0, v1, .ref a0, v3] (.ref a0 :: st) μ := g_aload_n (i := 2) (by decide +kernel) rfl
theorem i174_330 : m_G 174 330 [.retAddr 0, v1, v2, v3] st μ = m_G 174 331 [.retAddr 0, v1, v2, v3] (.retAddr 0 :: st) μ := g_aload_nS (i := 0) (by decide +kernel) rfl
theorem i174_331 : m_G 174 331 [v0, v1, v2, .int x0] st μ = m_G 174 332 [v0, v1, v2, .int x0] (.int x0 :: st) μ := g_iload_n (i := 3) (by decide +kernel) rfl
theorem i174_332 : m_G 174 332 L st μ = m_G 174 333 L (.int 1 :: st) μ := g_iconst (n := 1) (by decide +kernel) (by decide)
theorem i174_333 : m_G 174 333 L (.int x1 :: .int x0 :: st) μ = m_G 174 334 L (.int (x0 + x1) :: st) μ := g_iadd (by decide +kernel)
theorem i174_334 : m_G 174 334 L (.int x0 :: .retAddr 0 :: st) μ = b_i (m_gs μ x0) 174 335 L st μ := g_sald (by decide +kernel)
theorem i174_335 : m_G 174 335 [.retAddr 0, v1, v2, v3] st μ = m_G 174 336 [.retAddr 0, v1, v2, v3] (.retAddr 0 :: st) μ := g_aload_nS (i := 0) (by decide +kernel) rfl
theorem i174_336 : m_G 174 336 [v0, v1, v2, .int x0] st μ = m_G 174 337 [v0, v1, v2, .int x0] (.int x0 :: st) μ := g_iload_n (i := 3) (by decide +kernel) rfl
theorem i174_337 : m_G 174 337 L st μ = m_G 174 338 L (.int 2 :: st) μ := g_iconst (n := 2) (by decide +kernel) (by decide)
theorem i174_338 : m_G 174 338 L (.int x1 :: .int x0 :: st) μ = m_G 174 339 L (.int (x0 + x1) :: st) μ := g_iadd (by decide +kernel)
theorem i174_339 : m_G 174 339 L (.int x0 :: .retAddr 0 :: st) μ = b_i (m_gs μ x0) 174 340 L st μ := g_sald (by decide +kernel)
theorem i174_340 : m_G 174 340 [.retAddr 0, v1, v2, v3] st μ = m_G 174 341 [.retAddr 0, v1, v2, v3] (.retAddr 0 :: st) μ := g_aload_nS (i := 0) (by decide +kernel) rfl
theorem i174_341 : m_G 174 341 [v0, v1, v2, .int x0] st μ = m_G 174 342 [v0, v1, v2, .int x0] (.int x0 :: st) μ := g_iload_n (i := 3) (by decide +kernel) rfl
theorem i174_342 : m_G 174 342 L st μ = m_G 174 343 L (.int 3 :: st) μ := g_iconst (n := 3) (by decide +kernel) (by decide)
theorem i174_343 : m_G 174 343 L (.int x1 :: .int x0 :: st) μ = m_G 174 344 L (.int (x0 + x1) :: st) μ := g_iadd (by decide +kernel)
theorem i174_344 : m_G 174 344 L (.int x0 :: .retAddr 0 :: st) μ = b_i (m_gs μ x0) 174 345 L st μ := g_sald (by decide +kernel)
theorem i174_345 (ho : m_oc μ a0 = some 9) : m_G 174 345 L (.int x2 :: .int x1 :: .int x0 :: .ref a0 :: [w0]) μ = b_c (m_D 122 [.ref a0, .int x0, .int x1, .int x2] μ) 174 348 L [w0] := g_virt (i := 47) (n := 3) (a := a0) (c := 9) (l := [(9, 122)]) (by decide +kernel) (by decide +kernel) rfl rfl (x_call_ok (ws := [1, 1, 1, 1]) (Nat.le_of_ble_eq_true rfl) rfl (by decide +kernel) rfl (by decide +kernel) rfl rfl) ho
theorem i174_348 : m_G 174 348 L (.int x1 :: .int x0 :: st) μ = if x0 = x1 then m_G 174 1069 L st μ else m_G 174 351 L st μ := g_cmpeq (off := 721) (by decide +kernel) (by decide)
theorem i174_351 : m_G 174 351 L st μ = m_G 174 352 L (.int 0 :: st) μ := g_iconst (n := 0) (by decide +kernel) (by decide)
theorem i174_352 (h : x0 &&& 1 = x0) : m_G 174 352 L [.int x0] μ = some (some (.int x0), μ) := g_iretz (by decide +kernel) (by decide) h
theorem i174_353 : m_G 174 353 [v0, .ref a0, v2, v3] st μ = m_G 174 354 [v0, .ref a0, v2, v3] (.ref a0 :: st) μ := g_aload_n (i := 1) (by decide +kernel) rfl
theorem i174_354 : m_G 174 354 [.retAddr 0, v1, v2, v3] st μ = m_G 174 355 [.retAddr 0, v1, v2, v3] (.retAddr 0 :: st) μ := g_aload_nS (i := 0) (by decide +kernel) rfl
theorem i174_355 : m_G 174 355 [v0, v1, v2, .int x0] st μ = m_G 174 356 [v0, v1, v2, .int x0] (.int x0 :: st) μ := g_iload_n (i := 3) (by decide +kernel) rfl
theorem i174_356 : m_G 174 356 L st μ = m_G 174 357 L (.int 1 :: st) μ := g_iconst (n := 1) (by decide +kernel) (by decide)
theorem i174_357 : m_G 174 357 L (.int x1 :: .int x0 :: st) μ = m_G 174 358 L (.int (x0 + x1) :: st) μ := g_iadd (by decide +kernel)
theorem i174_358 : m_G 174 358 L (.int x0 :: .retAddr 0 :: st) μ = b_i (m_gs μ x0) 174 359 L st μ := g_sald (by decide +kernel)
theorem i174_359 : m_G 174 359 [.retAddr 0, v1, v2, v3] st μ = m_G 174 360 [.retAddr 0, v1, v2, v3] (.retAddr 0 :: st) μ := g_aload_nS (i := 0) (by decide +kernel) rfl
theorem i174_360 : m_G 174 360 [v0, v1, v2, .int x0] st μ = m_G 174 361 [v0, v1, v2, .int x0] (.int x0 :: st) μ := g_iload_n (i := 3) (by decide +kernel) rfl
theorem i174_361 : m_G 174 361 L st μ = m_G 174 362 L (.int 2 :: st) μ := g_iconst (n := 2) (by decide +kernel) (by decide)
theorem i174_362 : m_G 174 362 L (.int x1 :: .int x0 :: st) μ = m_G 174 363 L (.int (x0 + x1) :: st) μ := g_iadd (by decide +kernel)
theorem i174_363 : m_G 174 363 L (.int x0 :: .retAddr 0 :: st) μ = b_i (m_gs μ x0) 174 364 L st μ := g_sald (by decide +kernel)
theorem i174_364 (ho : m_oc μ a0 = some 8) : m_G 174 364 L (.int x1 :: .int x0 :: .ref a0 :: []) μ = b_c (m_D 72 [.ref a0, .int x0, .int x1] μ) 174 367 L [] := g_virt (i := 48) (n := 2) (a := a0) (c := 8) (l := [(8, 72)]) (by decide +kernel) (by decide +kernel) rfl rfl (x_call_ok (ws := [1, 1, 1]) (Nat.le_of_ble_eq_true rfl) rfl (by decide +kernel) rfl (by decide +kernel) rfl rfl) ho
theorem i174_367 : m_G 174 367 [v0, v1, .ref a0, v3] st μ = m_G 174 368 [v0, v1, .ref a0, v3] (.ref a0 :: st) μ := g_aload_n (i := 2) (by decide +kernel) rfl
theorem i174_368 : m_G 174 368 [.retAddr 0, v1, v2, v3] st μ = m_G 174 369 [.retAddr 0, v1, v2, v3] (.retAddr 0 :: st) μ := g_aload_nS (i := 0) (by decide +kernel) rfl
theorem i174_369 : m_G 174 369 [v0, v1, v2, .int x0] st μ = m_G 174 370 [v0, v1, v2, .int x0] (.int x0 :: st) μ := g_iload_n (i := 3) (by decide +kernel) rfl
theorem i174_370 : m_G 174 370 L st μ = m_G 174 371 L (.int 1 :: st) μ := g_iconst (n := 1) (by decide +kernel) (by decide)
theorem i174_371 : m_G 174 371 L (.int x1 :: .int x0 :: st) μ = m_G 174 372 L (.int (x0 + x1) :: st) μ := g_iadd (by decide +kernel)
theorem i174_372 : m_G 174 372 L (.int x0 :: .retAddr 0 :: st) μ = b_i (m_gs μ x0) 174 373 L st μ := g_sald (by decide +kernel)
theorem i174_373 : m_G 174 373 [.retAddr 0, v1, v2, v3] st μ = m_G 174 374 [.retAddr 0, v1, v2, v3] (.retAddr 0 :: st) μ := g_aload_nS (i := 0) (by decide +kernel) rfl
theorem i174_374 : m_G 174 374 [v0, v1, v2, .int x0] st μ = m_G 174 375 [v0, v1, v2, .int x0] (.int x0 :: st) μ := g_iload_n (i := 3) (by decide +kernel) rfl
theorem i174_375 : m_G 174 375 L st μ = m_G 174 376 L (.int 2 :: st) μ := g_iconst (n := 2) (by decide +kernel) (by decide)
theorem i174_376 : m_G 174 376 L (.int x1 :: .int x0 :: st) μ = m_G 174 377 L (.int (x0 + x1) :: st) μ := g_iadd (by decide +kernel)
theorem i174_377 : m_G 174 377 L (.int x0 :: .retAddr 0 :: st) μ = b_i (m_gs μ x0) 174 378 L st μ := g_sald (by decide +kernel)
theorem i174_378 (ho : m_oc μ a0 = some 9) : m_G 174 378 L (.int x1 :: .int x0 :: .ref a0 :: [w0]) μ = b_c (m_D 128 [.ref a0, .int x0, .int x1] μ) 174 381 L [w0] := g_virt (i := 51) (n := 2) (a := a0) (c := 9) (l := [(9, 128)]) (by decide +kernel) (by decide +kernel) rfl rfl (x_call_ok (ws := [1, 1, 1]) (Nat.le_of_ble_eq_true rfl) rfl (by decide +kernel) rfl (by decide +kernel) rfl rfl) ho
theorem i174_381 : m_G 174 381 L (.int x1 :: .int x0 :: st) μ = if x0 = x1 then m_G 174 1069 L st μ else m_G 174 384 L st μ := g_cmpeq (off := 688) (by decide +kernel) (by decide)
theorem i174_384 : m_G 174 384 L st μ = m_G 174 385 L (.int 0 :: st) μ := g_iconst (n := 0) (by decide +kernel) (by decide)
theorem i174_385 (h : x0 &&& 1 = x0) : m_G 174 385 L [.int x0] μ = some (some (.int x0), μ) := g_iretz (by decide +kernel) (by decide) h
theorem i174_386 : m_G 174 386 [v0, .ref a0, v2, v3] st μ = m_G 174 387 [v0, .ref a0, v2, v3] (.ref a0 :: st) μ := g_aload_n (i := 1) (by decide +kernel) rfl
theorem i174_387 : m_G 174 387 [.retAddr 0, v1, v2, v3] st μ = m_G 174 388 [.retAddr 0, v1, v2, v3] (.retAddr 0 :: st) μ := g_aload_nS (i := 0) (by decide +kernel) rfl
theorem i174_388 : m_G 174 388 [v0, v1, v2, .int x0] st μ = m_G 174 389 [v0, v1, v2, .int x0] (.int x0 :: st) μ := g_iload_n (i := 3) (by decide +kernel) rfl
theorem i174_389 : m_G 174 389 L st μ = m_G 174 390 L (.int 1 :: st) μ := g_iconst (n := 1) (by decide +kernel) (by decide)
theorem i174_390 : m_G 174 390 L (.int x1 :: .int x0 :: st) μ = m_G 174 391 L (.int (x0 + x1) :: st) μ := g_iadd (by decide +kernel)
theorem i174_391 : m_G 174 391 L (.int x0 :: .retAddr 0 :: st) μ = b_i (m_gs μ x0) 174 392 L st μ := g_sald (by decide +kernel)
theorem i174_392 : m_G 174 392 [.retAddr 0, v1, v2, v3] st μ = m_G 174 393 [.retAddr 0, v1, v2, v3] (.retAddr 0 :: st) μ := g_aload_nS (i := 0) (by decide +kernel) rfl
theorem i174_393 : m_G 174 393 [v0, v1, v2, .int x0] st μ = m_G 174 394 [v0, v1, v2, .int x0] (.int x0 :: st) μ := g_iload_n (i := 3) (by decide +kernel) rfl
theorem i174_394 : m_G 174 394 L st μ = m_G 174 395 L (.int 2 :: st) μ := g_iconst (n := 2) (by decide +kernel) (by decide)
theorem i174_395 : m_G 174 395 L (.int x1 :: .int x0 :: st) μ = m_G 174 396 L (.int (x0 + x1) :: st) μ := g_iadd (by decide +kernel)
theorem i174_396 : m_G 174 396 L (.int x0 :: .retAddr 0 :: st) μ = b_i (m_gs μ x0) 174 397 L st μ := g_sald (by decide +kernel)
theorem i174_397 : m_G 174 397 [.retAddr 0, v1, v2, v3] st μ = m_G 174 398 [.retAddr 0, v1, v2, v3] (.retAddr 0 :: st) μ := g_aload_nS (i := 0) (by decide +kernel) rfl
theorem i174_398 : m_G 174 398 [v0, v1, v2, .int x0] st μ = m_G 174 399 [v0, v1, v2, .int x0] (.int x0 :: st) μ := g_iload_n (i := 3) (by decide +kernel) rfl
theorem i174_399 : m_G 174 399 L st μ = m_G 174 400 L (.int 3 :: st) μ := g_iconst (n := 3) (by decide +kernel) (by decide)
theorem i174_400 : m_G 174 400 L (.int x1 :: .int x0 :: st) μ = m_G 174 401 L (.int (x0 + x1) :: st) μ := g_iadd (by decide +kernel)
theorem i174_401 : m_G 174 401 L (.int x0 :: .retAddr 0 :: st) μ = b_i (m_gs μ x0) 174 402 L st μ := g_sald (by decide +kernel)
theorem i174_402 (ho : m_oc μ a0 = some 8) : m_G 174 402 L (.int x2 :: .int x1 :: .int x0 :: .ref a0 :: []) μ = b_c (m_D 73 [.ref a0, .int x0, .int x1, .int x2] μ) 174 405 L [] := g_virt (i := 52) (n := 3) (a := a0) (c := 8) (l := [(8, 73)]) (by decide +kernel) (by decide +kernel) rfl rfl (x_call_ok (ws := [1, 1, 1, 1]) (Nat.le_of_ble_eq_true rfl) rfl (by decide +kernel) rfl (by decide +kernel) rfl rfl) ho
theorem i174_405 : m_G 174 405 [v0, v1, .ref a0, v3] st μ = m_G 174 406 [v0, v1, .ref a0, v3] (.ref a0 :: st) μ := g_aload_n (i := 2) (by decide +kernel) rfl
theorem i174_406 : m_G 174 406 [.retAddr 0, v1, v2, v3] st μ = m_G 174 407 [.retAddr 0, v1, v2, v3] (.retAddr 0 :: st) μ := g_aload_nS (i := 0) (by decide +kernel) rfl
theorem i174_407 : m_G 174 407 [v0, v1, v2, .int x0] st μ = m_G 174 408 [v0, v1, v2, .int x0] (.int x0 :: st) μ := g_iload_n (i := 3) (by decide +kernel) rfl
theorem i174_408 : m_G 174 408 L st μ = m_G 174 409 L (.int 1 :: st) μ := g_iconst (n := 1) (by decide +kernel) (by decide)
theorem i174_409 : m_G 174 409 L (.int x1 :: .int x0 :: st) μ = m_G 174 410 L (.int (x0 + x1) :: st) μ := g_iadd (by decide +kernel)
theorem i174_410 : m_G 174 410 L (.int x0 :: .retAddr 0 :: st) μ = b_i (m_gs μ x0) 174 411 L st μ := g_sald (by decide +kernel)
theorem i174_411 : m_G 174 411 [.retAddr 0, v1, v2, v3] st μ = m_G 174 412 [.retAddr 0, v1, v2, v3] (.retAddr 0 :: st) μ := g_aload_nS (i := 0) (by decide +kernel) rfl
theorem i174_412 : m_G 174 412 [v0, v1, v2, .int x0] st μ = m_G 174 413 [v0, v1, v2, .int x0] (.int x0 :: st) μ := g_iload_n (i := 3) (by decide +kernel) rfl
theorem i174_413 : m_G 174 413 L st μ = m_G 174 414 L (.int 2 :: st) μ := g_iconst (n := 2) (by decide +kernel) (by decide)
theorem i174_414 : m_G 174 414 L (.int x1 :: .int x0 :: st) μ = m_G 174 415 L (.int (x0 + x1) :: st) μ := g_iadd (by decide +kernel)
theorem i174_415 : m_G 174 415 L (.int x0 :: .retAddr 0 :: st) μ = b_i (m_gs μ x0) 174 416 L st μ := g_sald (by decide +kernel)
theorem i174_416 : m_G 174 416 [.retAddr 0, v1, v2, v3] st μ = m_G 174 417 [.retAddr 0, v1, v2, v3] (.retAddr 0 :: st) μ := g_aload_nS (i := 0) (by decide +kernel) rfl
theorem i174_417 : m_G 174 417 [v0, v1, v2, .int x0] st μ = m_G 174 418 [v0, v1, v2, .int x0] (.int x0 :: st) μ := g_iload_n (i := 3) (by decide +kernel) rfl
theorem i174_418 : m_G 174 418 L st μ = m_G 174 419 L (.int 3 :: st) μ := g_iconst (n := 3) (by decide +kernel) (by decide)
theorem i174_419 : m_G 174 419 L (.int x1 :: .int x0 :: st) μ = m_G 174 420 L (.int (x0 + x1) :: st) μ := g_iadd (by decide +kernel)
theorem i174_420 : m_G 174 420 L (.int x0 :: .retAddr 0 :: st) μ = b_i (m_gs μ x0) 174 421 L st μ := g_sald (by decide +kernel)
theorem i174_421 (ho : m_oc μ a0 = some 9) : m_G 174 421 L (.int x2 :: .int x1 :: .int x0 :: .ref a0 :: [w0]) μ = b_c (m_D 130 [.ref a0, .int x0, .int x1, .int x2] μ) 174 424 L [w0] := g_virt (i := 55) (n := 3) (a := a0) (c := 9) (l := [(9, 130)]) (by decide +kernel) (by decide +kernel) rfl rfl (x_call_ok (ws := [1, 1, 1, 1]) (Nat.le_of_ble_eq_true rfl) rfl (by decide +kernel) rfl (by decide +kernel) rfl rfl) ho
theorem i174_424 : m_G 174 424 L (.int x1 :: .int x0 :: st) μ = if x0 = x1 then m_G 174 1069 L st μ else m_G 174 427 L st μ := g_cmpeq (off := 645) (by decide +kernel) (by decide)
theorem i174_427 : m_G 174 427 L st μ = m_G 174 428 L (.int 0 :: st) μ := g_iconst (n := 0) (by decide +kernel) (by decide)
theorem i174_428 (h : x0 &&& 1 = x0) : m_G 174 428 L [.int x0] μ = some (some (.int x0), μ) := g_iretz (by decide +kernel) (by decide) h
theorem i174_429 : m_G 174 429 [v0, .ref a0, v2, v3] st μ = m_G 174 430 [v0, .ref a0, v2, v3] (.ref a0 :: st) μ := g_aload_n (i := 1) (by decide +kernel) rfl
theorem i174_430 : m_G 174 430 [.retAddr 0, v1, v2, v3] st μ = m_G 174 431 [.retAddr 0, v1, v2, v3] (.retAddr 0 :: st) μ := g_aload_nS (i := 0) (by decide +kernel) rfl
theorem i174_431 : m_G 174 431 [v0, v1, v2, .int x0] st μ = m_G 174 432 [v0, v1, v2, .int x0] (.int x0 :: st) μ := g_iload_n (i := 3) (by decide +kernel) rfl
theorem i174_432 : m_G 174 432 L st μ = m_G 174 433 L (.int 1 :: st) μ := g_iconst (n := 1) (by decide +kernel) (by decide)
theorem i174_433 : m_G 174 433 L (.int x1 :: .int x0 :: st) μ = m_G 174 434 L (.int (x0 + x1) :: st) μ := g_iadd (by decide +kernel)
theorem i174_434 : m_G 174 434 L (.int x0 :: .retAddr 0 :: st) μ = b_i (m_gs μ x0) 174 435 L st μ := g_sald (by decide +kernel)
theorem i174_435 : m_G 174 435 [.retAddr 0, v1, v2, v3] st μ = m_G 174 436 [.retAddr 0, v1, v2, v3] (.retAddr 0 :: st) μ := g_aload_nS (i := 0) (by decide +kernel) rfl
theorem i174_436 : m_G 174 436 [v0, v1, v2, .int x0] st μ = m_G 174 437 [v0, v1, v2, .int x0] (.int x0 :: st) μ := g_iload_n (i := 3) (by decide +kernel) rfl
theorem i174_437 : m_G 174 437 L st μ = m_G 174 438 L (.int 2 :: st) μ := g_iconst (n := 2) (by decide +kernel) (by decide)
theorem i174_438 : m_G 174 438 L (.int x1 :: .int x0 :: st) μ = m_G 174 439 L (.int (x0 + x1) :: st) μ := g_iadd (by decide +kernel)
theorem i174_439 : m_G 174 439 L (.int x0 :: .retAddr 0 :: st) μ = b_i (m_gs μ x0) 174 440 L st μ := g_sald (by decide +kernel)
theorem i174_440 : m_G 174 440 [.retAddr 0, v1, v2, v3] st μ = m_G 174 441 [.retAddr 0, v1, v2, v3] (.retAddr 0 :: st) μ := g_aload_nS (i := 0) (by decide +kernel) rfl
theorem i174_441 : m_G 174 441 [v0, v1, v2, .int x0] st μ = m_G 174 442 [v0, v1, v2, .int x0] (.int x0 :: st) μ := g_iload_n (i := 3) (by decide +kernel) rfl
theorem i174_442 : m_G 174 442 L st μ = m_G 174 443 L (.int 3 :: st) μ := g_iconst (n := 3) (by decide +kernel) (by decide)
theorem i174_443 : m_G 174 443 L (.int x1 :: .int x0 :: st) μ = m_G 174 444 L (.int (x0 + x1) :: st) μ := g_iadd (by decide +kernel)
theorem i174_444 : m_G 174 444 L (.int x0 :: .retAddr 0 :: st) μ = b_i (m_gs μ x0) 174 445 L st μ := g_sald (by decide +kernel)
theorem i174_445 (ho : m_oc μ a0 = some 8) : m_G 174 445 L (.int x2 :: .int x1 :: .int x0 :: .ref a0 :: []) μ = b_c (m_D 74 [.ref a0, .int x0, .int x1, .int x2] μ) 174 448 L [] := g_virt (i := 56) (n := 3) (a := a0) (c := 8) (l := [(8, 74)]) (by decide +kernel) (by decide +kernel) rfl rfl (x_call_ok (ws := [1, 1, 1, 1]) (Nat.le_of_ble_eq_true rfl) rfl (by decide +kernel) rfl (by decide +kernel) rfl rfl) ho
theorem i174_448 : m_G 174 448 [v0, v1, .ref a0, v3] st μ = m_G 174 449 [v0, v1, .ref a0, v3] (.ref a0 :: st) μ := g_aload_n (i := 2) (by decide +kernel) rfl
theorem i174_449 : m_G 174 449 [.retAddr 0, v1, v2, v3] st μ = m_G 174 450 [.retAddr 0, v1, v2, v3] (.retAddr 0 :: st) μ := g_aload_nS (i := 0) (by decide +kernel) rfl
theorem i174_450 : m_G 174 450 [v0, v1, v2, .int x0] st μ = m_G 174 451 [v0, v1, v2, .int x0] (.int x0 :: st) μ := g_iload_n (i := 3) (by decide +kernel) rfl
theorem i174_451 : m_G 174 451 L st μ = m_G 174 452 L (.int 1 :: st) μ := g_iconst (n := 1) (by decide +kernel) (by decide)
theorem i174_452 : m_G 174 452 L (.int x1 :: .int x0 :: st) μ = m_G 174 453 L (.int (x0 + x1) :: st) μ := g_iadd (by decide +kernel)
theorem i174_453 : m_G 174 453 L (.int x0 :: .retAddr 0 :: st) μ = b_i (m_gs μ x0) 174 454 L st μ := g_sald (by decide +kernel)
theorem i174_454 : m_G 174 454 [.retAddr 0, v1, v2, v3] st μ = m_G 174 455 [.retAddr 0, v1, v2, v3] (.retAddr 0 :: st) μ := g_aload_nS (i := 0) (by decide +kernel) rfl
theorem i174_455 : m_G 174 455 [v0, v1, v2, .int x0] st μ = m_G 174 456 [v0, v1, v2, .int x0] (.int x0 :: st) μ := g_iload_n (i := 3) (by decide +kernel) rfl
theorem i174_456 : m_G 174 456 L st μ = m_G 174 457 L (.int 2 :: st) μ := g_iconst (n := 2) (by decide +kernel) (by decide)
theorem i174_457 : m_G 174 457 L (.int x1 :: .int x0 :: st) μ = m_G 174 458 L (.int (x0 + x1) :: st) μ := g_iadd (by decide +kernel)
theorem i174_458 : m_G 174 458 L (.int x0 :: .retAddr 0 :: st) μ = b_i (m_gs μ x0) 174 459 L st μ := g_sald (by decide +kernel)
theorem i174_459 : m_G 174 459 [.retAddr 0, v1, v2, v3] st μ = m_G 174 460 [.retAddr 0, v1, v2, v3] (.retAddr 0 :: st) μ := g_aload_nS (i := 0) (by decide +kernel) rfl
theorem i174_460 : m_G 174 460 [v0, v1, v2, .int x0] st μ = m_G 174 461 [v0, v1, v2, .int x0] (.int x0 :: st) μ := g_iload_n (i := 3) (by decide +kernel) rfl
theorem i174_461 : m_G 174 461 L st μ = m_G 174 462 L (.int 3 :: st) μ := g_iconst (n := 3) (by decide +kernel) (by decide)
theorem i174_462 : m_G 174 462 L (.int x1 :: .int x0 :: st) μ = m_G 174 463 L (.int (x0 + x1) :: st) μ := g_iadd (by decide +kernel)
theorem i174_463 : m_G 174 463 L (.int x0 :: .retAddr 0 :: st) μ = b_i (m_gs μ x0) 174 464 L st μ := g_sald (by decide +kernel)
theorem i174_464 (ho : m_oc μ a0 = some 9) : m_G 174 464 L (.int x2 :: .int x1 :: .int x0 :: .ref a0 :: [w0]) μ = b_c (m_D 131 [.ref a0, .int x0, .int x1, .int x2] μ) 174 467 L [w0] := g_virt (i := 59) (n := 3) (a := a0) (c := 9) (l := [(9, 131)]) (by decide +kernel) (by decide +kernel) rfl rfl (x_call_ok (ws := [1, 1, 1, 1]) (Nat.le_of_ble_eq_true rfl) rfl (by decide +kernel) rfl (by decide +kernel) rfl rfl) ho
theorem i174_467 : m_G 174 467 L (.int x1 :: .int x0 :: st) μ = if x0 = x1 then m_G 174 1069 L st μ else m_G 174 470 L st μ := g_cmpeq (off := 602) (by decide +kernel) (by decide)
theorem i174_470 : m_G 174 470 L st μ = m_G 174 471 L (.int 0 :: st) μ := g_iconst (n := 0) (by decide +kernel) (by decide)
theorem i174_471 (h : x0 &&& 1 = x0) : m_G 174 471 L [.int x0] μ = some (some (.int x0), μ) := g_iretz (by decide +kernel) (by decide) h
theorem i174_472 : m_G 174 472 [v0, .ref a0, v2, v3] st μ = m_G 174 473 [v0, .ref a0, v2, v3] (.ref a0 :: st) μ := g_aload_n (i := 1) (by decide +kernel) rfl
theorem i174_473 : m_G 174 473 [.retAddr 0, v1, v2, v3] st μ = m_G 174 474 [.retAddr 0, v1, v2, v3] (.retAddr 0 :: st) μ := g_aload_nS (i := 0) (by decide +kernel) rfl
theorem i174_474 : m_G 174 474 [v0, v1, v2, .int x0] st μ = m_G 174 475 [v0, v1, v2, .int x0] (.int x0 :: st) μ := g_iload_n (i := 3) (by decide +kernel) rfl
theorem i174_475 : m_G 174 475 L st μ = m_G 174 476 L (.int 1 :: st) μ := g_iconst (n := 1) (by decide +kernel) (by decide)
theorem i174_476 : m_G 174 476 L (.int x1 :: .int x0 :: st) μ = m_G 174 477 L (.int (x0 + x1) :: st) μ := g_iadd (by decide +kernel)
theorem i174_477 : m_G 174 477 L (.int x0 :: .retAddr 0 :: st) μ = b_i (m_gs μ x0) 174 478 L st μ := g_sald (by decide +kernel)
theorem i174_478 : m_G 174 478 [.retAddr 0, v1, v2, v3] st μ = m_G 174 479 [.retAddr 0, v1, v2, v3] (.retAddr 0 :: st) μ := g_aload_nS (i := 0) (by decide +kernel) rfl
theorem i174_479 : m_G 174 479 [v0, v1, v2, .int x0] st μ = m_G 174 480 [v0, v1, v2, .int x0] (.int x0 :: st) μ := g_iload_n (i := 3) (by decide +kernel) rfl
theorem i174_480 : m_G 174 480 L st μ = m_G 174 481 L (.int 2 :: st) μ := g_iconst (n := 2) (by decide +kernel) (by decide)
theorem i174_481 : m_G 174 481 L (.int x1 :: .int x0 :: st) μ = m_G 174 482 L (.int (x0 + x1) :: st) μ := g_iadd (by decide +kernel)
theorem i174_482 : m_G 174 482 L (.int x0 :: .retAddr 0 :: st) μ = b_i (m_gs μ x0) 174 483 L st μ := g_sald (by decide +kernel)
theorem i174_483 : m_G 174 483 [.retAddr 0, v1, v2, v3] st μ = m_G 174 484 [.retAddr 0, v1, v2, v3] (.retAddr 0 :: st) μ := g_aload_nS (i := 0) (by decide +kernel) rfl
theorem i174_484 : m_G 174 484 [v0, v1, v2, .int x0] st μ = m_G 174 485 [v0, v1, v2, .int x0] (.int x0 :: st) μ := g_iload_n (i := 3) (by decide +kernel) rfl
theorem i174_485 : m_G 174 485 L st μ = m_G 174 486 L (.int 3 :: st) μ := g_iconst (n := 3) (by decide +kernel) (by decide)
theorem i174_486 : m_G 174 486 L (.int x1 :: .int x0 :: st) μ = m_G 174 487 L (.int (x0 + x1) :: st) μ := g_iadd (by decide +kernel)
theorem i174_487 : m_G 174 487 L (.int x0 :: .retAddr 0 :: st) μ = b_i (m_gs μ x0) 174 488 L st μ := g_sald (by decide +kernel)
theorem i174_488 (ho : m_oc μ a0 = some 8) : m_G 174 488 L (.int x2 :: .int x1 :: .int x0 :: .ref a0 :: []) μ = b_c (m_D 75 [.ref a0, .int x0, .int x1, .int x2] μ) 174 491 L [] := g_virt (i := 60) (n := 3) (a := a0) (c := 8) (l := [(8, 75)]) (by decide +kernel) (by decide +kernel) rfl rfl (x_call_ok (ws := [1, 1, 1, 1]) (Nat.le_of_ble_eq_true rfl) rfl (by decide +kernel) rfl (by decide +kernel) rfl rfl) ho
theorem i174_491 : m_G 174 491 [v0, v1, .ref a0, v3] st μ = m_G 174 492 [v0, v1, .ref a0, v3] (.ref a0 :: st) μ := g_aload_n (i := 2) (by decide +kernel) rfl
theorem i174_492 : m_G 174 492 [.retAddr 0, v1, v2, v3] st μ = m_G 174 493 [.retAddr 0, v1, v2, v3] (.retAddr 0 :: st) μ := g_aload_nS (i := 0) (by decide +kernel) rfl
theorem i174_493 : m_G 174 493 [v0, v1, v2, .int x0] st μ = m_G 174 494 [v0, v1, v2, .int x0] (.int x0 :: st) μ := g_iload_n (i := 3) (by decide +kernel) rfl
theorem i174_494 : m_G 174 494 L st μ = m_G 174 495 L (.int 1 :: st) μ := g_iconst (n := 1) (by decide +kernel) (by decide)
theorem i174_495 : m_G 174 495 L (.int x1 :: .int x0 :: st) μ = m_G 174 496 L (.int (x0 + x1) :: st) μ := g_iadd (by decide +kernel)
theorem i174_496 : m_G 174 496 L (.int x0 :: .retAddr 0 :: st) μ = b_i (m_gs μ x0) 174 497 L st μ := g_sald (by decide +kernel)
theorem i174_497 : m_G 174 497 [.retAddr 0, v1, v2, v3] st μ = m_G 174 498 [.retAddr 0, v1, v2, v3] (.retAddr 0 :: st) μ := g_aload_nS (i := 0) (by decide +kernel) rfl
theorem i174_498 : m_G 174 498 [v0, v1, v2, .int x0] st μ = m_G 174 499 [v0, v1, v2, .int x0] (.int x0 :: st) μ := g_iload_n (i := 3) (by decide +kernel) rfl
theorem i174_499 : m_G 174 499 L st μ = m_G 174 500 L (.int 2 :: st) μ := g_iconst (n := 2) (by decide +kernel) (by decide)
theorem i174_500 : m_G 174 500 L (.int x1 :: .int x0 :: st) μ = m_G 174 501 L (.int (x0 + x1) :: st) μ := g_iadd (by decide +kernel)
theorem i174_501 : m_G 174 501 L (.int x0 :: .retAddr 0 :: st) μ = b_i (m_gs μ x0) 174 502 L st μ := g_sald (by decide +kernel)
theorem i174_502 : m_G 174 502 [.retAddr 0, v1, v2, v3] st μ = m_G 174 503 [.retAddr 0, v1, v2, v3] (.retAddr 0 :: st) μ := g_aload_nS (i := 0) (by decide +kernel) rfl
theorem i174_503 : m_G 174 503 [v0, v1, v2, .int x0] st μ = m_G 174 504 [v0, v1, v2, .int x0] (.int x0 :: st) μ := g_iload_n (i := 3) (by decide +kernel) rfl
theorem i174_504 : m_G 174 504 L st μ = m_G 174 505 L (.int 3 :: st) μ := g_iconst (n := 3) (by decide +kernel) (by decide)
theorem i174_505 : m_G 174 505 L (.int x1 :: .int x0 :: st) μ = m_G 174 506 L (.int (x0 + x1) :: st) μ := g_iadd (by decide +kernel)
theorem i174_506 : m_G 174 506 L (.int x0 :: .retAddr 0 :: st) μ = b_i (m_gs μ x0) 174 507 L st μ := g_sald (by decide +kernel)
theorem i174_507 (ho : m_oc μ a0 = some 9) : m_G 174 507 L (.int x2 :: .int x1 :: .int x0 :: .ref a0 :: [w0]) μ = b_c (m_D 132 [.ref a0, .int x0, .int x1, .int x2] μ) 174 510 L [w0] := g_virt (i := 63) (n := 3) (a := a0) (c := 9) (l := [(9, 132)]) (by decide +kernel) (by decide +kernel) rfl rfl (x_call_ok (ws := [1, 1, 1, 1]) (Nat.le_of_ble_eq_true rfl) rfl (by decide +kernel) rfl (by decide +kernel) rfl rfl) ho
theorem i174_510 : m_G 174 510 L (.int x1 :: .int x0 :: st) μ = if x0 = x1 then m_G 174 1069 L st μ else m_G 174 513 L st μ := g_cmpeq (off := 559) (by decide +kernel) (by decide)
theorem i174_513 : m_G 174 513 L st μ = m_G 174 514 L (.int 0 :: st) μ := g_iconst (n := 0) (by decide +kernel) (by decide)
theorem i174_514 (h : x0 &&& 1 = x0) : m_G 174 514 L [.int x0] μ = some (some (.int x0), μ) := g_iretz (by decide +kernel) (by decide) h
theorem i174_515 : m_G 174 515 [v0, .ref a0, v2, v3] st μ = m_G 174 516 [v0, .ref a0, v2, v3] (.ref a0 :: st) μ := g_aload_n (i := 1) (by decide +kernel) rfl
theorem i174_516 : m_G 174 516 [.retAddr 0, v1, v2, v3] st μ = m_G 174 517 [.retAddr 0, v1, v2, v3] (.retAddr 0 :: st) μ := g_aload_nS (i := 0) (by decide +kernel) rfl
theorem i174_517 : m_G 174 517 [v0, v1, v2, .int x0] st μ = m_G 174 518 [v0, v1, v2, .int x0] (.int x0 :: st) μ := g_iload_n (i := 3) (by decide +kernel) rfl
theorem i174_518 : m_G 174 518 L st μ = m_G 174 519 L (.int 1 :: st) μ := g_iconst (n := 1) (by decide +kernel) (by decide)
theorem i174_519 : m_G 174 519 L (.int x1 :: .int x0 :: st) μ = m_G 174 520 L (.int (x0 + x1) :: st) μ := g_iadd (by decide +kernel)
theorem i174_520 : m_G 174 520 L (.int x0 :: .retAddr 0 :: st) μ = b_i (m_gs μ x0) 174 521 L st μ := g_sald (by decide +kernel)
theorem i174_521 : m_G 174 521 [.retAddr 0, v1, v2, v3] st μ = m_G 174 522 [.retAddr 0, v1, v2, v3] (.retAddr 0 :: st) μ := g_aload_nS (i := 0) (by decide +kernel) rfl
theorem i174_522 : m_G 174 522 [v0, v1, v2, .int x0] st μ = m_G 174 523 [v0, v1, v2, .int x0] (.int x0 :: st) μ := g_iload_n (i := 3) (by decide +kernel) rfl
theorem i174_523 : m_G 174 523 L st μ = m_G 174 524 L (.int 2 :: st) μ := g_iconst (n := 2) (by decide +kernel) (by decide)
theorem i174_524 : m_G 174 524 L (.int x1 :: .int x0 :: st) μ = m_G 174 525 L (.int (x0 + x1) :: st) μ := g_iadd (by decide +kernel)
theorem i174_525 : m_G 174 525 L (.int x0 :: .retAddr 0 :: st) μ = b_i (m_gs μ x0) 174 526 L st μ := g_sald (by decide +kernel)
theorem i174_526 : m_G 174 526 L (.int x0 :: st) μ = if x0 = 0 then m_G 174 533 L st μ else m_G 174 529 L st μ := g_ifeq (off := 7) (by decide +kernel) (by decide)
theorem i174_529 : m_G 174 529 L st μ = m_G 174 530 L (.int 1 :: st) μ := g_iconst (n := 1) (by decide +kernel) (by decide)
theorem i174_530 : m_G 174 530 L st μ = m_G 174 534 L st μ := g_goto (off := 4) (by decide +kernel) (by decide)
theorem i174_533 : m_G 174 533 L st μ = m_G 174 534 L (.int 0 :: st) μ := g_iconst (n := 0) (by decide +kernel) (by decide)
theorem i174_534 (ho : m_oc μ a0 = some 8) : m_G 174 534 L (.int x1 :: .int x0 :: .ref a0 :: []) μ = b_c (m_D 76 [.ref a0, .int x0, .int x1] μ) 174 537 L [] := g_virt (i := 64) (n := 2) (a := a0) (c := 8) (l := [(8, 76)]) (by decide +kernel) (by decide +kernel) rfl rfl (x_call_ok (ws := [1, 1, 1]) (Nat.le_of_ble_eq_true rfl) rfl (by decide +kernel) rfl (by decide +kernel) rfl rfl) ho
theorem i174_537 : m_G 174 537 [v0, v1, .ref a0, v3] st μ = m_G 174 538 [v0, v1, .ref a0, v3] (.ref a0 :: st) μ := g_aload_n (i := 2) (by decide +kernel) rfl
theorem i174_538 : m_G 174 538 [.retAddr 0, v1, v2, v3] st μ = m_G 174 539 [.retAddr 0, v1, v2, v3] (.retAddr 0 :: st) μ := g_aload_nS (i := 0) (by decide +kernel) rfl
theorem i174_539 : m_G 174 539 [v0, v1, v2, .int x0] st μ = m_G 174 540 [v0, v1, v2, .int x0] (.int x0 :: st) μ := g_iload_n (i := 3) (by decide +kernel) rfl
theorem i174_540 : m_G 174 540 L st μ = m_G 174 541 L (.int 1 :: st) μ := g_iconst (n := 1) (by decide +kernel) (by decide)
theorem i174_541 : m_G 174 541 L (.int x1 :: .int x0 :: st) μ = m_G 174 542 L (.int (x0 + x1) :: st) μ := g_iadd (by decide +kernel)
theorem i174_542 : m_G 174 542 L (.int x0 :: .retAddr 0 :: st) μ = b_i (m_gs μ x0) 174 543 L st μ := g_sald (by decide +kernel)
theorem i174_543 : m_G 174 543 [.retAddr 0, v1, v2, v3] st μ = m_G 174 544 [.retAddr 0, v1, v2, v3] (.retAddr 0 :: st) μ := g_aload_nS (i := 0) (by decide +kernel) rfl
theorem i174_544 : m_G 174 544 [v0, v1, v2, .int x0] st μ = m_G 174 545 [v0, v1, v2, .int x0] (.int x0 :: st) μ := g_iload_n (i := 3) (by decide +kernel) rfl
theorem i174_545 : m_G 174 545 L st μ = m_G 174 546 L (.int 2 :: st) μ := g_iconst (n := 2) (by decide +kernel) (by decide)
theorem i174_546 : m_G 174 546 L (.int x1 :: .int x0 :: st) μ = m_G 174 547 L (.int (x0 + x1) :: st) μ := g_iadd (by decide +kernel)
theorem i174_547 : m_G 174 547 L (.int x0 :: .retAddr 0 :: st) μ = b_i (m_gs μ x0) 174 548 L st μ := g_sald (by decide +kernel)
theorem i174_548 : m_G 174 548 L (.int x0 :: st) μ = if x0 = 0 then m_G 174 555 L st μ else m_G 174 551 L st μ := g_ifeq (off := 7) (by decide +kernel) (by decide)
theorem i174_551 : m_G 174 551 L st μ = m_G 174 552 L (.int 1 :: st) μ := g_iconst (n := 1) (by decide +kernel) (by decide)
theorem i174_552 : m_G 174 552 L st μ = m_G 174 556 L st μ := g_goto (off := 4) (by decide +kernel) (by decide)
theorem i174_555 : m_G 174 555 L st μ = m_G 174 556 L (.int 0 :: st) μ := g_iconst (n := 0) (by decide +kernel) (by decide)
theorem i174_556 (ho : m_oc μ a0 = some 9) : m_G 174 556 L (.int x1 :: .int x0 :: .ref a0 :: [w0]) μ = b_c (m_D 133 [.ref a0, .int x0, .int x1] μ) 174 559 L [w0] := g_virt (i := 68) (n := 2) (a := a0) (c := 9) (l := [(9, 133)]) (by decide +kernel) (by decide +kernel) rfl rfl (x_call_ok (ws := [1, 1, 1]) (Nat.le_of_ble_eq_true rfl) rfl (by decide +kernel) rfl (by decide +kernel) rfl rfl) ho
theorem i174_559 : m_G 174 559 L (.int x1 :: .int x0 :: st) μ = if x0 = x1 then m_G 174 1069 L st μ else m_G 174 562 L st μ := g_cmpeq (off := 510) (by decide +kernel) (by decide)
theorem i174_562 : m_G 174 562 L st μ = m_G 174 563 L (.int 0 :: st) μ := g_iconst (n := 0) (by decide +kernel) (by decide)
theorem i174_563 (h : x0 &&& 1 = x0) : m_G 174 563 L [.int x0] μ = some (some (.int x0), μ) := g_iretz (by decide +kernel) (by decide) h
theorem i174_564 : m_G 174 564 [v0, .ref a0, v2, v3] st μ = m_G 174 565 [v0, .ref a0, v2, v3] (.ref a0 :: st) μ := g_aload_n (i := 1) (by decide +kernel) rfl
theorem i174_565 : m_G 174 565 [.retAddr 0, v1, v2, v3] st μ = m_G 174 566 [.retAddr 0, v1, v2, v3] (.retAddr 0 :: st) μ := g_aload_nS (i := 0) (by decide +kernel) rfl
theorem i174_566 : m_G 174 566 [v0, v1, v2, .int x0] st μ = m_G 174 567 [v0, v1, v2, .int x0] (.int x0 :: st) μ := g_iload_n (i := 3) (by decide +kernel) rfl
theorem i174_567 : m_G 174 567 L st μ = m_G 174 568 L (.int 1 :: st) μ := g_iconst (n := 1) (by decide +kernel) (by decide)
theorem i174_568 : m_G 174 568 L (.int x1 :: .int x0 :: st) μ = m_G 174 569 L (.int (x0 + x1) :: st) μ := g_iadd (by decide +kernel)
theorem i174_569 : m_G 174 569 L (.int x0 :: .retAddr 0 :: st) μ = b_i (m_gs μ x0) 174 570 L st μ := g_sald (by decide +kernel)
theorem i174_570 (ho : m_oc μ a0 = some 8) : m_G 174 570 L (.int x0 :: .ref a0 :: []) μ = b_c (m_D 77 [.ref a0, .int x0] μ) 174 573 L [] := g_virt (i := 69) (n := 1) (a := a0) (c := 8) (l := [(8, 77)]) (by decide +kernel) (by decide +kernel) rfl rfl (x_call_ok (ws := [1, 1]) (Nat.le_of_ble_eq_true rfl) rfl (by decide +kernel) rfl (by decide +kernel) rfl rfl) ho
theorem i174_573 : m_G 174 573 [v0, v1, .ref a0, v3] st μ = m_G 174 574 [v0, v1, .ref a0, v3] (.ref a0 :: st) μ := g_aload_n (i := 2) (by decide +kernel) rfl
theorem i174_574 : m_G 174 574 [.retAddr 0, v1, v2, v3] st μ = m_G 174 575 [.retAddr 0, v1, v2, v3] (.retAddr 0 :: st) μ := g_aload_nS (i := 0) (by decide +kernel) rfl
theorem i174_575 : m_G 174 575 [v0, v1, v2, .int x0] st μ = m_G 174 576 [v0, v1, v2, .int x0] (.int x0 :: st) μ := g_iload_n (i := 3) (by decide +kernel) rfl
theorem i174_576 : m_G 174 576 L st μ = m_G 174 577 L (.int 1 :: st) μ := g_iconst (n := 1) (by decide +kernel) (by decide)
theorem i174_577 : m_G 174 577 L (.int x1 :: .int x0 :: st) μ = m_G 174 578 L (.int (x0 + x1) :: st) μ := g_iadd (by decide +kernel)
theorem i174_578 : m_G 174 578 L (.int x0 :: .retAddr 0 :: st) μ = b_i (m_gs μ x0) 174 579 L st μ := g_sald (by decide +kernel)
theorem i174_579 (ho : m_oc μ a0 = some 9) : m_G 174 579 L (.int x0 :: .ref a0 :: [w0]) μ = b_c (m_D 143 [.ref a0, .int x0] μ) 174 582 L [w0] := g_virt (i := 72) (n := 1) (a := a0) (c := 9) (l := [(9, 143)]) (by decide +kernel) (by decide +kernel) rfl rfl (x_call_ok (ws := [1, 1]) (Nat.le_of_ble_eq_true rfl) rfl (by decide +kernel) rfl (by decide +kernel) rfl rfl) ho
theorem i174_582 : m_G 174 582 L (.int x1 :: .int x0 :: st) μ = if x0 = x1 then m_G 174 1069 L st μ else m_G 174 585 L st μ := g_cmpeq (off := 487) (by decide +kernel) (by decide)
theorem i174_585 : m_G 174 585 L st μ = m_G 174 586 L (.int 0 :: st) μ := g_iconst (n := 0) (by decide +kernel) (by decide)
theorem i174_586 (h : x0 &&& 1 = x0) : m_G 174 586 L [.int x0] μ = some (some (.int x0), μ) := g_iretz (by decide +kernel) (by decide) h
theorem i174_587 : m_G 174 587 [v0, .ref a0, v2, v3] st μ = m_G 174 588 [v0, .ref a0, v2, v3] (.ref a0 :: st) μ := g_aload_n (i := 1) (by decide +kernel) rfl
theorem i174_588 : m_G 174 588 [.retAddr 0, v1, v2, v3] st μ = m_G 174 589 [.retAddr 0, v1, v2, v3] (.retAddr 0 :: st) μ := g_aload_nS (i := 0) (by decide +kernel) rfl
theorem i174_589 : m_G 174 589 [v0, v1, v2, .int x0] st μ = m_G 174 590 [v0, v1, v2, .int x0] (.int x0 :: st) μ := g_iload_n (i := 3) (by decide +kernel) rfl
theorem i174_590 : m_G 174 590 L st μ = m_G 174 591 L (.int 1 :: st) μ := g_iconst (n := 1) (by decide +kernel) (by decide)
theorem i174_591 : m_G 174 591 L (.int x1 :: .int x0 :: st) μ = m_G 174 592 L (.int (x0 + x1) :: st) μ := g_iadd (by decide +kernel)
theorem i174_592 : m_G 174 592 L (.int x0 :: .retAddr 0 :: st) μ = b_i (m_gs μ x0) 174 593 L st μ := g_sald (by decide +kernel)
theorem i174_593 : m_G 174 593 [.retAddr 0, v1, v2, v3] st μ = m_G 174 594 [.retAddr 0, v1, v2, v3] (.retAddr 0 :: st) μ := g_aload_nS (i := 0) (by decide +kernel) rfl
theorem i174_594 : m_G 174 594 [v0, v1, v2, .int x0] st μ = m_G 174 595 [v0, v1, v2, .int x0] (.int x0 :: st) μ := g_iload_n (i := 3) (by decide +kernel) rfl
theorem i174_595 : m_G 174 595 L st μ = m_G 174 596 L (.int 2 :: st) μ := g_iconst (n := 2) (by decide +kernel) (by decide)
theorem i174_596 : m_G 174 596 L (.int x1 :: .int x0 :: st) μ = m_G 174 597 L (.int (x0 + x1) :: st) μ := g_iadd (by decide +kernel)
theorem i174_597 : m_G 174 597 L (.int x0 :: .retAddr 0 :: st) μ = b_i (m_gs μ x0) 174 598 L st μ := g_sald (by decide +kernel)
theorem i174_598 (ho : m_oc μ a0 = some 8) : m_G 174 598 L (.int x1 :: .int x0 :: .ref a0 :: []) μ = b_c (m_D 79 [.ref a0, .int x0, .int x1] μ) 174 601 L [] := g_virt (i := 73) (n := 2) (a := a0) (c := 8) (l := [(8, 79)]) (by decide +kernel) (by decide +kernel) rfl rfl (x_call_ok (ws := [1, 1, 1]) (Nat.le_of_ble_eq_true rfl) rfl (by decide +kernel) rfl (by decide +kernel) rfl rfl) ho
theorem i174_601 : m_G 174 601 [v0, v1, .ref a0, v3] st μ = m_G 174 602 [v0, v1, .ref a0, v3] (.ref a0 :: st) μ := g_aload_n (i := 2) (by decide +kernel) rfl
theorem i174_602 : m_G 174 602 [.retAddr 0, v1, v2, v3] st μ = m_G 174 603 [.retAddr 0, v1, v2, v3] (.retAddr 0 :: st) μ := g_aload_nS (i := 0) (by decide +kernel) rfl
theorem i174_603 : m_G 174 603 [v0, v1, v2, .int x0] st μ = m_G 174 604 [v0, v1, v2, .int x0] (.int x0 :: st) μ := g_iload_n (i := 3) (by decide +kernel) rfl
theorem i174_604 : m_G 174 604 L st μ = m_G 174 605 L (.int 1 :: st) μ := g_iconst (n := 1) (by decide +kernel) (by decide)
theorem i174_605 : m_G 174 605 L (.int x1 :: .int x0 :: st) μ = m_G 174 606 L (.int (x0 + x1) :: st) μ := g_iadd (by decide +kernel)
theorem i174_606 : m_G 174 606 L (.int x0 :: .retAddr 0 :: st) μ = b_i (m_gs μ x0) 174 607 L st μ := g_sald (by decide +kernel)
theorem i174_607 : m_G 174 607 [.retAddr 0, v1, v2, v3] st μ = m_G 174 608 [.retAddr 0, v1, v2, v3] (.retAddr 0 :: st) μ := g_aload_nS (i := 0) (by decide +kernel) rfl
theorem i174_608 : m_G 174 608 [v0, v1, v2, .int x0] st μ = m_G 174 609 [v0, v1, v2, .int x0] (.int x0 :: st) μ := g_iload_n (i := 3) (by decide +kernel) rfl
theorem i174_609 : m_G 174 609 L st μ = m_G 174 610 L (.int 2 :: st) μ := g_iconst (n := 2) (by decide +kernel) (by decide)
theorem i174_610 : m_G 174 610 L (.int x1 :: .int x0 :: st) μ = m_G 174 611 L (.int (x0 + x1) :: st) μ := g_iadd (by decide +kernel)
theorem i174_611 : m_G 174 611 L (.int x0 :: .retAddr 0 :: st) μ = b_i (m_gs μ x0) 174 612 L st μ := g_sald (by decide +kernel)
theorem i174_612 (ho : m_oc μ a0 = some 9) : m_G 174 612 L (.int x1 :: .int x0 :: .ref a0 :: [w0]) μ = b_c (m_D 144 [.ref a0, .int x0, .int x1] μ) 174 615 L [w0] := g_virt (i := 76) (n := 2) (a := a0) (c := 9) (l := [(9, 144)]) (by decide +kernel) (by decide +kernel) rfl rfl (x_call_ok (ws := [1, 1, 1]) (Nat.le_of_ble_eq_true rfl) rfl (by decide +kernel) rfl (by decide +kernel) rfl rfl) ho
theorem i174_615 : m_G 174 615 L (.int x1 :: .int x0 :: st) μ = if x0 = x1 then m_G 174 1069 L st μ else m_G 174 618 L st μ := g_cmpeq (off := 454) (by decide +kernel) (by decide)
theorem i174_618 : m_G 174 618 L st μ = m_G 174 619 L (.int 0 :: st) μ := g_iconst (n := 0) (by decide +kernel) (by decide)
theorem i174_619 (h : x0 &&& 1 = x0) : m_G 174 619 L [.int x0] μ = some (some (.int x0), μ) := g_iretz (by decide +kernel) (by decide) h
theorem i174_620 : m_G 174 620 [v0, .ref a0, v2, v3] st μ = m_G 174 621 [v0, .ref a0, v2, v3] (.ref a0 :: st) μ := g_aload_n (i := 1) (by decide +kernel) rfl
theorem i174_621 : m_G 174 621 [.retAddr 0, v1, v2, v3] st μ = m_G 174 622 [.retAddr 0, v1, v2, v3] (.retAddr 0 :: st) μ := g_aload_nS (i := 0) (by decide +kernel) rfl
theorem i174_622 : m_G 174 622 [v0, v1, v2, .int x0] st μ = m_G 174 623 [v0, v1, v2, .int x0] (.int x0 :: st) μ := g_iload_n (i := 3) (by decide +kernel) rfl
theorem i174_623 : m_G 174 623 L st μ = m_G 174 624 L (.int 1 :: st) μ := g_iconst (n := 1) (by decide +kernel) (by decide)
theorem i174_624 : m_G 174 624 L (.int x1 :: .int x0 :: st) μ = m_G 174 625 L (.int (x0 + x1) :: st) μ := g_iadd (by decide +kernel)
theorem i174_625 : m_G 174 625 L (.int x0 :: .retAddr 0 :: st) μ = b_i (m_gs μ x0) 174 626 L st μ := g_sald (by decide +kernel)
theorem i174_626 : m_G 174 626 [.retAddr 0, v1, v2, v3] st μ = m_G 174 627 [.retAddr 0, v1, v2, v3] (.retAddr 0 :: st) μ := g_aload_nS (i := 0) (by decide +kernel) rfl
theorem i174_627 : m_G 174 627 [v0, v1, v2, .int x0] st μ = m_G 174 628 [v0, v1, v2, .int x0] (.int x0 :: st) μ := g_iload_n (i := 3) (by decide +kernel) rfl
theorem i174_628 : m_G 174 628 L st μ = m_G 174 629 L (.int 2 :: st) μ := g_iconst (n := 2) (by decide +kernel) (by decide)
theorem i174_629 : m_G 174 629 L (.int x1 :: .int x0 :: st) μ = m_G 174 630 L (.int (x0 + x1) :: st) μ := g_iadd (by decide +kernel)
theorem i174_630 : m_G 174 630 L (.int x0 :: .retAddr 0 :: st) μ = b_i (m_gs μ x0) 174 631 L st μ := g_sald (by decide +kernel)
theorem i174_631 (ho : m_oc μ a0 = some 8) : m_G 174 631 L (.int x1 :: .int x0 :: .ref a0 :: []) μ = b_c (m_D 80 [.ref a0, .int x0, .int x1] μ) 174 634 L [] := g_virt (i := 77) (n := 2) (a := a0) (c := 8) (l := [(8, 80)]) (by decide +kernel) (by decide +kernel) rfl rfl (x_call_ok (ws := [1, 1, 1]) (Nat.le_of_ble_eq_true rfl) rfl (by decide +kernel) rfl (by decide +kernel) rfl rfl) ho
theorem i174_634 : m_G 174 634 [v0, v1, .ref a0, v3] st μ = m_G 174 635 [v0, v1, .ref a0, v3] (.ref a0 :: st) μ := g_aload_n (i := 2) (by decide +kernel) rfl
theorem i174_635 : m_G 174 635 [.retAddr 0, v1, v2, v3] st μ = m_G 174 636 [.retAddr 0, v1, v2, v3] (.retAddr 0 :: st) μ := g_aload_nS (i := 0) (by decide +kernel) rfl
theorem i174_636 : m_G 174 636 [v0, v1, v2, .int x0] st μ = m_G 174 637 [v0, v1, v2, .int x0] (.int x0 :: st) μ := g_iload_n (i := 3) (by decide +kernel) rfl
theorem i174_637 : m_G 174 637 L st μ = m_G 174 638 L (.int 1 :: st) μ := g_iconst (n := 1) (by decide +kernel) (by decide)
theorem i174_638 : m_G 174 638 L (.int x1 :: .int x0 :: st) μ = m_G 174 639 L (.int (x0 + x1) :: st) μ := g_iadd (by decide +kernel)
theorem i174_639 : m_G 174 639 L (.int x0 :: .retAddr 0 :: st) μ = b_i (m_gs μ x0) 174 640 L st μ := g_sald (by decide +kernel)
theorem i174_640 : m_G 174 640 [.retAddr 0, v1, v2, v3] st μ = m_G 174 641 [.retAddr 0, v1, v2, v3] (.retAddr 0 :: st) μ := g_aload_nS (i := 0) (by decide +kernel) rfl
theorem i174_641 : m_G 174 641 [v0, v1, v2, .int x0] st μ = m_G 174 642 [v0, v1, v2, .int x0] (.int x0 :: st) μ := g_iload_n (i := 3) (by decide +kernel) rfl
theorem i174_642 : m_G 174 642 L st μ = m_G 174 643 L (.int 2 :: st) μ := g_iconst (n := 2) (by decide +kernel) (by decide)
theorem i174_643 : m_G 174 643 L (.int x1 :: .int x0 :: st) μ = m_G 174 644 L (.int (x0 + x1) :: st) μ := g_iadd (by decide +kernel)
theorem i174_644 : m_G 174 644 L (.int x0 :: .retAddr 0 :: st) μ = b_i (m_gs μ x0) 174 645 L st μ := g_sald (by decide +kernel)
theorem i174_645 (ho : m_oc μ a0 = some 9) : m_G 174 645 L (.int x1 :: .int x0 :: .ref a0 :: [w0]) μ = b_c (m_D 146 [.ref a0, .int x0, .int x1] μ) 174 648 L [w0] := g_virt (i := 80) (n := 2) (a := a0) (c := 9) (l := [(9, 146)]) (by decide +kernel) (by decide +kernel) rfl rfl (x_call_ok (ws := [1, 1, 1]) (Nat.le_of_ble_eq_true rfl) rfl (by decide +kernel) rfl (by decide +kernel) rfl rfl) ho
theorem i174_648 : m_G 174 648 L (.int x1 :: .int x0 :: st) μ = if x0 = x1 then m_G 174 1069 L st μ else m_G 174 651 L st μ := g_cmpeq (off := 421) (by decide +kernel) (by decide)
theorem i174_651 : m_G 174 651 L st μ = m_G 174 652 L (.int 0 :: st) μ := g_iconst (n := 0) (by decide +kernel) (by decide)
theorem i174_652 (h : x0 &&& 1 = x0) : m_G 174 652 L [.int x0] μ = some (some (.int x0), μ) := g_iretz (by decide +kernel) (by decide) h
theorem i174_653 : m_G 174 653 [v0, .ref a0, v2, v3] st μ = m_G 174 654 [v0, .ref a0, v2, v3] (.ref a0 :: st) μ := g_aload_n (i := 1) (by decide +kernel) rfl
theorem i174_654 : m_G 174 654 [.retAddr 0, v1, v2, v3] st μ = m_G 174 655 [.retAddr 0, v1, v2, v3] (.retAddr 0 :: st) μ := g_aload_nS (i := 0) (by decide +kernel) rfl
theorem i174_655 : m_G 174 655 [v0, v1, v2, .int x0] st μ = m_G 174 656 [v0, v1, v2, .int x0] (.int x0 :: st) μ := g_iload_n (i := 3) (by decide +kernel) rfl
theorem i174_656 : m_G 174 656 L st μ = m_G 174 657 L (.int 1 :: st) μ := g_iconst (n := 1) (by decide +kernel) (by decide)
theorem i174_657 : m_G 174 657 L (.int x1 :: .int x0 :: st) μ = m_G 174 658 L (.int (x0 + x1) :: st) μ := g_iadd (by decide +kernel)
theorem i174_658 : m_G 174 658 L (.int x0 :: .retAddr 0 :: st) μ = b_i (m_gs μ x0) 174 659 L st μ := g_sald (by decide +kernel)
theorem i174_659 (ho : m_oc μ a0 = some 8) : m_G 174 659 L (.int x0 :: .ref a0 :: []) μ = b_c (m_D 81 [.ref a0, .int x0] μ) 174 662 L [] := g_virt (i := 81) (n := 1) (a := a0) (c := 8) (l := [(8, 81)]) (by decide +kernel) (by decide +kernel) rfl rfl (x_call_ok (ws := [1, 1]) (Nat.le_of_ble_eq_true rfl) rfl (by decide +kernel) rfl (by decide +kernel) rfl rfl) ho
theorem i174_662 : m_G 174 662 [v0, v1, .ref a0, v3] st μ = m_G 174 663 [v0, v1, .ref a0, v3] (.ref a0 :: st) μ := g_aload_n (i := 2) (by decide +kernel) rfl
theorem i174_663 : m_G 174 663 [.retAddr 0, v1, v2, v3] st μ = m_G 174 664 [.retAddr 0, v1, v2, v3] (.retAddr 0 :: st) μ := g_aload_nS (i := 0) (by decide +kernel) rfl
theorem i174_664 : m_G 174 664 [v0, v1, v2, .int x0] st μ = m_G 174 665 [v0, v1, v2, .int x0] (.int x0 :: st) μ := g_iload_n (i := 3) (by decide +kernel) rfl
theorem i174_665 : m_G 174 665 L st μ = m_G 174 666 L (.int 1 :: st) μ := g_iconst (n := 1) (by decide +kernel) (by decide)
theorem i174_666 : m_G 174 666 L (.int x1 :: .int x0 :: st) μ = m_G 174 667 L (.int (x0 + x1) :: st) μ := g_iadd (by decide +kernel)
theorem i174_667 : m_G 174 667 L (.int x0 :: .retAddr 0 :: st) μ = b_i (m_gs μ x0) 174 668 L st μ := g_sald (by decide +kernel)
theorem i174_668 (ho : m_oc μ a0 = some 9) : m_G 174 668 L (.int x0 :: .ref a0 :: [w0]) μ = b_c (m_D 147 [.ref a0, .int x0] μ) 174 671 L [w0] := g_virt (i := 84) (n := 1) (a := a0) (c := 9) (l := [(9, 147)]) (by decide +kernel) (by decide +kernel) rfl rfl (x_call_ok (ws := [1, 1]) (Nat.le_of_ble_eq_true rfl) rfl (by decide +kernel) rfl (by decide +kernel) rfl rfl) ho
theorem i174_671 : m_G 174 671 L (.int x1 :: .int x0 :: st) μ = if x0 = x1 then m_G 174 1069 L st μ else m_G 174 674 L st μ := g_cmpeq (off := 398) (by decide +kernel) (by decide)
theorem i174_674 : m_G 174 674 L st μ = m_G 174 675 L (.int 0 :: st) μ := g_iconst (n := 0) (by decide +kernel) (by decide)
theorem i174_675 (h : x0 &&& 1 = x0) : m_G 174 675 L [.int x0] μ = some (some (.int x0), μ) := g_iretz (by decide +kernel) (by decide) h
theorem i174_676 : m_G 174 676 [v0, .ref a0, v2, v3] st μ = m_G 174 677 [v0, .ref a0, v2, v3] (.ref a0 :: st) μ := g_aload_n (i := 1) (by decide +kernel) rfl
theorem i174_677 : m_G 174 677 [.retAddr 0, v1, v2, v3] st μ = m_G 174 678 [.retAddr 0, v1, v2, v3] (.retAddr 0 :: st) μ := g_aload_nS (i := 0) (by decide +kernel) rfl
theorem i174_678 : m_G 174 678 [v0, v1, v2, .int x0] st μ = m_G 174 679 [v0, v1, v2, .int x0] (.int x0 :: st) μ := g_iload_n (i := 3) (by decide +kernel) rfl
theorem i174_679 : m_G 174 679 L st μ = m_G 174 680 L (.int 1 :: st) μ := g_iconst (n := 1) (by decide +kernel) (by decide)
theorem i174_680 : m_G 174 680 L (.int x1 :: .int x0 :: st) μ = m_G 174 681 L (.int (x0 + x1) :: st) μ := g_iadd (by decide +kernel)
theorem i174_681 : m_G 174 681 L (.int x0 :: .retAddr 0 :: st) μ = b_i (m_gs μ x0) 174 682 L st μ := g_sald (by decide +kernel)
theorem i174_682 : m_G 174 682 [.retAddr 0, v1, v2, v3] st μ = m_G 174 683 [.retAddr 0, v1, v2, v3] (.retAddr 0 :: st) μ := g_aload_nS (i := 0) (by decide +kernel) rfl
theorem i174_683 : m_G 174 683 [v0, v1, v2, .int x0] st μ = m_G 174 684 [v0, v1, v2, .int x0] (.int x0 :: st) μ := g_iload_n (i := 3) (by decide +kernel) rfl
theorem i174_684 : m_G 174 684 L st μ = m_G 174 685 L (.int 2 :: st) μ := g_iconst (n := 2) (by decide +kernel) (by decide)
theorem i174_685 : m_G 174 685 L (.int x1 :: .int x0 :: st) μ = m_G 174 686 L (.int (x0 + x1) :: st) μ := g_iadd (by decide +kernel)
theorem i174_686 : m_G 174 686 L (.int x0 :: .retAddr 0 :: st) μ = b_i (m_gs μ x0) 174 687 L st μ := g_sald (by decide +kernel)
theorem i174_687 : m_G 174 687 [.retAddr 0, v1, v2, v3] st μ = m_G 174 688 [.retAddr 0, v1, v2, v3] (.retAddr 0 :: st) μ := g_aload_nS (i := 0) (by decide +kernel) rfl
theorem i174_688 : m_G 174 688 [v0, v1, v2, .int x0] st μ = m_G 174 689 [v0, v1, v2, .int x0] (.int x0 :: st) μ := g_iload_n (i := 3) (by decide +kernel) rfl
theorem i174_689 : m_G 174 689 L st μ = m_G 174 690 L (.int 3 :: st) μ := g_iconst (n := 3) (by decide +kernel) (by decide)
theorem i174_690 : m_G 174 690 L (.int x1 :: .int x0 :: st) μ = m_G 174 691 L (.int (x0 + x1) :: st) μ := g_iadd (by decide +kernel)
theorem i174_691 : m_G 174 691 L (.int x0 :: .retAddr 0 :: st) μ = b_i (m_gs μ x0) 174 692 L st μ := g_sald (by decide +kernel)
theorem i174_692 (ho : m_oc μ a0 = some 8) : m_G 174 692 L (.int x2 :: .int x1 :: .int x0 :: .ref a0 :: []) μ = b_c (m_D 82 [.ref a0, .int x0, .int x1, .int x2] μ) 174 695 L [] := g_virt (i := 85) (n := 3) (a := a0) (c := 8) (l := [(8, 82)]) (by decide +kernel) (by decide +kernel) rfl rfl (x_call_ok (ws := [1, 1, 1, 1]) (Nat.le_of_ble_eq_true rfl) rfl (by decide +kernel) rfl (by decide +kernel) rfl rfl) ho
theorem i174_695 : m_G 174 695 [v0, v1, .ref a0, v3] st μ = m_G 174 696 [v0, v1, .ref a0, v3] (.ref a0 :: st) μ := g_aload_n (i := 2) (by decide +kernel) rfl
theorem i174_696 : m_G 174 696 [.retAddr 0, v1, v2, v3] st μ = m_G 174 697 [.retAddr 0, v1, v2, v3] (.retAddr 0 :: st) μ := g_aload_nS (i := 0) (by decide +kernel) rfl
theorem i174_697 : m_G 174 697 [v0, v1, v2, .int x0] st μ = m_G 174 698 [v0, v1, v2, .int x0] (.int x0 :: st) μ := g_iload_n (i := 3) (by decide +kernel) rfl
theorem i174_698 : m_G 174 698 L st μ = m_G 174 699 L (.int 1 :: st) μ := g_iconst (n := 1) (by decide +kernel) (by decide)
theorem i174_699 : m_G 174 699 L (.int x1 :: .int x0 :: st) μ = m_G 174 700 L (.int (x0 + x1) :: st) μ := g_iadd (by decide +kernel)
theorem i174_700 : m_G 174 700 L (.int x0 :: .retAddr 0 :: st) μ = b_i (m_gs μ x0) 174 701 L st μ := g_sald (by decide +kernel)
theorem i174_701 : m_G 174 701 [.retAddr 0, v1, v2, v3] st μ = m_G 174 702 [.retAddr 0, v1, v2, v3] (.retAddr 0 :: st) μ := g_aload_nS (i := 0) (by decide +kernel) rfl
theorem i174_702 : m_G 174 702 [v0, v1, v2, .int x0] st μ = m_G 174 703 [v0, v1, v2, .int x0] (.int x0 :: st) μ := g_iload_n (i := 3) (by decide +kernel) rfl
theorem i174_703 : m_G 174 703 L st μ = m_G 174 704 L (.int 2 :: st) μ := g_iconst (n := 2) (by decide +kernel) (by decide)
theorem i174_704 : m_G 174 704 L (.int x1 :: .int x0 :: st) μ = m_G 174 705 L (.int (x0 + x1) :: st) μ := g_iadd (by decide +kernel)
theorem i174_705 : m_G 174 705 L (.int x0 :: .retAddr 0 :: st) μ = b_i (m_gs μ x0) 174 706 L st μ := g_sald (by decide +kernel)
theorem i174_706 : m_G 174 706 [.retAddr 0, v1, v2, v3] st μ = m_G 174 707 [.retAddr 0, v1, v2, v3] (.retAddr 0 :: st) μ := g_aload_nS (i := 0) (by decide +kernel) rfl
theorem i174_707 : m_G 174 707 [v0, v1, v2, .int x0] st μ = m_G 174 708 [v0, v1, v2, .int x0] (.int x0 :: st) μ := g_iload_n (i := 3) (by decide +kernel) rfl
theorem i174_708 : m_G 174 708 L st μ = m_G 174 709 L (.int 3 :: st) μ := g_iconst (n := 3) (by decide +kernel) (by decide)
theorem i174_709 : m_G 174 709 L (.int x1 :: .int x0 :: st) μ = m_G 174 710 L (.int (x0 + x1) :: st) μ := g_iadd (by decide +kernel)
theorem i174_710 : m_G 174 710 L (.int x0 :: .retAddr 0 :: st) μ = b_i (m_gs μ x0) 174 711 L st μ := g_sald (by decide +kernel)
theorem i174_711 (ho : m_oc μ a0 = some 9) : m_G 174 711 L (.int x2 :: .int x1 :: .int x0 :: .ref a0 :: [w0]) μ = b_c (m_D 148 [.ref a0, .int x0, .int x1, .int x2] μ) 174 714 L [w0] := g_virt (i := 88) (n := 3) (a := a0) (c := 9) (l := [(9, 148)]) (by decide +kernel) (by decide +kernel) rfl rfl (x_call_ok (ws := [1, 1, 1, 1]) (Nat.le_of_ble_eq_true rfl) rfl (by decide +kernel) rfl (by decide +kernel) rfl rfl) ho
theorem i174_714 : m_G 174 714 L (.int x1 :: .int x0 :: st) μ = if x0 = x1 then m_G 174 1069 L st μ else m_G 174 717 L st μ := g_cmpeq (off := 355) (by decide +kernel) (by decide)
theorem i174_717 : m_G 174 717 L st μ = m_G 174 718 L (.int 0 :: st) μ := g_iconst (n := 0) (by decide +kernel) (by decide)
theorem i174_718 (h : x0 &&& 1 = x0) : m_G 174 718 L [.int x0] μ = some (some (.int x0), μ) := g_iretz (by decide +kernel) (by decide) h
theorem i174_719 : m_G 174 719 [v0, .ref a0, v2, v3] st μ = m_G 174 720 [v0, .ref a0, v2, v3] (.ref a0 :: st) μ := g_aload_n (i := 1) (by decide +kernel) rfl
theorem i174_720 : m_G 174 720 [.retAddr 0, v1, v2, v3] st μ = m_G 174 721 [.retAddr 0, v1, v2, v3] (.retAddr 0 :: st) μ := g_aload_nS (i := 0) (by decide +kernel) rfl
theorem i174_721 : m_G 174 721 [v0, v1, v2, .int x0] st μ = m_G 174 722 [v0, v1, v2, .int x0] (.int x0 :: st) μ := g_iload_n (i := 3) (by decide +kernel) rfl
theorem i174_722 : m_G 174 722 L st μ = m_G 174 723 L (.int 1 :: st) μ := g_iconst (n := 1) (by decide +kernel) (by decide)
theorem i174_723 : m_G 174 723 L (.int x1 :: .int x0 :: st) μ = m_G 174 724 L (.int (x0 + x1) :: st) μ := g_iadd (by decide +kernel)
theorem i174_724 : m_G 174 724 L (.int x0 :: .retAddr 0 :: st) μ = b_i (m_gs μ x0) 174 725 L st μ := g_sald (by decide +kernel)
theorem i174_725 : m_G 174 725 [.retAddr 0, v1, v2, v3] st μ = m_G 174 726 [.retAddr 0, v1, v2, v3] (.retAddr 0 :: st) μ := g_aload_nS (i := 0) (by decide +kernel) rfl
theorem i174_726 : m_G 174 726 [v0, v1, v2, .int x0] st μ = m_G 174 727 [v0, v1, v2, .int x0] (.int x0 :: st) μ := g_iload_n (i := 3) (by decide +kernel) rfl
theorem i174_727 : m_G 174 727 L st μ = m_G 174 728 L (.int 2 :: st) μ := g_iconst (n := 2) (by decide +kernel) (by decide)
theorem i174_728 : m_G 174 728 L (.int x1 :: .int x0 :: st) μ = m_G 174 729 L (.int (x0 + x1) :: st) μ := g_iadd (by decide +kernel)
theorem i174_729 : m_G 174 729 L (.int x0 :: .retAddr 0 :: st) μ = b_i (m_gs μ x0) 174 730 L st μ := g_sald (by decide +kernel)
theorem i174_730 : m_G 174 730 [.retAddr 0, v1, v2, v3] st μ = m_G 174 731 [.retAddr 0, v1, v2, v3] (.retAddr 0 :: st) μ := g_aload_nS (i := 0) (by decide +kernel) rfl
theorem i174_731 : m_G 174 731 [v0, v1, v2, .int x0] st μ = m_G 174 732 [v0, v1, v2, .int x0] (.int x0 :: st) μ := g_iload_n (i := 3) (by decide +kernel) rfl
theorem i174_732 : m_G 174 732 L st μ = m_G 174 733 L (.int 3 :: st) μ := g_iconst (n := 3) (by decide +kernel) (by decide)
theorem i174_733 : m_G 174 733 L (.int x1 :: .int x0 :: st) μ = m_G 174 734 L (.int (x0 + x1) :: st) μ := g_iadd (by decide +kernel)
theorem i174_734 : m_G 174 734 L (.int x0 :: .retAddr 0 :: st) μ = b_i (m_gs μ x0) 174 735 L st μ := g_sald (by decide +kernel)
theorem i174_735 (ho : m_oc μ a0 = some 8) : m_G 174 735 L (.int x2 :: .int x1 :: .int x0 :: .ref a0 :: []) μ = b_c (m_D 83 [.ref a0, .int x0, .int x1, .int x2] μ) 174 738 L [] := g_virt (i := 89) (n := 3) (a := a0) (c := 8) (l := [(8, 83)]) (by decide +kernel) (by decide +kernel) rfl rfl (x_call_ok (ws := [1, 1, 1, 1]) (Nat.le_of_ble_eq_true rfl) rfl (by decide +kernel) rfl (by decide +kernel) rfl rfl) ho
theorem i174_738 : m_G 174 738 [v0, v1, .ref a0, v3] st μ = m_G 174 739 [v0, v1, .ref a0, v3] (.ref a0 :: st) μ := g_aload_n (i := 2) (by decide +kernel) rfl
theorem i174_739 : m_G 174 739 [.retAddr 0, v1, v2, v3] st μ = m_G 174 740 [.retAddr 0, v1, v2, v3] (.retAddr 0 :: st) μ := g_aload_nS (i := 0) (by decide +kernel) rfl
theorem i174_740 : m_G 174 740 [v0, v1, v2, .int x0] st μ = m_G 174 741 [v0, v1, v2, .int x0] (.int x0 :: st) μ := g_iload_n (i := 3) (by decide +kernel) rfl
theorem i174_741 : m_G 174 741 L st μ = m_G 174 742 L (.int 1 :: st) μ := g_iconst (n := 1) (by decide +kernel) (by decide)
theorem i174_742 : m_G 174 742 L (.int x1 :: .int x0 :: st) μ = m_G 174 743 L (.int (x0 + x1) :: st) μ := g_iadd (by decide +kernel)
theorem i174_743 : m_G 174 743 L (.int x0 :: .retAddr 0 :: st) μ = b_i (m_gs μ x0) 174 744 L st μ := g_sald (by decide +kernel)
theorem i174_744 : m_G 174 744 [.retAddr 0, v1, v2, v3] st μ = m_G 174 745 [.retAddr 0, v1, v2, v3] (.retAddr 0 :: st) μ := g_aload_nS (i := 0) (by decide +kernel) rfl
theorem i174_745 : m_G 174 745 [v0, v1, v2, .int x0] st μ = m_G 174 746 [v0, v1, v2, .int x0] (.int x0 :: st) μ := g_iload_n (i := 3) (by decide +kernel) rfl
theorem i174_746 : m_G 174 746 L st μ = m_G 174 747 L (.int 2 :: st) μ := g_iconst (n := 2) (by decide +kernel) (by decide)
theorem i174_747 : m_G 174 747 L (.int x1 :: .int x0 :: st) μ = m_G 174 748 L (.int (x0 + x1) :: st) μ := g_iadd (by decide +kernel)
theorem i174_748 : m_G 174 748 L (.int x0 :: .retAddr 0 :: st) μ = b_i (m_gs μ x0) 174 749 L st μ := g_sald (by decide +kernel)
theorem i174_749 : m_G 174 749 [.retAddr 0, v1, v2, v3] st μ = m_G 174 750 [.retAddr 0, v1, v2, v3] (.retAddr 0 :: st) μ := g_aload_nS (i := 0) (by decide +kernel) rfl
theorem i174_750 : m_G 174 750 [v0, v1, v2, .int x0] st μ = m_G 174 751 [v0, v1, v2, .int x0] (.int x0 :: st) μ := g_iload_n (i := 3) (by decide +kernel) rfl
theorem i174_751 : m_G 174 751 L st μ = m_G 174 752 L (.int 3 :: st) μ := g_iconst (n := 3) (by decide +kernel) (by decide)
theorem i174_752 : m_G 174 752 L (.int x1 :: .int x0 :: st) μ = m_G 174 753 L (.int (x0 + x1) :: st) μ := g_iadd (by decide +kernel)
theorem i174_753 : m_G 174 753 L (.int x0 :: .retAddr 0 :: st) μ = b_i (m_gs μ x0) 174 754 L st μ := g_sald (by decide +kernel)
theorem i174_754 (ho : m_oc μ a0 = some 9) : m_G 174 754 L (.int x2 :: .int x1 :: .int x0 :: .ref a0 :: [w0]) μ = b_c (m_D 152 [.ref a0, .int x0, .int x1, .int x2] μ) 174 757 L [w0] := g_virt (i := 92) (n := 3) (a := a0) (c := 9) (l := [(9, 152)]) (by decide +kernel) (by decide +kernel) rfl rfl (x_call_ok (ws := [1, 1, 1, 1]) (Nat.le_of_ble_eq_true rfl) rfl (by decide +kernel) rfl (by decide +kernel) rfl rfl) ho
theorem i174_757 : m_G 174 757 L (.int x1 :: .int x0 :: st) μ = if x0 = x1 then m_G 174 1069 L st μ else m_G 174 760 L st μ := g_cmpeq (off := 312) (by decide +kernel) (by decide)
theorem i174_760 : m_G 174 760 L st μ = m_G 174 761 L (.int 0 :: st) μ := g_iconst (n := 0) (by decide +kernel) (by decide)
theorem i174_761 (h : x0 &&& 1 = x0) : m_G 174 761 L [.int x0] μ = some (some (.int x0), μ) := g_iretz (by decide +kernel) (by decide) h
theorem i174_762 : m_G 174 762 [v0, .ref a0, v2, v3] st μ = m_G 174 763 [v0, .ref a0, v2, v3] (.ref a0 :: st) μ := g_aload_n (i := 1) (by decide +kernel) rfl
theorem i174_763 : m_G 174 763 [.retAddr 0, v1, v2, v3] st μ = m_G 174 764 [.retAddr 0, v1, v2, v3] (.retAddr 0 :: st) μ := g_aload_nS (i := 0) (by decide +kernel) rfl
theorem i174_764 : m_G 174 764 [v0, v1, v2, .int x0] st μ = m_G 174 765 [v0, v1, v2, .int x0] (.int x0 :: st) μ := g_iload_n (i := 3) (by decide +kernel) rfl
theorem i174_765 : m_G 174 765 L st μ = m_G 174 766 L (.int 1 :: st) μ := g_iconst (n := 1) (by decide +kernel) (by decide)
theorem i174_766 : m_G 174 766 L (.int x1 :: .int x0 :: st) μ = m_G 174 767 L (.int (x0 + x1) :: st) μ := g_iadd (by decide +kernel)
theorem i174_767 : m_G 174 767 L (.int x0 :: .retAddr 0 :: st) μ = b_i (m_gs μ x0) 174 768 L st μ := g_sald (by decide +kernel)
theorem i174_768 : m_G 174 768 [.retAddr 0, v1, v2, v3] st μ = m_G 174 769 [.retAddr 0, v1, v2, v3] (.retAddr 0 :: st) μ := g_aload_nS (i := 0) (by decide +kernel) rfl
theorem i174_769 : m_G 174 769 [v0, v1, v2, .int x0] st μ = m_G 174 770 [v0, v1, v2, .int x0] (.int x0 :: st) μ := g_iload_n (i := 3) (by decide +kernel) rfl
theorem i174_770 : m_G 174 770 L st μ = m_G 174 771 L (.int 2 :: st) μ := g_iconst (n := 2) (by decide +kernel) (by decide)
theorem i174_771 : m_G 174 771 L (.int x1 :: .int x0 :: st) μ = m_G 174 772 L (.int (x0 + x1) :: st) μ := g_iadd (by decide +kernel)
theorem i174_772 : m_G 174 772 L (.int x0 :: .retAddr 0 :: st) μ = b_i (m_gs μ x0) 174 773 L st μ := g_sald (by decide +kernel)
theorem i174_773 (ho : m_oc μ a0 = some 8) : m_G 174 773 L (.int x1 :: .int x0 :: .ref a0 :: []) μ = b_c (m_D 84 [.ref a0, .int x0, .int x1] μ) 174 776 L [] := g_virt (i := 93) (n := 2) (a := a0) (c := 8) (l := [(8, 84)]) (by decide +kernel) (by decide +kernel) rfl rfl (x_call_ok (ws := [1, 1, 1]) (Nat.le_of_ble_eq_true rfl) rfl (by decide +kernel) rfl (by decide +kernel) rfl rfl) ho
theorem i174_776 : m_G 174 776 [v0, v1, .ref a0, v3] st μ = m_G 174 777 [v0, v1, .ref a0, v3] (.ref a0 :: st) μ := g_aload_n (i := 2) (by decide +kernel) rfl
theorem i174_777 : m_G 174 777 [.retAddr 0, v1, v2, v3] st μ = m_G 174 778 [.retAddr 0, v1, v2, v3] (.retAddr 0 :: st) μ := g_aload_nS (i := 0) (by decide +kernel) rfl
theorem i174_778 : m_G 174 778 [v0, v1, v2, .int x0] st μ = m_G 174 779 [v0, v1, v2, .int x0] (.int x0 :: st) μ := g_iload_n (i := 3) (by decide +kernel) rfl
theorem i174_779 : m_G 174 779 L st μ = m_G 174 780 L (.int 1 :: st) μ := g_iconst (n := 1) (by decide +kernel) (by decide)
theorem i174_780 : m_G 174 780 L (.int x1 :: .int x0 :: st) μ = m_G 174 781 L (.int (x0 + x1) :: st) μ := g_iadd (by decide +kernel)
theorem i174_781 : m_G 174 781 L (.int x0 :: .retAddr 0 :: st) μ = b_i (m_gs μ x0) 174 782 L st μ := g_sald (by decide +kernel)
theorem i174_782 : m_G 174 782 [.retAddr 0, v1, v2, v3] st μ = m_G 174 783 [.retAddr 0, v1, v2, v3] (.retAddr 0 :: st) μ := g_aload_nS (i := 0) (by decide +kernel) rfl
theorem i174_783 : m_G 174 783 [v0, v1, v2, .int x0] st μ = m_G 174 784 [v0, v1, v2, .int x0] (.int x0 :: st) μ := g_iload_n (i := 3) (by decide +kernel) rfl
theorem i174_784 : m_G 174 784 L st μ = m_G 174 785 L (.int 2 :: st) μ := g_iconst (n := 2) (by decide +kernel) (by decide)
theorem i174_785 : m_G 174 785 L (.int x1 :: .int x0 :: st) μ = m_G 174 786 L (.int (x0 + x1) :: st) μ := g_iadd (by decide +kernel)
theorem i174_786 : m_G 174 786 L (.int x0 :: .retAddr 0 :: st) μ = b_i (m_gs μ x0) 174 787 L st μ := g_sald (by decide +kernel)
theorem i174_787 (ho : m_oc μ a0 = some 9) : m_G 174 787 L (.int x1 :: .int x0 :: .ref a0 :: [w0]) μ = b_c (m_D 154 [.ref a0, .int x0, .int x1] μ) 174 790 L [w0] := g_virt (i := 96) (n := 2) (a := a0) (c := 9) (l := [(9, 154)]) (by decide +kernel) (by decide +kernel) rfl rfl (x_call_ok (ws := [1, 1, 1]) (Nat.le_of_ble_eq_true rfl) rfl (by decide +kernel) rfl (by decide +kernel) rfl rfl) ho
theorem i174_790 : m_G 174 790 L (.int x1 :: .int x0 :: st) μ = if x0 = x1 then m_G 174 1069 L st μ else m_G 174 793 L st μ := g_cmpeq (off := 279) (by decide +kernel) (by decide)
theorem i174_793 : m_G 174 793 L st μ = m_G 174 794 L (.int 0 :: st) μ := g_iconst (n := 0) (by decide +kernel) (by decide)
theorem i174_794 (h : x0 &&& 1 = x0) : m_G 174 794 L [.int x0] μ = some (some (.int x0), μ) := g_iretz (by decide +kernel) (by decide) h
theorem i174_795 : m_G 174 795 [v0, .ref a0, v2, v3] st μ = m_G 174 796 [v0, .ref a0, v2, v3] (.ref a0 :: st) μ := g_aload_n (i := 1) (by decide +kernel) rfl
theorem i174_796 : m_G 174 796 [.retAddr 0, v1, v2, v3] st μ = m_G 174 797 [.retAddr 0, v1, v2, v3] (.retAddr 0 :: st) μ := g_aload_nS (i := 0) (by decide +kernel) rfl
theorem i174_797 : m_G 174 797 [v0, v1, v2, .int x0] st μ = m_G 174 798 [v0, v1, v2, .int x0] (.int x0 :: st) μ := g_iload_n (i := 3) (by decide +kernel) rfl
theorem i174_798 : m_G 174 798 L st μ = m_G 174 799 L (.int 1 :: st) μ := g_iconst (n := 1) (by decide +kernel) (by decide)
theorem i174_799 : m_G 174 799 L (.int x1 :: .int x0 :: st) μ = m_G 174 800 L (.int (x0 + x1) :: st) μ := g_iadd (by decide +kernel)
theorem i174_800 : m_G 174 800 L (.int x0 :: .retAddr 0 :: st) μ = b_i (m_gs μ x0) 174 801 L st μ := g_sald (by decide +kernel)
theorem i174_801 : m_G 174 801 [.retAddr 0, v1, v2, v3] st μ = m_G 174 802 [.retAddr 0, v1, v2, v3] (.retAddr 0 :: st) μ := g_aload_nS (i := 0) (by decide +kernel) rfl
theorem i174_802 : m_G 174 802 [v0, v1, v2, .int x0] st μ = m_G 174 803 [v0, v1, v2, .int x0] (.int x0 :: st) μ := g_iload_n (i := 3) (by decide +kernel) rfl
theorem i174_803 : m_G 174 803 L st μ = m_G 174 804 L (.int 2 :: st) μ := g_iconst (n := 2) (by decide +kernel) (by decide)
theorem i174_804 : m_G 174 804 L (.int x1 :: .int x0 :: st) μ = m_G 174 805 L (.int (x0 + x1) :: st) μ := g_iadd (by decide +kernel)
theorem i174_805 : m_G 174 805 L (.int x0 :: .retAddr 0 :: st) μ = b_i (m_gs μ x0) 174 806 L st μ := g_sald (by decide +kernel)
theorem i174_806 : m_G 174 806 [.retAddr 0, v1, v2, v3] st μ = m_G 174 807 [.retAddr 0, v1, v2, v3] (.retAddr 0 :: st) μ := g_aload_nS (i := 0) (by decide +kernel) rfl
theorem i174_807 : m_G 174 807 [v0, v1, v2, .int x0] st μ = m_G 174 808 [v0, v1, v2, .int x0] (.int x0 :: st) μ := g_iload_n (i := 3) (by decide +kernel) rfl
theorem i174_808 : m_G 174 808 L st μ = m_G 174 809 L (.int 3 :: st) μ := g_iconst (n := 3) (by decide +kernel) (by decide)
theorem i174_809 : m_G 174 809 L (.int x1 :: .int x0 :: st) μ = m_G 174 810 L (.int (x0 + x1) :: st) μ := g_iadd (by decide +kernel)
theorem i174_810 : m_G 174 810 L (.int x0 :: .retAddr 0 :: st) μ = b_i (m_gs μ x0) 174 811 L st μ := g_sald (by decide +kernel)
theorem i174_811 : m_G 174 811 [.retAddr 0, v1, v2, v3] st μ = m_G 174 812 [.retAddr 0, v1, v2, v3] (.retAddr 0 :: st) μ := g_aload_nS (i := 0) (by decide +kernel) rfl
theorem i174_812 : m_G 174 812 [v0, v1, v2, .int x0] st μ = m_G 174 813 [v0, v1, v2, .int x0] (.int x0 :: st) μ := g_iload_n (i := 3) (by decide +kernel) rfl
theorem i174_813 : m_G 174 813 L st μ = m_G 174 814 L (.int 4 :: st) μ := g_iconst (n := 4) (by decide +kernel) (by decide)
theorem i174_814 : m_G 174 814 L (.int x1 :: .int x0 :: st) μ = m_G 174 815 L (.int (x0 + x1) :: st) μ := g_iadd (by decide +kernel)
theorem i174_815 : m_G 174 815 L (.int x0 :: .retAddr 0 :: st) μ = b_i (m_gs μ x0) 174 816 L st μ := g_sald (by decide +kernel)
theorem i174_816 (ho : m_oc μ a0 = some 8) : m_G 174 816 L (.int x3 :: .int x2 :: .int x1 :: .int x0 :: .ref a0 :: []) μ = b_c (m_D 85 [.ref a0, .int x0, .int x1, .int x2, .int x3] μ) 174 819 L [] := g_virt (i := 97) (n := 4) (a := a0) (c := 8) (l := [(8, 85)]) (by decide +kernel) (by decide +kernel) rfl rfl (x_call_ok (ws := [1, 1, 1, 1, 1]) (Nat.le_of_ble_eq_true rfl) rfl (by decide +kernel) rfl (by decide +kernel) rfl rfl) ho
theorem i174_819 : m_G 174 819 [v0, v1, .ref a0, v3] st μ = m_G 174 820 [v0, v1, .ref a0, v3] (.ref a0 :: st) μ := g_aload_n (i := 2) (by decide +kernel) rfl
theorem i174_820 : m_G 174 820 [.retAddr 0, v1, v2, v3] st μ = m_G 174 821 [.retAddr 0, v1, v2, v3] (.retAddr 0 :: st) μ := g_aload_nS (i := 0) (by decide +kernel) rfl
theorem i174_821 : m_G 174 821 [v0, v1, v2, .int x0] st μ = m_G 174 822 [v0, v1, v2, .int x0] (.int x0 :: st) μ := g_iload_n (i := 3) (by decide +kernel) rfl
theorem i174_822 : m_G 174 822 L st μ = m_G 174 823 L (.int 1 :: st) μ := g_iconst (n := 1) (by decide +kernel) (by decide)
theorem i174_823 : m_G 174 823 L (.int x1 :: .int x0 :: st) μ = m_G 174 824 L (.int (x0 + x1) :: st) μ := g_iadd (by decide +kernel)
theorem i174_824 : m_G 174 824 L (.int x0 :: .retAddr 0 :: st) μ = b_i (m_gs μ x0) 174 825 L st μ := g_sald (by decide +kernel)
theorem i174_825 : m_G 174 825 [.retAddr 0, v1, v2, v3] st μ = m_G 174 826 [.retAddr 0, v1, v2, v3] (.retAddr 0 :: st) μ := g_aload_nS (i := 0) (by decide +kernel) rfl
theorem i174_826 : m_G 174 826 [v0, v1, v2, .int x0] st μ = m_G 174 827 [v0, v1, v2, .int x0] (.int x0 :: st) μ := g_iload_n (i := 3) (by decide +kernel) rfl
theorem i174_827 : m_G 174 827 L st μ = m_G 174 828 L (.int 2 :: st) μ := g_iconst (n := 2) (by decide +kernel) (by decide)
theorem i174_828 : m_G 174 828 L (.int x1 :: .int x0 :: st) μ = m_G 174 829 L (.int (x0 + x1) :: st) μ := g_iadd (by decide +kernel)
theorem i174_829 : m_G 174 829 L (.int x0 :: .retAddr 0 :: st) μ = b_i (m_gs μ x0) 174 830 L st μ := g_sald (by decide +kernel)
theorem i174_830 : m_G 174 830 [.retAddr 0, v1, v2, v3] st μ = m_G 174 831 [.retAddr 0, v1, v2, v3] (.retAddr 0 :: st) μ := g_aload_nS (i := 0) (by decide +kernel) rfl
theorem i174_831 : m_G 174 831 [v0, v1, v2, .int x0] st μ = m_G 174 832 [v0, v1, v2, .int x0] (.int x0 :: st) μ := g_iload_n (i := 3) (by decide +kernel) rfl
theorem i174_832 : m_G 174 832 L st μ = m_G 174 833 L (.int 3 :: st) μ := g_iconst (n := 3) (by decide +kernel) (by decide)
theorem i174_833 : m_G 174 833 L (.int x1 :: .int x0 :: st) μ = m_G 174 834 L (.int (x0 + x1) :: st) μ := g_iadd (by decide +kernel)
theorem i174_834 : m_G 174 834 L (.int x0 :: .retAddr 0 :: st) μ = b_i (m_gs μ x0) 174 835 L st μ := g_sald (by decide +kernel)
theorem i174_835 : m_G 174 835 [.retAddr 0, v1, v2, v3] st μ = m_G 174 836 [.retAddr 0, v1, v2, v3] (.retAddr 0 :: st) μ := g_aload_nS (i := 0) (by decide +kernel) rfl
theorem i174_836 : m_G 174 836 [v0, v1, v2, .int x0] st μ = m_G 174 837 [v0, v1, v2, .int x0] (.int x0 :: st) μ := g_iload_n (i := 3) (by decide +kernel) rfl
theorem i174_837 : m_G 174 837 L st μ = m_G 174 838 L (.int 4 :: st) μ := g_iconst (n := 4) (by decide +kernel) (by decide)
theorem i174_838 : m_G 174 838 L (.int x1 :: .int x0 :: st) μ = m_G 174 839 L (.int (x0 + x1) :: st) μ := g_iadd (by decide +kernel)
theorem i174_839 : m_G 174 839 L (.int x0 :: .retAddr 0 :: st) μ = b_i (m_gs μ x0) 174 840 L st μ := g_sald (by decide +kernel)
theorem i174_840 (ho : m_oc μ a0 = some 9) : m_G 174 840 L (.int x3 :: .int x2 :: .int x1 :: .int x0 :: .ref a0 :: [w0]) μ = b_c (m_D 156 [.ref a0, .int x0, .int x1, .int x2, .int x3] μ) 174 843 L [w0] := g_virt (i := 101) (n := 4) (a := a0) (c := 9) (l := [(9, 156)]) (by decide +kernel) (by decide +kernel) rfl rfl (x_call_ok (ws := [1, 1, 1, 1, 1]) (Nat.le_of_ble_eq_true rfl) rfl (by decide +kernel) rfl (by decide +kernel) rfl rfl) ho
theorem i174_843 : m_G 174 843 L (.int x1 :: .int x0 :: st) μ = if x0 = x1 then m_G 174 1069 L st μ else m_G 174 846 L st μ := g_cmpeq (off := 226) (by decide +kernel) (by decide)
theorem i174_846 : m_G 174 846 L st μ = m_G 174 847 L (.int 0 :: st) μ := g_iconst (n := 0) (by decide +kernel) (by decide)
theorem i174_847 (h : x0 &&& 1 = x0) : m_G 174 847 L [.int x0] μ = some (some (.int x0), μ) := g_iretz (by decide +kernel) (by decide) h
theorem i174_848 : m_G 174 848 [v0, .ref a0, v2, v3] st μ = m_G 174 849 [v0, .ref a0, v2, v3] (.ref a0 :: st) μ := g_aload_n (i := 1) (by decide +kernel) rfl
theorem i174_849 : m_G 174 849 [.retAddr 0, v1, v2, v3] st μ = m_G 174 850 [.retAddr 0, v1, v2, v3] (.retAddr 0 :: st) μ := g_aload_nS (i := 0) (by decide +kernel) rfl
theorem i174_850 : m_G 174 850 [v0, v1, v2, .int x0] st μ = m_G 174 851 [v0, v1, v2, .int x0] (.int x0 :: st) μ := g_iload_n (i := 3) (by decide +kernel) rfl
theorem i174_851 : m_G 174 851 L st μ = m_G 174 852 L (.int 1 :: st) μ := g_iconst (n := 1) (by decide +kernel) (by decide)
theorem i174_852 : m_G 174 852 L (.int x1 :: .int x0 :: st) μ = m_G 174 853 L (.int (x0 + x1) :: st) μ := g_iadd (by decide +kernel)
theorem i174_853 : m_G 174 853 L (.int x0 :: .retAddr 0 :: st) μ = b_i (m_gs μ x0) 174 854 L st μ := g_sald (by decide +kernel)
theorem i174_854 : m_G 174 854 [.retAddr 0, v1, v2, v3] st μ = m_G 174 855 [.retAddr 0, v1, v2, v3] (.retAddr 0 :: st) μ := g_aload_nS (i := 0) (by decide +kernel) rfl
theorem i174_855 : m_G 174 855 [v0, v1, v2, .int x0] st μ = m_G 174 856 [v0, v1, v2, .int x0] (.int x0 :: st) μ := g_iload_n (i := 3) (by decide +kernel) rfl
theorem i174_856 : m_G 174 856 L st μ = m_G 174 857 L (.int 2 :: st) μ := g_iconst (n := 2) (by decide +kernel) (by decide)
theorem i174_857 : m_G 174 857 L (.int x1 :: .int x0 :: st) μ = m_G 174 858 L (.int (x0 + x1) :: st) μ := g_iadd (by decide +kernel)
theorem i174_858 : m_G 174 858 L (.int x0 :: .retAddr 0 :: st) μ = b_i (m_gs μ x0) 174 859 L st μ := g_sald (by decide +kernel)
theorem i174_859 (ho : m_oc μ a0 = some 8) : m_G 174 859 L (.int x1 :: .int x0 :: .ref a0 :: []) μ = b_c (m_D 86 [.ref a0, .int x0, .int x1] μ) 174 862 L [] := g_virt (i := 102) (n := 2) (a := a0) (c := 8) (l := [(8, 86)]) (by decide +kernel) (by decide +kernel) rfl rfl (x_call_ok (ws := [1, 1, 1]) (Nat.le_of_ble_eq_true rfl) rfl (by decide +kernel) rfl (by decide +kernel) rfl rfl) ho
theorem i174_862 : m_G 174 862 [v0, v1, .ref a0, v3] st μ = m_G 174 863 [v0, v1, .ref a0, v3] (.ref a0 :: st) μ := g_aload_n (i := 2) (by decide +kernel) rfl
theorem i174_863 : m_G 174 863 [.retAddr 0, v1, v2, v3] st μ = m_G 174 864 [.retAddr 0, v1, v2, v3] (.retAddr 0 :: st) μ := g_aload_nS (i := 0) (by decide +kernel) rfl
theorem i174_864 : m_G 174 864 [v0, v1, v2, .int x0] st μ = m_G 174 865 [v0, v1, v2, .int x0] (.int x0 :: st) μ := g_iload_n (i := 3) (by decide +kernel) rfl
theorem i174_865 : m_G 174 865 L st μ = m_G 174 866 L (.int 1 :: st) μ := g_iconst (n := 1) (by decide +kernel) (by decide)
theorem i174_866 : m_G 174 866 L (.int x1 :: .int x0 :: st) μ = m_G 174 867 L (.int (x0 + x1) :: st) μ := g_iadd (by decide +kernel)
theorem i174_867 : m_G 174 867 L (.int x0 :: .retAddr 0 :: st) μ = b_i (m_gs μ x0) 174 868 L st μ := g_sald (by decide +kernel)
theorem i174_868 : m_G 174 868 [.retAddr 0, v1, v2, v3] st μ = m_G 174 869 [.retAddr 0, v1, v2, v3] (.retAddr 0 :: st) μ := g_aload_nS (i := 0) (by decide +kernel) rfl
theorem i174_869 : m_G 174 869 [v0, v1, v2, .int x0] st μ = m_G 174 870 [v0, v1, v2, .int x0] (.int x0 :: st) μ := g_iload_n (i := 3) (by decide +kernel) rfl
theorem i174_870 : m_G 174 870 L st μ = m_G 174 871 L (.int 2 :: st) μ := g_iconst (n := 2) (by decide +kernel) (by decide)
theorem i174_871 : m_G 174 871 L (.int x1 :: .int x0 :: st) μ = m_G 174 872 L (.int (x0 + x1) :: st) μ := g_iadd (by decide +kernel)
theorem i174_872 : m_G 174 872 L (.int x0 :: .retAddr 0 :: st) μ = b_i (m_gs μ x0) 174 873 L st μ := g_sald (by decide +kernel)
theorem i174_873 (ho : m_oc μ a0 = some 9) : m_G 174 873 L (.int x1 :: .int x0 :: .ref a0 :: [w0]) μ = b_c (m_D 160 [.ref a0, .int x0, .int x1] μ) 174 876 L [w0] := g_virt (i := 105) (n := 2) (a := a0) (c := 9) (l := [(9, 160)]) (by decide +kernel) (by decide +kernel) rfl rfl (x_call_ok (ws := [1, 1, 1]) (Nat.le_of_ble_eq_true rfl) rfl (by decide +kernel) rfl (by decide +kernel) rfl rfl) ho
theorem i174_876 : m_G 174 876 L (.int x1 :: .int x0 :: st) μ = if x0 = x1 then m_G 174 1069 L st μ else m_G 174 879 L st μ := g_cmpeq (off := 193) (by decide +kernel) (by decide)
theorem i174_879 : m_G 174 879 L st μ = m_G 174 880 L (.int 0 :: st) μ := g_iconst (n := 0) (by decide +kernel) (by decide)
theorem i174_880 (h : x0 &&& 1 = x0) : m_G 174 880 L [.int x0] μ = some (some (.int x0), μ) := g_iretz (by decide +kernel) (by decide) h
theorem i174_881 : m_G 174 881 [v0, .ref a0, v2, v3] st μ = m_G 174 882 [v0, .ref a0, v2, v3] (.ref a0 :: st) μ := g_aload_n (i := 1) (by decide +kernel) rfl
theorem i174_882 : m_G 174 882 [.retAddr 0, v1, v2, v3] st μ = m_G 174 883 [.retAddr 0, v1, v2, v3] (.retAddr 0 :: st) μ := g_aload_nS (i := 0) (by decide +kernel) rfl
theorem i174_883 : m_G 174 883 [v0, v1, v2, .int x0] st μ = m_G 174 884 [v0, v1, v2, .int x0] (.int x0 :: st) μ := g_iload_n (i := 3) (by decide +kernel) rfl
theorem i174_884 : m_G 174 884 L st μ = m_G 174 885 L (.int 1 :: st) μ := g_iconst (n := 1) (by decide +kernel) (by decide)
theorem i174_885 : m_G 174 885 L (.int x1 :: .int x0 :: st) μ = m_G 174 886 L (.int (x0 + x1) :: st) μ := g_iadd (by decide +kernel)
theorem i174_886 : m_G 174 886 L (.int x0 :: .retAddr 0 :: st) μ = b_i (m_gs μ x0) 174 887 L st μ := g_sald (by decide +kernel)
theorem i174_887 (ho : m_oc μ a0 = some 8) : m_G 174 887 L (.int x0 :: .ref a0 :: []) μ = b_c (m_D 87 [.ref a0, .int x0] μ) 174 890 L [] := g_virt (i := 106) (n := 1) (a := a0) (c := 8) (l := [(8, 87)]) (by decide +kernel) (by decide +kernel) rfl rfl (x_call_ok (ws := [1, 1]) (Nat.le_of_ble_eq_true rfl) rfl (by decide +kernel) rfl (by decide +kernel) rfl rfl) ho
theorem i174_890 : m_G 174 890 [v0, v1, .ref a0, v3] st μ = m_G 174 891 [v0, v1, .ref a0, v3] (.ref a0 :: st) μ := g_aload_n (i := 2) (by decide +kernel) rfl
theorem i174_891 : m_G 174 891 [.retAddr 0, v1, v2, v3] st μ = m_G 174 892 [.retAddr 0, v1, v2, v3] (.retAddr 0 :: st) μ := g_aload_nS (i := 0) (by decide +kernel) rfl
theorem i174_892 : m_G 174 892 [v0, v1, v2, .int x0] st μ = m_G 174 893 [v0, v1, v2, .int x0] (.int x0 :: st) μ := g_iload_n (i := 3) (by decide +kernel) rfl
theorem i174_893 : m_G 174 893 L st μ = m_G 174 894 L (.int 1 :: st) μ := g_iconst (n := 1) (by decide +kernel) (by decide)
theorem i174_894 : m_G 174 894 L (.int x1 :: .int x0 :: st) μ = m_G 174 895 L (.int (x0 + x1) :: st) μ := g_iadd (by decide +kernel)
theorem i174_895 : m_G 174 895 L (.int x0 :: .retAddr 0 :: st) μ = b_i (m_gs μ x0) 174 896 L st μ := g_sald (by decide +kernel)
theorem i174_896 (ho : m_oc μ a0 = some 9) : m_G 174 896 L (.int x0 :: .ref a0 :: [w0]) μ = b_c (m_D 161 [.ref a0, .int x0] μ) 174 899 L [w0] := g_virt (i := 109) (n := 1) (a := a0) (c := 9) (l := [(9, 161)]) (by decide +kernel) (by decide +kernel) rfl rfl (x_call_ok (ws := [1, 1]) (Nat.le_of_ble_eq_true rfl) rfl (by decide +kernel) rfl (by decide +kernel) rfl rfl) ho
theorem i174_899 : m_G 174 899 L (.int x1 :: .int x0 :: st) μ = if x0 = x1 then m_G 174 1069 L st μ else m_G 174 902 L st μ := g_cmpeq (off := 170) (by decide +kernel) (by decide)
theorem i174_902 : m_G 174 902 L st μ = m_G 174 903 L (.int 0 :: st) μ := g_iconst (n := 0) (by decide +kernel) (by decide)
theorem i174_903 (h : x0 &&& 1 = x0) : m_G 174 903 L [.int x0] μ = some (some (.int x0), μ) := g_iretz (by decide +kernel) (by decide) h
theorem i174_904 : m_G 174 904 [v0, .ref a0, v2, v3] st μ = m_G 174 905 [v0, .ref a0, v2, v3] (.ref a0 :: st) μ := g_aload_n (i := 1) (by decide +kernel) rfl
theorem i174_905 : m_G 174 905 [.retAddr 0, v1, v2, v3] st μ = m_G 174 906 [.retAddr 0, v1, v2, v3] (.retAddr 0 :: st) μ := g_aload_nS (i := 0) (by decide +kernel) rfl
theorem i174_906 : m_G 174 906 [v0, v1, v2, .int x0] st μ = m_G 174 907 [v0, v1, v2, .int x0] (.int x0 :: st) μ := g_iload_n (i := 3) (by decide +kernel) rfl
theorem i174_907 : m_G 174 907 L st μ = m_G 174 908 L (.int 1 :: st) μ := g_iconst (n := 1) (by decide +kernel) (by decide)
theorem i174_908 : m_G 174 908 L (.int x1 :: .int x0 :: st) μ = m_G 174 909 L (.int (x0 + x1) :: st) μ := g_iadd (by decide +kernel)
theorem i174_909 : m_G 174 909 L (.int x0 :: .retAddr 0 :: st) μ = b_i (m_gs μ x0) 174 910 L st μ := g_sald (by decide +kernel)
theorem i174_910 : m_G 174 910 [.retAddr 0, v1, v2, v3] st μ = m_G 174 911 [.retAddr 0, v1, v2, v3] (.retAddr 0 :: st) μ := g_aload_nS (i := 0) (by decide +kernel) rfl
theorem i174_911 : m_G 174 911 [v0, v1, v2, .int x0] st μ = m_G 174 912 [v0, v1, v2, .int x0] (.int x0 :: st) μ := g_iload_n (i := 3) (by decide +kernel) rfl
theorem i174_912 : m_G 174 912 L st μ = m_G 174 913 L (.int 2 :: st) μ := g_iconst (n := 2) (by decide +kernel) (by decide)
theorem i174_913 : m_G 174 913 L (.int x1 :: .int x0 :: st) μ = m_G 174 914 L (.int (x0 + x1) :: st) μ := g_iadd (by decide +kernel)
theorem i174_914 : m_G 174 914 L (.int x0 :: .retAddr 0 :: st) μ = b_i (m_gs μ x0) 174 915 L st μ := g_sald (by decide +kernel)
theorem i174_915 : m_G 174 915 [.retAddr 0, v1, v2, v3] st μ = m_G 174 916 [.retAddr 0, v1, v2, v3] (.retAddr 0 :: st) μ := g_aload_nS (i := 0) (by decide +kernel) rfl
theorem i174_916 : m_G 174 916 [v0, v1, v2, .int x0] st μ = m_G 174 917 [v0, v1, v2, .int x0] (.int x0 :: st) μ := g_iload_n (i := 3) (by decide +kernel) rfl
theorem i174_917 : m_G 174 917 L st μ = m_G 174 918 L (.int 3 :: st) μ := g_iconst (n := 3) (by decide +kernel) (by decide)
theorem i174_918 : m_G 174 918 L (.int x1 :: .int x0 :: st) μ = m_G 174 919 L (.int (x0 + x1) :: st) μ := g_iadd (by decide +kernel)
theorem i174_919 : m_G 174 919 L (.int x0 :: .retAddr 0 :: st) μ = b_i (m_gs μ x0) 174 920 L st μ := g_sald (by decide +kernel)
theorem i174_920 : m_G 174 920 [.retAddr 0, v1, v2, v3] st μ = m_G 174 921 [.retAddr 0, v1, v2, v3] (.retAddr 0 :: st) μ := g_aload_nS (i := 0) (by decide +kernel) rfl
theorem i174_921 : m_G 174 921 [v0, v1, v2, .int x0] st μ = m_G 174 922 [v0, v1, v2, .int x0] (.int x0 :: st) μ := g_iload_n (i := 3) (by decide +kernel) rfl
theorem i174_922 : m_G 174 922 L st μ = m_G 174 923 L (.int 4 :: st) μ := g_iconst (n := 4) (by decide +kernel) (by decide)
theorem i174_923 : m_G 174 923 L (.int x1 :: .int x0 :: st) μ = m_G 174 924 L (.int (x0 + x1) :: st) μ := g_iadd (by decide +kernel)
theorem i174_924 : m_G 174 924 L (.int x0 :: .retAddr 0 :: st) μ = b_i (m_gs μ x0) 174 925 L st μ := g_sald (by decide +kernel)
theorem i174_925 : m_G 174 925 [.retAddr 0, v1, v2, v3] st μ = m_G 174 926 [.retAddr 0, v1, v2, v3] (.retAddr 0 :: st) μ := g_aload_nS (i := 0) (by decide +kernel) rfl
theorem i174_926 : m_G 174 926 [v0, v1, v2, .int x0] st μ = m_G 174 927 [v0, v1, v2, .int x0] (.int x0 :: st) μ := g_iload_n (i := 3) (by decide +kernel) rfl
theorem i174_927 : m_G 174 927 L st μ = m_G 174 928 L (.int 5 :: st) μ := g_iconst (n := 5) (by decide +kernel) (by decide)
theorem i174_928 : m_G 174 928 L (.int x1 :: .int x0 :: st) μ = m_G 174 929 L (.int (x0 + x1) :: st) μ := g_iadd (by decide +kernel)
theorem i174_929 : m_G 174 929 L (.int x0 :: .retAddr 0 :: st) μ = b_i (m_gs μ x0) 174 930 L st μ := g_sald (by decide +kernel)
theorem i174_930 : m_G 174 930 [.retAddr 0, v1, v2, v3] st μ = m_G 174 931 [.retAddr 0, v1, v2, v3] (.retAddr 0 :: st) μ := g_aload_nS (i := 0) (by decide +kernel) rfl
theorem i174_931 : m_G 174 931 [v0, v1, v2, .int x0] st μ = m_G 174 932 [v0, v1, v2, .int x0] (.int x0 :: st) μ := g_iload_n (i := 3) (by decide +kernel) rfl
theorem i174_932 : m_G 174 932 L st μ = m_G 174 934 L (.int 6 :: st) μ := g_bipush (n := 6) (by decide +kernel) (by decide)
theorem i174_934 : m_G 174 934 L (.int x1 :: .int x0 :: st) μ = m_G 174 935 L (.int (x0 + x1) :: st) μ := g_iadd (by decide +kernel)
theorem i174_935 : m_G 174 935 L (.int x0 :: .retAddr 0 :: st) μ = b_i (m_gs μ x0) 174 936 L st μ := g_sald (by decide +kernel)
theorem i174_936 (ho : m_oc μ a0 = some 8) : m_G 174 936 L (.int x5 :: .int x4 :: .int x3 :: .int x2 :: .int x1 :: .int x0 :: .ref a0 :: []) μ = b_c (m_D 88 [.ref a0, .int x0, .int x1, .int x2, .int x3, .int x4, .int x5] μ) 174 939 L [] := g_virt (i := 110) (n := 6) (a := a0) (c := 8) (l := [(8, 88)]) (by decide +kernel) (by decide +kernel) rfl rfl (x_call_ok (ws := [1, 1, 1, 1, 1, 1, 1]) (Nat.le_of_ble_eq_true rfl) rfl (by decide +kernel) rfl (by decide +kernel) rfl rfl) ho
theorem i174_939 : m_G 174 939 [v0, v1, .ref a0, v3] st μ = m_G 174 940 [v0, v1, .ref a0, v3] (.ref a0 :: st) μ := g_aload_n (i := 2) (by decide +kernel) rfl
theorem i174_940 : m_G 174 940 [.retAddr 0, v1, v2, v3] st μ = m_G 174 941 [.retAddr 0, v1, v2, v3] (.retAddr 0 :: st) μ := g_aload_nS (i := 0) (by decide +kernel) rfl
theorem i174_941 : m_G 174 941 [v0, v1, v2, .int x0] st μ = m_G 174 942 [v0, v1, v2, .int x0] (.int x0 :: st) μ := g_iload_n (i := 3) (by decide +kernel) rfl
theorem i174_942 : m_G 174 942 L st μ = m_G 174 943 L (.int 1 :: st) μ := g_iconst (n := 1) (by decide +kernel) (by decide)
theorem i174_943 : m_G 174 943 L (.int x1 :: .int x0 :: st) μ = m_G 174 944 L (.int (x0 + x1) :: st) μ := g_iadd (by decide +kernel)
theorem i174_944 : m_G 174 944 L (.int x0 :: .retAddr 0 :: st) μ = b_i (m_gs μ x0) 174 945 L st μ := g_sald (by decide +kernel)
theorem i174_945 : m_G 174 945 [.retAddr 0, v1, v2, v3] st μ = m_G 174 946 [.retAddr 0, v1, v2, v3] (.retAddr 0 :: st) μ := g_aload_nS (i := 0) (by decide +kernel) rfl
theorem i174_946 : m_G 174 946 [v0, v1, v2, .int x0] st μ = m_G 174 947 [v0, v1, v2, .int x0] (.int x0 :: st) μ := g_iload_n (i := 3) (by decide +kernel) rfl
theorem i174_947 : m_G 174 947 L st μ = m_G 174 948 L (.int 2 :: st) μ := g_iconst (n := 2) (by decide +kernel) (by decide)
theorem i174_948 : m_G 174 948 L (.int x1 :: .int x0 :: st) μ = m_G 174 949 L (.int (x0 + x1) :: st) μ := g_iadd (by decide +kernel)
theorem i174_949 : m_G 174 949 L (.int x0 :: .retAddr 0 :: st) μ = b_i (m_gs μ x0) 174 950 L st μ := g_sald (by decide +kernel)
theorem i174_950 : m_G 174 950 [.retAddr 0, v1, v2, v3] st μ = m_G 174 951 [.retAddr 0, v1, v2, v3] (.retAddr 0 :: st) μ := g_aload_nS (i := 0) (by decide +kernel) rfl
theorem i174_951 : m_G 174 951 [v0, v1, v2, .int x0] st μ = m_G 174 952 [v0, v1, v2, .int x0] (.int x0 :: st) μ := g_iload_n (i := 3) (by decide +kernel) rfl
theorem i174_952 : m_G 174 952 L st μ = m_G 174 953 L (.int 3 :: st) μ := g_iconst (n := 3) (by decide +kernel) (by decide)
theorem i174_953 : m_G 174 953 L (.int x1 :: .int x0 :: st) μ = m_G 174 954 L (.int (x0 + x1) :: st) μ := g_iadd (by decide +kernel)
theorem i174_954 : m_G 174 954 L (.int x0 :: .retAddr 0 :: st) μ = b_i (m_gs μ x0) 174 955 L st μ := g_sald (by decide +kernel)
theorem i174_955 : m_G 174 955 [.retAddr 0, v1, v2, v3] st μ = m_G 174 956 [.retAddr 0, v1, v2, v3] (.retAddr 0 :: st) μ := g_aload_nS (i := 0) (by decide +kernel) rfl
theorem i174_956 : m_G 174 956 [v0, v1, v2, .int x0] st μ = m_G 174 957 [v0, v1, v2, .int x0] (.int x0 :: st) μ := g_iload_n (i := 3) (by decide +kernel) rfl
theorem i174_957 : m_G 174 957 L st μ = m_G 174 958 L (.int 4 :: st) μ := g_iconst (n := 4) (by decide +kernel) (by decide)
theorem i174_958 : m_G 174 958 L (.int x1 :: .int x0 :: st) μ = m_G 174 959 L (.int (x0 + x1) :: st) μ := g_iadd (by decide +kernel)
theorem i174_959 : m_G 174 959 L (.int x0 :: .retAddr 0 :: st) μ = b_i (m_gs μ x0) 174 960 L st μ := g_sald (by decide +kernel)
theorem i174_960 : m_G 174 960 [.retAddr 0, v1, v2, v3] st μ = m_G 174 961 [.retAddr 0, v1, v2, v3] (.retAddr 0 :: st) μ := g_aload_nS (i := 0) (by decide +kernel) rfl
theorem i174_961 : m_G 174 961 [v0, v1, v2, .int x0] st μ = m_G 174 962 [v0, v1, v2, .int x0] (.int x0 :: st) μ := g_iload_n (i := 3) (by decide +kernel) rfl
theorem i174_962 : m_G 174 962 L st μ = m_G 174 963 L (.int 5 :: st) μ := g_iconst (n := 5) (by decide +kernel) (by decide)
theorem i174_963 : m_G 174 963 L (.int x1 :: .int x0 :: st) μ = m_G 174 964 L (.int (x0 + x1) :: st) μ := g_iadd (by decide +kernel)
theorem i174_964 : m_G 174 964 L (.int x0 :: .retAddr 0 :: st) μ = b_i (m_gs μ x0) 174 965 L st μ := g_sald (by decide +kernel)
theorem i174_965 : m_G 174 965 [.retAddr 0, v1, v2, v3] st μ = m_G 174 966 [.retAddr 0, v1, v2, v3] (.retAddr 0 :: st) μ := g_aload_nS (i := 0) (by decide +kernel) rfl
theorem i174_966 : m_G 174 966 [v0, v1, v2, .int x0] st μ = m_G 174 967 [v0, v1, v2, .int x0] (.int x0 :: st) μ := g_iload_n (i := 3) (by decide +kernel) rfl
theorem i174_967 : m_G 174 967 L st μ = m_G 174 969 L (.int 6 :: st) μ := g_bipush (n := 6) (by decide +kernel) (by decide)
theorem i174_969 : m_G 174 969 L (.int x1 :: .int x0 :: st) μ = m_G 174 970 L (.int (x0 + x1) :: st) μ := g_iadd (by decide +kernel)
theorem i174_970 : m_G 174 970 L (.int x0 :: .retAddr 0 :: st) μ = b_i (m_gs μ x0) 174 971 L st μ := g_sald (by decide +kernel)
theorem i174_971 (ho : m_oc μ a0 = some 9) : m_G 174 971 L (.int x5 :: .int x4 :: .int x3 :: .int x2 :: .int x1 :: .int x0 :: .ref a0 :: [w0]) μ = b_c (m_D 163 [.ref a0, .int x0, .int x1, .int x2, .int x3, .int x4, .int x5] μ) 174 974 L [w0] := g_virt (i := 114) (n := 6) (a := a0) (c := 9) (l := [(9, 163)]) (by decide +kernel) (by decide +kernel) rfl rfl (x_call_ok (ws := [1, 1, 1, 1, 1, 1, 1]) (Nat.le_of_ble_eq_true rfl) rfl (by decide +kernel) rfl (by decide +kernel) rfl rfl) ho
theorem i174_974 : m_G 174 974 L (.int x1 :: .int x0 :: st) μ = if x0 = x1 then m_G 174 1069 L st μ else m_G 174 977 L st μ := g_cmpeq (off := 95) (by decide +kernel) (by decide)
theorem i174_977 : m_G 174 977 L st μ = m_G 174 978 L (.int 0 :: st) μ := g_iconst (n := 0) (by decide +kernel) (by decide)
theorem i174_978 (h : x0 &&& 1 = x0) : m_G 174 978 L [.int x0] μ = some (some (.int x0), μ) := g_iretz (by decide +kernel) (by decide) h
theorem i174_979 : m_G 174 979 [v0, .ref a0, v2, v3] st μ = m_G 174 980 [v0, .ref a0, v2, v3] (.ref a0 :: st) μ := g_aload_n (i := 1) (by decide +kernel) rfl
theorem i174_980 : m_G 174 980 [.retAddr 0, v1, v2, v3] st μ = m_G 174 981 [.retAddr 0, v1, v2, v3] (.retAddr 0 :: st) μ := g_aload_nS (i := 0) (by decide +kernel) rfl
theorem i174_981 : m_G 174 981 [v0, v1, v2, .int x0] st μ = m_G 174 982 [v0, v1, v2, .int x0] (.int x0 :: st) μ := g_iload_n (i := 3) (by decide +kernel) rfl
theorem i174_982 : m_G 174 982 L st μ = m_G 174 983 L (.int 1 :: st) μ := g_iconst (n := 1) (by decide +kernel) (by decide)
theorem i174_983 : m_G 174 983 L (.int x1 :: .int x0 :: st) μ = m_G 174 984 L (.int (x0 + x1) :: st) μ := g_iadd (by decide +kernel)
theorem i174_984 : m_G 174 984 L (.int x0 :: .retAddr 0 :: st) μ = b_i (m_gs μ x0) 174 985 L st μ := g_sald (by decide +kernel)
theorem i174_985 : m_G 174 985 [.retAddr 0, v1, v2, v3] st μ = m_G 174 986 [.retAddr 0, v1, v2, v3] (.retAddr 0 :: st) μ := g_aload_nS (i := 0) (by decide +kernel) rfl
theorem i174_986 : m_G 174 986 [v0, v1, v2, .int x0] st μ = m_G 174 987 [v0, v1, v2, .int x0] (.int x0 :: st) μ := g_iload_n (i := 3) (by decide +kernel) rfl
theorem i174_987 : m_G 174 987 L st μ = m_G 174 988 L (.int 2 :: st) μ := g_iconst (n := 2) (by decide +kernel) (by decide)
theorem i174_988 : m_G 174 988 L (.int x1 :: .int x0 :: st) μ = m_G 174 989 L (.int (x0 + x1) :: st) μ := g_iadd (by decide +kernel)
theorem i174_989 : m_G 174 989 L (.int x0 :: .retAddr 0 :: st) μ = b_i (m_gs μ x0) 174 990 L st μ := g_sald (by decide +kernel)
theorem i174_990 : m_G 174 990 [.retAddr 0, v1, v2, v3] st μ = m_G 174 991 [.retAddr 0, v1, v2, v3] (.retAddr 0 :: st) μ := g_aload_nS (i := 0) (by decide +kernel) rfl
theorem i174_991 : m_G 174 991 [v0, v1, v2, .int x0] st μ = m_G 174 992 [v0, v1, v2, .int x0] (.int x0 :: st) μ := g_iload_n (i := 3) (by decide +kernel) rfl
theorem i174_992 : m_G 174 992 L st μ = m_G 174 993 L (.int 3 :: st) μ := g_iconst (n := 3) (by decide +kernel) (by decide)
theorem i174_993 : m_G 174 993 L (.int x1 :: .int x0 :: st) μ = m_G 174 994 L (.int (x0 + x1) :: st) μ := g_iadd (by decide +kernel)
theorem i174_994 : m_G 174 994 L (.int x0 :: .retAddr 0 :: st) μ = b_i (m_gs μ x0) 174 995 L st μ := g_sald (by decide +kernel)
theorem i174_995 : m_G 174 995 [.retAddr 0, v1, v2, v3] st μ = m_G 174 996 [.retAddr 0, v1, v2, v3] (.retAddr 0 :: st) μ := g_aload_nS (i := 0) (by decide +kernel) rfl
theorem i174_996 : m_G 174 996 [v0, v1, v2, .int x0] st μ = m_G 174 997 [v0, v1, v2, .int x0] (.int x0 :: st) μ := g_iload_n (i := 3) (by decide +kernel) rfl
theorem i174_997 : m_G 174 997 L st μ = m_G 174 998 L (.int 4 :: st) μ := g_iconst (n := 4) (by decide +kernel) (by decide)
theorem i174_998 : m_G 174 998 L (.int x1 :: .int x0 :: st) μ = m_G 174 999 L (.int (x0 + x1) :: st) μ := g_iadd (by decide +kernel)
theorem i174_999 : m_G 174 999 L (.int x0 :: .retAddr 0 :: st) μ = b_i (m_gs μ x0) 174 1000 L st μ := g_sald (by decide +kernel)
theorem i174_1000 (ho : m_oc μ a0 = some 8) : m_G 174 1000 L (.int x3 :: .int x2 :: .int x1 :: .int x0 :: .ref a0 :: []) μ = b_c (m_D 91 [.ref a0, .int x0, .int x1, .int x2, .int x3] μ) 174 1003 L [] := g_virt (i := 115) (n := 4) (a := a0) (c := 8) (l := [(8, 91)]) (by decide +kernel) (by decide +kernel) rfl rfl (x_call_ok (ws := [1, 1, 1, 1, 1]) (Nat.le_of_ble_eq_true rfl) rfl (by decide +kernel) rfl (by decide +kernel) rfl rfl) ho
theorem i174_1003 : m_G 174 1003 [v0, v1, .ref a0, v3] st μ = m_G 174 1004 [v0, v1, .ref a0, v3] (.ref a0 :: st) μ := g_aload_n (i := 2) (by decide +kernel) rfl
theorem i174_1004 : m_G 174 1004 [.retAddr 0, v1, v2, v3] st μ = m_G 174 1005 [.retAddr 0, v1, v2, v3] (.retAddr 0 :: st) μ := g_aload_nS (i := 0) (by decide +kernel) rfl
theorem i174_1005 : m_G 174 1005 [v0, v1, v2, .int x0] st μ = m_G 174 1006 [v0, v1, v2, .int x0] (.int x0 :: st) μ := g_iload_n (i := 3) (by decide +kernel) rfl
theorem i174_1006 : m_G 174 1006 L st μ = m_G 174 1007 L (.int 1 :: st) μ := g_iconst (n := 1) (by decide +kernel) (by decide)
theorem i174_1007 : m_G 174 1007 L (.int x1 :: .int x0 :: st) μ = m_G 174 1008 L (.int (x0 + x1) :: st) μ := g_iadd (by decide +kernel)
theorem i174_1008 : m_G 174 1008 L (.int x0 :: .retAddr 0 :: st) μ = b_i (m_gs μ x0) 174 1009 L st μ := g_sald (by decide +kernel)
theorem i174_1009 : m_G 174 1009 [.retAddr 0, v1, v2, v3] st μ = m_G 174 1010 [.retAddr 0, v1, v2, v3] (.retAddr 0 :: st) μ := g_aload_nS (i := 0) (by decide +kernel) rfl
theorem i174_1010 : m_G 174 1010 [v0, v1, v2, .int x0] st μ = m_G 174 1011 [v0, v1, v2, .int x0] (.int x0 :: st) μ := g_iload_n (i := 3) (by decide +kernel) rfl
theorem i174_1011 : m_G 174 1011 L st μ = m_G 174 1012 L (.int 2 :: st) μ := g_iconst (n := 2) (by decide +kernel) (by decide)
theorem i174_1012 : m_G 174 1012 L (.int x1 :: .int x0 :: st) μ = m_G 174 1013 L (.int (x0 + x1) :: st) μ := g_iadd (by decide +kernel)
theorem i174_1013 : m_G 174 1013 L (.int x0 :: .retAddr 0 :: st) μ = b_i (m_gs μ x0) 174 1014 L st μ := g_sald (by decide +kernel)
theorem i174_1014 : m_G 174 1014 [.retAddr 0, v1, v2, v3] st μ = m_G 174 1015 [.retAddr 0, v1, v2, v3] (.retAddr 0 :: st) μ := g_aload_nS (i := 0) (by decide +kernel) rfl
theorem i174_1015 : m_G 174 1015 [v0, v1, v2, .int x0] st μ = m_G 174 1016 [v0, v1, v2, .int x0] (.int x0 :: st) μ := g_iload_n (i := 3) (by decide +kernel) rfl
theorem i174_1016 : m_G 174 1016 L st μ = m_G 174 1017 L (.int 3 :: st) μ := g_iconst (n := 3) (by decide +kernel) (by decide)
theorem i174_1017 : m_G 174 1017 L (.int x1 :: .int x0 :: st) μ = m_G 174 1018 L (.int (x0 + x1) :: st) μ := g_iadd (by decide +kernel)
theorem i174_1018 : m_G 174 1018 L (.int x0 :: .retAddr 0 :: st) μ = b_i (m_gs μ x0) 174 1019 L st μ := g_sald (by decide +kernel)
theorem i174_1019 : m_G 174 1019 [.retAddr 0, v1, v2, v3] st μ = m_G 174 1020 [.retAddr 0, v1, v2, v3] (.retAddr 0 :: st) μ := g_aload_nS (i := 0) (by decide +kernel) rfl
theorem i174_1020 : m_G 174 1020 [v0, v1, v2, .int x0] st μ = m_G 174 1021 [v0, v1, v2, .int x0] (.int x0 :: st) μ := g_iload_n (i := 3) (by decide +kernel) rfl
theorem i174_1021 : m_G 174 1021 L st μ = m_G 174 1022 L (.int 4 :: st) μ := g_iconst (n := 4) (by decide +kernel) (by decide)
theorem i174_1022 : m_G 174 1022 L (.int x1 :: .int x0 :: st) μ = m_G 174 1023 L (.int (x0 + x1) :: st) μ := g_iadd (by decide +kernel)
theorem i174_1023 : m_G 174 1023 L (.int x0 :: .retAddr 0 :: st) μ = b_i (m_gs μ x0) 174 1024 L st μ := g_sald (by decide +kernel)
theorem i174_1024 (ho : m_oc μ a0 = some 9) : m_G 174 1024 L (.int x3 :: .int x2 :: .int x1 :: .int x0 :: .ref a0 :: [w0]) μ = b_c (m_D 164 [.ref a0, .int x0, .int x1, .int x2, .int x3] μ) 174 1027 L [w0] := g_virt (i := 118) (n := 4) (a := a0) (c := 9) (l := [(9, 164)]) (by decide +kernel) (by decide +kernel) rfl rfl (x_call_ok (ws := [1, 1, 1, 1, 1]) (Nat.le_of_ble_eq_true rfl) rfl (by decide +kernel) rfl (by decide +kernel) rfl rfl) ho
theorem i174_1027 : m_G 174 1027 L (.int x1 :: .int x0 :: st) μ = if x0 = x1 then m_G 174 1069 L st μ else m_G 174 1030 L st μ := g_cmpeq (off := 42) (by decide +kernel) (by decide)
theorem i174_1030 : m_G 174 1030 L st μ = m_G 174 1031 L (.int 0 :: st) μ := g_iconst (n := 0) (by decide +kernel) (by decide)
theorem i174_1031 (h : x0 &&& 1 = x0) : m_G 174 1031 L [.int x0] μ = some (some (.int x0), μ) := g_iretz (by decide +kernel) (by decide) h
theorem i174_1032 : m_G 174 1032 [v0, .ref a0, v2, v3] st μ = m_G 174 1033 [v0, .ref a0, v2, v3] (.ref a0 :: st) μ := g_aload_n (i := 1) (by decide +kernel) rfl
theorem i174_1033 : m_G 174 1033 [.retAddr 0, v1, v2, v3] st μ = m_G 174 1034 [.retAddr 0, v1, v2, v3] (.retAddr 0 :: st) μ := g_aload_nS (i := 0) (by decide +kernel) rfl
theorem i174_1034 : m_G 174 1034 [v0, v1, v2, .int x0] st μ = m_G 174 1035 [v0, v1, v2, .int x0] (.int x0 :: st) μ := g_iload_n (i := 3) (by decide +kernel) rfl
theorem i174_1035 : m_G 174 1035 L st μ = m_G 174 1036 L (.int 1 :: st) μ := g_iconst (n := 1) (by decide +kernel) (by decide)
theorem i174_1036 : m_G 174 1036 L (.int x1 :: .int x0 :: st) μ = m_G 174 1037 L (.int (x0 + x1) :: st) μ := g_iadd (by decide +kernel)
theorem i174_1037 : m_G 174 1037 L (.int x0 :: .retAddr 0 :: st) μ = b_i (m_gs μ x0) 174 1038 L st μ := g_sald (by decide +kernel)
theorem i174_1038 (ho : m_oc μ a0 = some 8) : m_G 174 1038 L (.int x0 :: .ref a0 :: []) μ = b_c (m_D 92 [.ref a0, .int x0] μ) 174 1041 L [] := g_virt (i := 119) (n := 1) (a := a0) (c := 8) (l := [(8, 92)]) (by decide +kernel) (by decide +kernel) rfl rfl (x_call_ok (ws := [1, 1]) (Nat.le_of_ble_eq_true rfl) rfl (by decide +kernel) rfl (by decide +kernel) rfl rfl) ho
theorem i174_1041 : m_G 174 1041 [v0, v1, .ref a0, v3] st μ = m_G 174 1042 [v0, v1, .ref a0, v3] (.ref a0 :: st) μ := g_aload_n (i := 2) (by decide +kernel) rfl
theorem i174_1042 : m_G 174 1042 [.retAddr 0, v1, v2, v3] st μ = m_G 174 1043 [.retAddr 0, v1, v2, v3] (.retAddr 0 :: st) μ := g_aload_nS (i := 0) (by decide +kernel) rfl
theorem i174_1043 : m_G 174 1043 [v0, v1, v2, .int x0] st μ = m_G 174 1044 [v0, v1, v2, .int x0] (.int x0 :: st) μ := g_iload_n (i := 3) (by decide +kernel) rfl
theorem i174_1044 : m_G 174 1044 L st μ = m_G 174 1045 L (.int 1 :: st) μ := g_iconst (n := 1) (by decide +kernel) (by decide)
theorem i174_1045 : m_G 174 1045 L (.int x1 :: .int x0 :: st) μ = m_G 174 1046 L (.int (x0 + x1) :: st) μ := g_iadd (by decide +kernel)
theorem i174_1046 : m_G 174 1046 L (.int x0 :: .retAddr 0 :: st) μ = b_i (m_gs μ x0) 174 1047 L st μ := g_sald (by decide +kernel)
theorem i174_1047 (ho : m_oc μ a0 = some 9) : m_G 174 1047 L (.int x0 :: .ref a0 :: [w0]) μ = b_c (m_D 166 [.ref a0, .int x0] μ) 174 1050 L [w0] := g_virt (i := 122) (n := 1) (a := a0) (c := 9) (l := [(9, 166)]) (by decide +kernel) (by decide +kernel) rfl rfl (x_call_ok (ws := [1, 1]) (Nat.le_of_ble_eq_true rfl) rfl (by decide +kernel) rfl (by decide +kernel) rfl rfl) ho
theorem i174_1050 : m_G 174 1050 L (.int x1 :: .int x0 :: st) μ = if x0 = x1 then m_G 174 1069 L st μ else m_G 174 1053 L st μ := g_cmpeq (off := 19) (by decide +kernel) (by decide)
theorem i174_1053 : m_G 174 1053 L st μ = m_G 174 1054 L (.int 0 :: st) μ := g_iconst (n := 0) (by decide +kernel) (by decide)
theorem i174_1054 (h : x0 &&& 1 = x0) : m_G 174 1054 L [.int x0] μ = some (some (.int x0), μ) := g_iretz (by decide +kernel) (by decide) h
theorem i174_1055 : m_G 174 1055 [v0, .ref a0, v2, v3] st μ = m_G 174 1056 [v0, .ref a0, v2, v3] (.ref a0 :: st) μ := g_aload_n (i := 1) (by decide +kernel) rfl
theorem i174_1056 (ho : m_oc μ a0 = some 8) : m_G 174 1056 L (.ref a0 :: []) μ = b_c (m_D 94 [.ref a0] μ) 174 1059 L [] := g_virt (i := 123) (n := 0) (a := a0) (c := 8) (l := [(8, 94)]) (by decide +kernel) (by decide +kernel) rfl rfl (x_call_ok (ws := [1]) (Nat.le_of_ble_eq_true rfl) rfl (by decide +kernel) rfl (by decide +kernel) rfl rfl) ho
theorem i174_1059 : m_G 174 1059 [v0, v1, .ref a0, v3] st μ = m_G 174 1060 [v0, v1, .ref a0, v3] (.ref a0 :: st) μ := g_aload_n (i := 2) (by decide +kernel) rfl
theorem i174_1060 (ho : m_oc μ a0 = some 9) : m_G 174 1060 L (.ref a0 :: [w0]) μ = b_c (m_D 168 [.ref a0] μ) 174 1063 L [w0] := g_virt (i := 127) (n := 0) (a := a0) (c := 9) (l := [(9, 168)]) (by decide +kernel) (by decide +kernel) rfl rfl (x_call_ok (ws := [1]) (Nat.le_of_ble_eq_true rfl) rfl (by decide +kernel) rfl (by decide +kernel) rfl rfl) ho
theorem i174_1063 : m_G 174 1063 L (.long l1 :: .long l0 :: st) μ = m_G 174 1064 L (.int (lg_cmp l0 l1) :: st) μ := g_lcmp (by decide +kernel)
theorem i174_1064 : m_G 174 1064 L (.int x0 :: st) μ = if x0 = 0 then m_G 174 1069 L st μ else m_G 174 1067 L st μ := g_ifeq (off := 5) (by decide +kernel) (by decide)
theorem i174_1067 : m_G 174 1067 L st μ = m_G 174 1068 L (.int 0 :: st) μ := g_iconst (n := 0) (by decide +kernel) (by decide)
theorem i174_1068 (h : x0 &&& 1 = x0) : m_G 174 1068 L [.int x0] μ = some (some (.int x0), μ) := g_iretz (by decide +kernel) (by decide) h
theorem i174_1069 : m_G 174 1069 [v0, v1, v2, .int x0] st μ = m_G 174 1072 [v0, v1, v2, .int (x0 + 7)] st μ := g_iinc (i := 3) (n := 7) (by decide +kernel) rfl (by decide) rfl
theorem i174_1072 : m_G 174 1072 L st μ = m_G 174 18 L st μ := g_goto (off := -1054) (by decide +kernel) (by decide)
theorem i174_1075 : m_G 174 1075 L st μ = m_G 174 1076 L (.int 1 :: st) μ := g_iconst (n := 1) (by decide +kernel) (by decide)
theorem i174_1076 (h : x0 &&& 1 = x0) : m_G 174 1076 L [.int x0] μ = some (some (.int x0), μ) := g_iretz (by decide +kernel) (by decide) h
end i_24_id
