section i_22_ib
variable {v0 v1 v2 v3 v4 v5 v6 v7 v8 v9 v10 v11 v12 v13 v14 v15 v16 v17 v18 v19 w0 w1 w2 w3 w4 w5 : Value} {x0 x1 x2 x3 x4 x5 x6 : Int32} {l0 l1 l2 l3 : Int64} {a0 a1 a2 a3 a4 a5 a6 : Nat} {st L : List Value} {μ : mM}
theorem i0_0 : m_G 0 0 [.ref a0] st μ = m_G 0 1 [.ref a0] (.ref a0 :: st) μ := g_aload_n (i := 0) (by decide +kernel) rfl
theorem i0_1 : m_G 0 1 L (.ref a0 :: []) μ = m_G 0 4 L [] μ := g_obj (i := 3) (by decide +kernel) (by decide +kernel) ⟨Nat.le_of_ble_eq_true rfl, by decide, by decide⟩
theorem i0_4 : m_G 0 4 [.ref a0] st μ = m_G 0 5 [.ref a0] (.ref a0 :: st) μ := g_aload_n (i := 0) (by decide +kernel) rfl
theorem i0_5 : m_G 0 5 L st μ = m_G 0 8 L (.int 192 :: st) μ := g_sipush (n := 192) (by decide +kernel) (by decide)
theorem i0_8 : m_G 0 8 L (.int x0 :: st) μ = if x_nok x0 = true then m_G 0 10 L (.ref (mN μ) :: st) (m_new μ x0.toNatClampNeg (m_ia 0 x0.toNatClampNeg (fun _ => 0))) else none := g_newa (t := .int) (by decide +kernel) rfl
theorem i0_10 : m_G 0 10 L (w0 :: .ref a0 :: st) μ = b_m (m_pf μ a0 0 5 (.array .int) w0) 0 13 L st := g_putf (i := 9) (by decide +kernel) (by decide +kernel) (Or.inr ⟨by decide, by decide⟩) (by decide)
theorem i0_13 : m_G 0 13 [.ref a0] st μ = m_G 0 14 [.ref a0] (.ref a0 :: st) μ := g_aload_n (i := 0) (by decide +kernel) rfl
theorem i0_14 : m_G 0 14 L st μ = m_G 0 16 L (.int 25 :: st) μ := g_bipush (n := 25) (by decide +kernel) (by decide)
theorem i0_16 : m_G 0 16 L (.int x0 :: st) μ = if x_nok x0 = true then m_G 0 18 L (.ref (mN μ) :: st) (m_new μ x0.toNatClampNeg (m_ia 0 x0.toNatClampNeg (fun _ => 0))) else none := g_newa (t := .int) (by decide +kernel) rfl
theorem i0_18 : m_G 0 18 L (w0 :: .ref a0 :: st) μ = b_m (m_pf μ a0 0 6 (.array .int) w0) 0 21 L st := g_putf (i := 15) (by decide +kernel) (by decide +kernel) (Or.inr ⟨by decide, by decide⟩) (by decide)
theorem i0_21 : m_G 0 21 L [] μ = some (none, μ) := g_ret (by decide +kernel) (by decide)
theorem D0 : m_D 0 [.ref a0] μ = m_G 0 0 [.ref a0] [] μ := d_def (by decide) rfl
theorem i1_0 : m_G 1 0 [.ref a0, v1, v2, v3] st μ = m_G 1 1 [.ref a0, v1, v2, v3] (.ref a0 :: st) μ := g_aload_n (i := 0) (by decide +kernel) rfl
theorem i1_1 : m_G 1 1 L st μ = m_G 1 2 L (.int 0 :: st) μ := g_iconst (n := 0) (by decide +kernel) (by decide)
theorem i1_2 : m_G 1 2 L (w0 :: .ref a0 :: st) μ = b_m (m_pf μ a0 0 0 .int w0) 1 5 L st := g_putf (i := 18) (by decide +kernel) (by decide +kernel) (Or.inl (by decide)) (by decide)
theorem i1_5 : m_G 1 5 [.ref a0, v1, v2, v3] st μ = m_G 1 6 [.ref a0, v1, v2, v3] (.ref a0 :: st) μ := g_aload_n (i := 0) (by decide +kernel) rfl
theorem i1_6 : m_G 1 6 L st μ = m_G 1 7 L (.int (-1) :: st) μ := g_iconst (n := -1) (by decide +kernel) (by decide)
theorem i1_7 : m_G 1 7 L (w0 :: .ref a0 :: st) μ = b_m (m_pf μ a0 0 1 .int w0) 1 10 L st := g_putf (i := 22) (by decide +kernel) (by decide +kernel) (Or.inl (by decide)) (by decide)
theorem i1_10 : m_G 1 10 [.ref a0, v1, v2, v3] st μ = m_G 1 11 [.ref a0, v1, v2, v3] (.ref a0 :: st) μ := g_aload_n (i := 0) (by decide +kernel) rfl
theorem i1_11 : m_G 1 11 L st μ = m_G 1 12 L (.int (-1) :: st) μ := g_iconst (n := -1) (by decide +kernel) (by decide)
theorem i1_12 : m_G 1 12 L (w0 :: .ref a0 :: st) μ = b_m (m_pf μ a0 0 2 .int w0) 1 15 L st := g_putf (i := 25) (by decide +kernel) (by decide +kernel) (Or.inl (by decide)) (by decide)
theorem i1_15 : m_G 1 15 [.ref a0, v1, v2, v3] st μ = m_G 1 16 [.ref a0, v1, v2, v3] (.ref a0 :: st) μ := g_aload_n (i := 0) (by decide +kernel) rfl
theorem i1_16 : m_G 1 16 L st μ = m_G 1 17 L (.int (-1) :: st) μ := g_iconst (n := -1) (by decide +kernel) (by decide)
theorem i1_17 : m_G 1 17 L (w0 :: .ref a0 :: st) μ = b_m (m_pf μ a0 0 3 .int w0) 1 20 L st := g_putf (i := 28) (by decide +kernel) (by decide +kernel) (Or.inl (by decide)) (by decide)
theorem i1_20 : m_G 1 20 [.ref a0, v1, v2, v3] st μ = m_G 1 21 [.ref a0, v1, v2, v3] (.ref a0 :: st) μ := g_aload_n (i := 0) (by decide +kernel) rfl
theorem i1_21 : m_G 1 21 L (.ref a0 :: st) μ = b_v (m_gf μ a0 0 5) 1 24 L st μ := g_getf (i := 9) (by decide +kernel) (by decide +kernel)
theorem i1_24 : m_G 1 24 L st μ = m_G 1 25 L (.int 0 :: st) μ := g_iconst (n := 0) (by decide +kernel) (by decide)
theorem i1_25 : m_G 1 25 L (.int x1 :: .ref a1 :: []) μ = b_c (m_D 172 [.ref a1, .int x1] μ) 1 28 L [] := g_stat (i := 31) (n := 2) (by decide +kernel) (by decide +kernel) (by decide) (x_call_ok (ws := [1, 1]) (Nat.le_of_ble_eq_true rfl) rfl (by decide +kernel) rfl (by decide +kernel) rfl rfl)
theorem i1_28 : m_G 1 28 L st μ = m_G 1 29 L (.int 0 :: st) μ := g_iconst (n := 0) (by decide +kernel) (by decide)
theorem i1_29 : m_G 1 29 [v0, v1, v2, v3] (.int x0 :: st) μ = m_G 1 30 [v0, v1, v2, .int x0] st μ := g_istore_n (i := 3) (by decide +kernel) (Nat.le_of_ble_eq_true rfl) rfl
theorem i1_30 : m_G 1 30 [v0, v1, v2, .int x0] st μ = m_G 1 31 [v0, v1, v2, .int x0] (.int x0 :: st) μ := g_iload_n (i := 3) (by decide +kernel) rfl
theorem i1_31 : m_G 1 31 [v0, v1, .int x0, v3] st μ = m_G 1 32 [v0, v1, .int x0, v3] (.int x0 :: st) μ := g_iload_n (i := 2) (by decide +kernel) rfl
theorem i1_32 : m_G 1 32 L (.int x1 :: .int x0 :: st) μ = if x0 < x1 then m_G 1 35 L st μ else m_G 1 47 L st μ := g_cmpge (off := 15) (by decide +kernel) (by decide)
theorem i1_35 : m_G 1 35 [v0, .ref a0, v2, v3] st μ = m_G 1 36 [v0, .ref a0, v2, v3] (.ref a0 :: st) μ := g_aload_n (i := 1) (by decide +kernel) rfl
theorem i1_36 : m_G 1 36 [v0, v1, v2, .int x0] st μ = m_G 1 37 [v0, v1, v2, .int x0] (.int x0 :: st) μ := g_iload_n (i := 3) (by decide +kernel) rfl
theorem i1_37 : m_G 1 37 L (.int x0 :: .ref a0 :: st) μ = b_r (m_gr μ a0 x0) 1 38 L st μ := g_aald (by decide +kernel)
theorem i1_38 (ho : m_oc μ a0 = some 3) : m_G 1 38 L (.ref a0 :: []) μ = b_c (m_D 26 [.ref a0] μ) 1 41 L [] := g_virt (i := 37) (n := 0) (a := a0) (c := 3) (l := [(3, 26)]) (by decide +kernel) (by decide +kernel) rfl rfl (x_call_ok (ws := [1]) (Nat.le_of_ble_eq_true rfl) rfl (by decide +kernel) rfl (by decide +kernel) rfl rfl) ho
theorem i1_41 : m_G 1 41 [v0, v1, v2, .int x0] st μ = m_G 1 44 [v0, v1, v2, .int (x0 + 1)] st μ := g_iinc (i := 3) (n := 1) (by decide +kernel) rfl (by decide) rfl
theorem i1_44 : m_G 1 44 L st μ = m_G 1 30 L st μ := g_goto (off := -14) (by decide +kernel) (by decide)
theorem i1_47 : m_G 1 47 L st μ = m_G 1 48 L (.int 0 :: st) μ := g_iconst (n := 0) (by decide +kernel) (by decide)
theorem i1_48 : m_G 1 48 [v0, v1, v2, v3] (.int x0 :: st) μ = m_G 1 49 [v0, v1, v2, .int x0] st μ := g_istore_n (i := 3) (by decide +kernel) (Nat.le_of_ble_eq_true rfl) rfl
theorem i1_49 : m_G 1 49 [v0, v1, v2, .int x0] st μ = m_G 1 50 [v0, v1, v2, .int x0] (.int x0 :: st) μ := g_iload_n (i := 3) (by decide +kernel) rfl
theorem i1_50 : m_G 1 50 L st μ = m_G 1 53 L (.int 3615 :: st) μ := g_sipush (n := 3615) (by decide +kernel) (by decide)
theorem i1_53 : m_G 1 53 L (.int x1 :: .int x0 :: st) μ = if x0 < x1 then m_G 1 56 L st μ else m_G 1 78 L st μ := g_cmpge (off := 25) (by decide +kernel) (by decide)
theorem i1_56 : m_G 1 56 [v0, .ref a0, v2, v3] st μ = m_G 1 57 [v0, .ref a0, v2, v3] (.ref a0 :: st) μ := g_aload_n (i := 1) (by decide +kernel) rfl
theorem i1_57 : m_G 1 57 [v0, v1, .int x0, v3] st μ = m_G 1 58 [v0, v1, .int x0, v3] (.int x0 :: st) μ := g_iload_n (i := 2) (by decide +kernel) rfl
theorem i1_58 : m_G 1 58 [v0, v1, v2, .int x0] st μ = m_G 1 59 [v0, v1, v2, .int x0] (.int x0 :: st) μ := g_iload_n (i := 3) (by decide +kernel) rfl
theorem i1_59 : m_G 1 59 L (.int x2 :: .int x1 :: .ref a1 :: []) μ = b_c (m_D 2 [.ref a1, .int x1, .int x2] μ) 1 62 L [] := g_stat (i := 42) (n := 3) (by decide +kernel) (by decide +kernel) (by decide) (x_call_ok (ws := [1, 1, 1]) (Nat.le_of_ble_eq_true rfl) rfl (by decide +kernel) rfl (by decide +kernel) rfl rfl)
theorem i1_62 : m_G 1 62 L (.int x0 :: st) μ = if x0 = 0 then m_G 1 72 L st μ else m_G 1 65 L st μ := g_ifeq (off := 10) (by decide +kernel) (by decide)
theorem i1_65 : m_G 1 65 [.ref a0, v1, v2, v3] st μ = m_G 1 66 [.ref a0, v1, v2, v3] (.ref a0 :: st) μ := g_aload_n (i := 0) (by decide +kernel) rfl
theorem i1_66 : m_G 1 66 [v0, .ref a0, v2, v3] st μ = m_G 1 67 [v0, .ref a0, v2, v3] (.ref a0 :: st) μ := g_aload_n (i := 1) (by decide +kernel) rfl
theorem i1_67 : m_G 1 67 [v0, v1, .int x0, v3] st μ = m_G 1 68 [v0, v1, .int x0, v3] (.int x0 :: st) μ := g_iload_n (i := 2) (by decide +kernel) rfl
theorem i1_68 : m_G 1 68 [v0, v1, v2, .int x0] st μ = m_G 1 69 [v0, v1, v2, .int x0] (.int x0 :: st) μ := g_iload_n (i := 3) (by decide +kernel) rfl
theorem i1_69 (ho : m_oc μ a0 = some 0) : m_G 1 69 L (.int x2 :: .int x1 :: .ref a1 :: .ref a0 :: []) μ = b_c (m_D 3 [.ref a0, .ref a1, .int x1, .int x2] μ) 1 72 L [] := g_virt (i := 46) (n := 3) (a := a0) (c := 0) (l := [(0, 3)]) (by decide +kernel) (by decide +kernel) rfl rfl (x_call_ok (ws := [1, 1, 1, 1]) (Nat.le_of_ble_eq_true rfl) rfl (by decide +kernel) rfl (by decide +kernel) rfl rfl) ho
theorem i1_72 : m_G 1 72 [v0, v1, v2, .int x0] st μ = m_G 1 75 [v0, v1, v2, .int (x0 + 1)] st μ := g_iinc (i := 3) (n := 1) (by decide +kernel) rfl (by decide) rfl
theorem i1_75 : m_G 1 75 L st μ = m_G 1 49 L st μ := g_goto (off := -26) (by decide +kernel) (by decide)
theorem i1_78 : m_G 1 78 [.ref a0, v1, v2, v3] st μ = m_G 1 79 [.ref a0, v1, v2, v3] (.ref a0 :: st) μ := g_aload_n (i := 0) (by decide +kernel) rfl
theorem i1_79 : m_G 1 79 [.ref a0, v1, v2, v3] st μ = m_G 1 80 [.ref a0, v1, v2, v3] (.ref a0 :: st) μ := g_aload_n (i := 0) (by decide +kernel) rfl
theorem i1_80 : m_G 1 80 [v0, .ref a0, v2, v3] st μ = m_G 1 81 [v0, .ref a0, v2, v3] (.ref a0 :: st) μ := g_aload_n (i := 1) (by decide +kernel) rfl
theorem i1_81 : m_G 1 81 [v0, v1, .int x0, v3] st μ = m_G 1 82 [v0, v1, .int x0, v3] (.int x0 :: st) μ := g_iload_n (i := 2) (by decide +kernel) rfl
theorem i1_82 (ho : m_oc μ a0 = some 0) : m_G 1 82 L (.int x1 :: .ref a1 :: .ref a0 :: [w0]) μ = b_c (m_D 6 [.ref a0, .ref a1, .int x1] μ) 1 85 L [w0] := g_virt (i := 50) (n := 2) (a := a0) (c := 0) (l := [(0, 6)]) (by decide +kernel) (by decide +kernel) rfl rfl (x_call_ok (ws := [1, 1, 1]) (Nat.le_of_ble_eq_true rfl) rfl (by decide +kernel) rfl (by decide +kernel) rfl rfl) ho
theorem i1_85 : m_G 1 85 L (w0 :: .ref a0 :: st) μ = b_m (m_pf μ a0 0 4 .int w0) 1 88 L st := g_putf (i := 54) (by decide +kernel) (by decide +kernel) (Or.inl (by decide)) (by decide)
theorem i1_88 : m_G 1 88 L [] μ = some (none, μ) := g_ret (by decide +kernel) (by decide)
theorem D1 : m_D 1 [.ref a0, .ref a1, .int x1] μ = m_G 1 0 [.ref a0, .ref a1, .int x1, m_d] [] μ := d_def (by decide) rfl
theorem i2_0 : m_G 2 0 L st μ = m_G 2 1 L (.int 0 :: st) μ := g_iconst (n := 0) (by decide +kernel) (by decide)
theorem i2_1 : m_G 2 1 [v0, v1, v2, v3] (.int x0 :: st) μ = m_G 2 2 [v0, v1, v2, .int x0] st μ := g_istore_n (i := 3) (by decide +kernel) (Nat.le_of_ble_eq_true rfl) rfl
theorem i2_2 : m_G 2 2 [v0, v1, v2, .int x0] st μ = m_G 2 3 [v0, v1, v2, .int x0] (.int x0 :: st) μ := g_iload_n (i := 3) (by decide +kernel) rfl
theorem i2_3 : m_G 2 3 [v0, .int x0, v2, v3] st μ = m_G 2 4 [v0, .int x0, v2, v3] (.int x0 :: st) μ := g_iload_n (i := 1) (by decide +kernel) rfl
theorem i2_4 : m_G 2 4 L (.int x1 :: .int x0 :: st) μ = if x0 < x1 then m_G 2 7 L st μ else m_G 2 32 L st μ := g_cmpge (off := 28) (by decide +kernel) (by decide)
theorem i2_7 : m_G 2 7 [.ref a0, v1, v2, v3] st μ = m_G 2 8 [.ref a0, v1, v2, v3] (.ref a0 :: st) μ := g_aload_n (i := 0) (by decide +kernel) rfl
theorem i2_8 : m_G 2 8 [v0, v1, v2, .int x0] st μ = m_G 2 9 [v0, v1, v2, .int x0] (.int x0 :: st) μ := g_iload_n (i := 3) (by decide +kernel) rfl
theorem i2_9 : m_G 2 9 L (.int x0 :: .ref a0 :: st) μ = b_r (m_gr μ a0 x0) 2 10 L st μ := g_aald (by decide +kernel)
theorem i2_10 : m_G 2 10 [.ref a0, v1, v2, v3] st μ = m_G 2 11 [.ref a0, v1, v2, v3] (.ref a0 :: st) μ := g_aload_n (i := 0) (by decide +kernel) rfl
theorem i2_11 : m_G 2 11 [v0, v1, v2, .int x0] st μ = m_G 2 12 [v0, v1, v2, .int x0] (.int x0 :: st) μ := g_iload_n (i := 3) (by decide +kernel) rfl
theorem i2_12 : m_G 2 12 L (.int x0 :: .ref a0 :: st) μ = b_r (m_gr μ a0 x0) 2 13 L st μ := g_aald (by decide +kernel)
theorem i2_13 : m_G 2 13 L (.ref a0 :: st) μ = b_v (m_gf μ a0 3 14) 2 16 L st μ := g_getf (i := 57) (by decide +kernel) (by decide +kernel)
theorem i2_16 : m_G 2 16 [v0, v1, .int x0, v3] st μ = m_G 2 17 [v0, v1, .int x0, v3] (.int x0 :: st) μ := g_iload_n (i := 2) (by decide +kernel) rfl
theorem i2_17 : m_G 2 17 L (.int x0 :: .ref a0 :: st) μ = b_i (m_ga μ a0 x0) 2 18 L st μ := g_iald (by decide +kernel)
theorem i2_18 (ho : m_oc μ a0 = some 3) : m_G 2 18 L (.int x0 :: .ref a0 :: []) μ = b_c (m_D 21 [.ref a0, .int x0] μ) 2 21 L [] := g_virt (i := 60) (n := 1) (a := a0) (c := 3) (l := [(3, 21)]) (by decide +kernel) (by decide +kernel) rfl rfl (x_call_ok (ws := [1, 1]) (Nat.le_of_ble_eq_true rfl) rfl (by decide +kernel) rfl (by decide +kernel) rfl rfl) ho
theorem i2_21 : m_G 2 21 L (.int x0 :: st) μ = if x0 = 0 then m_G 2 24 L st μ else m_G 2 26 L st μ := g_ifne (off := 5) (by decide +kernel) (by decide)
theorem i2_24 : m_G 2 24 L st μ = m_G 2 25 L (.int 0 :: st) μ := g_iconst (n := 0) (by decide +kernel) (by decide)
theorem i2_25 (h : x0 &&& 1 = x0) : m_G 2 25 L [.int x0] μ = some (some (.int x0), μ) := g_iretz (by decide +kernel) (by decide) h
theorem i2_26 : m_G 2 26 [v0, v1, v2, .int x0] st μ = m_G 2 29 [v0, v1, v2, .int (x0 + 1)] st μ := g_iinc (i := 3) (n := 1) (by decide +kernel) rfl (by decide) rfl
theorem i2_29 : m_G 2 29 L st μ = m_G 2 2 L st μ := g_goto (off := -27) (by decide +kernel) (by decide)
theorem i2_32 : m_G 2 32 L st μ = m_G 2 33 L (.int 1 :: st) μ := g_iconst (n := 1) (by decide +kernel) (by decide)
theorem i2_33 (h : x0 &&& 1 = x0) : m_G 2 33 L [.int x0] μ = some (some (.int x0), μ) := g_iretz (by decide +kernel) (by decide) h
theorem D2 : m_D 2 [.ref a1, .int x1, .int x2] μ = m_G 2 0 [.ref a1, .int x1, .int x2, m_d] [] μ := d_def (by decide) rfl
theorem i3_0 : m_G 3 0 [.ref a0, v1, v2, v3, v4, v5, v6, v7] st μ = m_G 3 1 [.ref a0, v1, v2, v3, v4, v5, v6, v7] (.ref a0 :: st) μ := g_aload_n (i := 0) (by decide +kernel) rfl
theorem i3_1 : m_G 3 1 L (.ref a0 :: st) μ = b_v (m_gf μ a0 0 0) 3 4 L st μ := g_getf (i := 18) (by decide +kernel) (by decide +kernel)
theorem i3_4 : m_G 3 4 L (.int x0 :: st) μ = if x0 = 0 then m_G 3 7 L st μ else m_G 3 12 L st μ := g_ifne (off := 8) (by decide +kernel) (by decide)
theorem i3_7 : m_G 3 7 [.ref a0, v1, v2, v3, v4, v5, v6, v7] st μ = m_G 3 8 [.ref a0, v1, v2, v3, v4, v5, v6, v7] (.ref a0 :: st) μ := g_aload_n (i := 0) (by decide +kernel) rfl
theorem i3_8 : m_G 3 8 [v0, v1, v2, .int x0, v4, v5, v6, v7] st μ = m_G 3 9 [v0, v1, v2, .int x0, v4, v5, v6, v7] (.int x0 :: st) μ := g_iload_n (i := 3) (by decide +kernel) rfl
theorem i3_9 : m_G 3 9 L (w0 :: .ref a0 :: st) μ = b_m (m_pf μ a0 0 1 .int w0) 3 12 L st := g_putf (i := 22) (by decide +kernel) (by decide +kernel) (Or.inl (by decide)) (by decide)
theorem i3_12 : m_G 3 12 [.ref a0, v1, v2, v3, v4, v5, v6, v7] st μ = m_G 3 13 [.ref a0, v1, v2, v3, v4, v5, v6, v7] (.ref a0 :: st) μ := g_aload_n (i := 0) (by decide +kernel) rfl
theorem i3_13 : m_G 3 13 L (.ref a0 :: st) μ = m_G 3 14 L (.ref a0 :: .ref a0 :: st) μ := g_dupr (by decide +kernel)
theorem i3_13I : m_G 3 13 L (.int x0 :: st) μ = m_G 3 14 L (.int x0 :: .int x0 :: st) μ := g_dupi (by decide +kernel)
theorem i3_14 : m_G 3 14 L (.ref a0 :: st) μ = b_v (m_gf μ a0 0 0) 3 17 L st μ := g_getf (i := 18) (by decide +kernel) (by decide +kernel)
theorem i3_17 : m_G 3 17 L st μ = m_G 3 18 L (.int 1 :: st) μ := g_iconst (n := 1) (by decide +kernel) (by decide)
theorem i3_18 : m_G 3 18 L (.int x1 :: .int x0 :: st) μ = m_G 3 19 L (.int (x0 + x1) :: st) μ := g_iadd (by decide +kernel)
theorem i3_19 : m_G 3 19 L (w0 :: .ref a0 :: st) μ = b_m (m_pf μ a0 0 0 .int w0) 3 22 L st := g_putf (i := 18) (by decide +kernel) (by decide +kernel) (Or.inl (by decide)) (by decide)
theorem i3_22 : m_G 3 22 [.ref a0, v1, v2, v3, v4, v5, v6, v7] st μ = m_G 3 23 [.ref a0, v1, v2, v3, v4, v5, v6, v7] (.ref a0 :: st) μ := g_aload_n (i := 0) (by decide +kernel) rfl
theorem i3_23 : m_G 3 23 [v0, .ref a0, v2, v3, v4, v5, v6, v7] st μ = m_G 3 24 [v0, .ref a0, v2, v3, v4, v5, v6, v7] (.ref a0 :: st) μ := g_aload_n (i := 1) (by decide +kernel) rfl
theorem i3_24 : m_G 3 24 [v0, v1, .int x0, v3, v4, v5, v6, v7] st μ = m_G 3 25 [v0, v1, .int x0, v3, v4, v5, v6, v7] (.int x0 :: st) μ := g_iload_n (i := 2) (by decide +kernel) rfl
theorem i3_25 : m_G 3 25 [v0, v1, v2, .int x0, v4, v5, v6, v7] st μ = m_G 3 26 [v0, v1, v2, .int x0, v4, v5, v6, v7] (.int x0 :: st) μ := g_iload_n (i := 3) (by decide +kernel) rfl
theorem i3_26 (ho : m_oc μ a0 = some 0) : m_G 3 26 L (.int x2 :: .int x1 :: .ref a1 :: .ref a0 :: []) μ = b_c (m_D 4 [.ref a0, .ref a1, .int x1, .int x2] μ) 3 29 L [] := g_virt (i := 64) (n := 3) (a := a0) (c := 0) (l := [(0, 4)]) (by decide +kernel) (by decide +kernel) rfl rfl (x_call_ok (ws := [1, 1, 1, 1]) (Nat.le_of_ble_eq_true rfl) rfl (by decide +kernel) rfl (by decide +kernel) rfl rfl) ho
theorem i3_29 : m_G 3 29 [v0, v1, v2, v3, v4, v5, v6, v7] (.int x0 :: st) μ = m_G 3 31 [v0, v1, v2, v3, .int x0, v5, v6, v7] st μ := g_istore (i := 4) (by decide +kernel) (Nat.le_of_ble_eq_true rfl) rfl
theorem i3_31 : m_G 3 31 [v0, v1, v2, v3, .int x0, v5, v6, v7] st μ = m_G 3 33 [v0, v1, v2, v3, .int x0, v5, v6, v7] (.int x0 :: st) μ := g_iload (i := 4) (by decide +kernel) rfl
theorem i3_33 : m_G 3 33 [.ref a0, v1, v2, v3, v4, v5, v6, v7] st μ = m_G 3 34 [.ref a0, v1, v2, v3, v4, v5, v6, v7] (.ref a0 :: st) μ := g_aload_n (i := 0) (by decide +kernel) rfl
theorem i3_34 : m_G 3 34 L (.ref a0 :: st) μ = b_v (m_gf μ a0 0 3) 3 37 L st μ := g_getf (i := 28) (by decide +kernel) (by decide +kernel)
theorem i3_37 : m_G 3 37 L (.int x1 :: .int x0 :: st) μ = if x1 < x0 then m_G 3 40 L st μ else m_G 3 51 L st μ := g_cmple (off := 14) (by decide +kernel) (by decide)
theorem i3_40 : m_G 3 40 [.ref a0, v1, v2, v3, v4, v5, v6, v7] st μ = m_G 3 41 [.ref a0, v1, v2, v3, v4, v5, v6, v7] (.ref a0 :: st) μ := g_aload_n (i := 0) (by decide +kernel) rfl
theorem i3_41 : m_G 3 41 [v0, v1, v2, v3, .int x0, v5, v6, v7] st μ = m_G 3 43 [v0, v1, v2, v3, .int x0, v5, v6, v7] (.int x0 :: st) μ := g_iload (i := 4) (by decide +kernel) rfl
theorem i3_43 : m_G 3 43 L (w0 :: .ref a0 :: st) μ = b_m (m_pf μ a0 0 3 .int w0) 3 46 L st := g_putf (i := 28) (by decide +kernel) (by decide +kernel) (Or.inl (by decide)) (by decide)
theorem i3_46 : m_G 3 46 [.ref a0, v1, v2, v3, v4, v5, v6, v7] st μ = m_G 3 47 [.ref a0, v1, v2, v3, v4, v5, v6, v7] (.ref a0 :: st) μ := g_aload_n (i := 0) (by decide +kernel) rfl
theorem i3_47 : m_G 3 47 [v0, v1, v2, .int x0, v4, v5, v6, v7] st μ = m_G 3 48 [v0, v1, v2, .int x0, v4, v5, v6, v7] (.int x0 :: st) μ := g_iload_n (i := 3) (by decide +kernel) rfl
theorem i3_48 : m_G 3 48 L (w0 :: .ref a0 :: st) μ = b_m (m_pf μ a0 0 2 .int w0) 3 51 L st := g_putf (i := 25) (by decide +kernel) (by decide +kernel) (Or.inl (by decide)) (by decide)
theorem i3_51 : m_G 3 51 L st μ = m_G 3 52 L (.int 0 :: st) μ := g_iconst (n := 0) (by decide +kernel) (by decide)
theorem i3_52 : m_G 3 52 [v0, v1, v2, v3, v4, v5, v6, v7] (.int x0 :: st) μ = m_G 3 54 [v0, v1, v2, v3, v4, .int x0, v6, v7] st μ := g_istore (i := 5) (by decide +kernel) (Nat.le_of_ble_eq_true rfl) rfl
theorem i3_54 : m_G 3 54 [v0, v1, v2, v3, v4, .int x0, v6, v7] st μ = m_G 3 56 [v0, v1, v2, v3, v4, .int x0, v6, v7] (.int x0 :: st) μ := g_iload (i := 5) (by decide +kernel) rfl
theorem i3_56 : m_G 3 56 [v0, v1, .int x0, v3, v4, v5, v6, v7] st μ = m_G 3 57 [v0, v1, .int x0, v3, v4, v5, v6, v7] (.int x0 :: st) μ := g_iload_n (i := 2) (by decide +kernel) rfl
theorem i3_57 : m_G 3 57 L (.int x1 :: .int x0 :: st) μ = if x0 < x1 then m_G 3 60 L st μ else m_G 3 121 L st μ := g_cmpge (off := 64) (by decide +kernel) (by decide)
theorem i3_60 : m_G 3 60 [v0, .ref a0, v2, v3, v4, v5, v6, v7] st μ = m_G 3 61 [v0, .ref a0, v2, v3, v4, v5, v6, v7] (.ref a0 :: st) μ := g_aload_n (i := 1) (by decide +kernel) rfl
theorem i3_61 : m_G 3 61 [v0, v1, v2, v3, v4, .int x0, v6, v7] st μ = m_G 3 63 [v0, v1, v2, v3, v4, .int x0, v6, v7] (.int x0 :: st) μ := g_iload (i := 5) (by decide +kernel) rfl
theorem i3_63 : m_G 3 63 L (.int x0 :: .ref a0 :: st) μ = b_r (m_gr μ a0 x0) 3 64 L st μ := g_aald (by decide +kernel)
theorem i3_64 : m_G 3 64 L (.ref a0 :: st) μ = b_v (m_gf μ a0 3 14) 3 67 L st μ := g_getf (i := 57) (by decide +kernel) (by decide +kernel)
theorem i3_67 : m_G 3 67 [v0, v1, v2, .int x0, v4, v5, v6, v7] st μ = m_G 3 68 [v0, v1, v2, .int x0, v4, v5, v6, v7] (.int x0 :: st) μ := g_iload_n (i := 3) (by decide +kernel) rfl
theorem i3_68 : m_G 3 68 L (.int x0 :: .ref a0 :: st) μ = b_i (m_ga μ a0 x0) 3 69 L st μ := g_iald (by decide +kernel)
theorem i3_69 : m_G 3 69 [v0, v1, v2, v3, v4, v5, v6, v7] (.int x0 :: st) μ = m_G 3 71 [v0, v1, v2, v3, v4, v5, .int x0, v7] st μ := g_istore (i := 6) (by decide +kernel) (Nat.le_of_ble_eq_true rfl) rfl
theorem i3_71 : m_G 3 71 L st μ = m_G 3 72 L (.int 0 :: st) μ := g_iconst (n := 0) (by decide +kernel) (by decide)
theorem i3_72 : m_G 3 72 [v0, v1, v2, v3, v4, v5, v6, v7] (.int x0 :: st) μ = m_G 3 74 [v0, v1, v2, v3, v4, v5, v6, .int x0] st μ := g_istore (i := 7) (by decide +kernel) (Nat.le_of_ble_eq_true rfl) rfl
theorem i3_74 : m_G 3 74 [v0, v1, v2, v3, v4, v5, .int x0, v7] st μ = m_G 3 76 [v0, v1, v2, v3, v4, v5, .int x0, v7] (.int x0 :: st) μ := g_iload (i := 6) (by decide +kernel) rfl
theorem i3_76 : m_G 3 76 L (.int x0 :: st) μ = if x0 = 0 then m_G 3 115 L st μ else m_G 3 79 L st μ := g_ifeq (off := 39) (by decide +kernel) (by decide)
theorem i3_79 : m_G 3 79 [v0, v1, v2, v3, v4, v5, v6, .int x0] st μ = m_G 3 81 [v0, v1, v2, v3, v4, v5, v6, .int x0] (.int x0 :: st) μ := g_iload (i := 7) (by decide +kernel) rfl
theorem i3_81 : m_G 3 81 L st μ = m_G 3 83 L (.int 24 :: st) μ := g_bipush (n := 24) (by decide +kernel) (by decide)
theorem i3_83 : m_G 3 83 L (.int x1 :: .int x0 :: st) μ = if x0 < x1 then m_G 3 86 L st μ else m_G 3 115 L st μ := g_cmpge (off := 32) (by decide +kernel) (by decide)
theorem i3_86 : m_G 3 86 [.ref a0, v1, v2, v3, v4, v5, v6, v7] st μ = m_G 3 87 [.ref a0, v1, v2, v3, v4, v5, v6, v7] (.ref a0 :: st) μ := g_aload_n (i := 0) (by decide +kernel) rfl
theorem i3_87 : m_G 3 87 L (.ref a0 :: st) μ = b_v (m_gf μ a0 0 5) 3 90 L st μ := g_getf (i := 9) (by decide +kernel) (by decide +kernel)
theorem i3_90 : m_G 3 90 [v0, v1, v2, v3, v4, .int x0, v6, v7] st μ = m_G 3 92 [v0, v1, v2, v3, v4, .int x0, v6, v7] (.int x0 :: st) μ := g_iload (i := 5) (by decide +kernel) rfl
theorem i3_92 : m_G 3 92 L st μ = m_G 3 94 L (.int 24 :: st) μ := g_bipush (n := 24) (by decide +kernel) (by decide)
theorem i3_94 : m_G 3 94 L (.int x1 :: .int x0 :: st) μ = m_G 3 95 L (.int (x0 * x1) :: st) μ := g_imul (by decide +kernel)
theorem i3_95 : m_G 3 95 [v0, v1, v2, v3, v4, v5, v6, .int x0] st μ = m_G 3 97 [v0, v1, v2, v3, v4, v5, v6, .int x0] (.int x0 :: st) μ := g_iload (i := 7) (by decide +kernel) rfl
theorem i3_97 : m_G 3 97 L (.int x1 :: .int x0 :: st) μ = m_G 3 98 L (.int (x0 + x1) :: st) μ := g_iadd (by decide +kernel)
theorem i3_98 : m_G 3 98 L (.int x0 :: .ref a0 :: st) μ = m_G 3 99 L (.int x0 :: .ref a0 :: .int x0 :: .ref a0 :: st) μ := g_dup2 (by decide +kernel)
theorem i3_99 : m_G 3 99 L (.int x0 :: .ref a0 :: st) μ = b_i (m_ga μ a0 x0) 3 100 L st μ := g_iald (by decide +kernel)
theorem i3_100 : m_G 3 100 [v0, v1, v2, v3, v4, v5, .int x0, v7] st μ = m_G 3 102 [v0, v1, v2, v3, v4, v5, .int x0, v7] (.int x0 :: st) μ := g_iload (i := 6) (by decide +kernel) rfl
theorem i3_102 : m_G 3 102 [v0, v1, v2, v3, v4, v5, v6, .int x0] st μ = m_G 3 104 [v0, v1, v2, v3, v4, v5, v6, .int x0] (.int x0 :: st) μ := g_iload (i := 7) (by decide +kernel) rfl
theorem i3_104 : m_G 3 104 L (.int x1 :: .int x0 :: st) μ = m_G 3 105 L (.int (x0 >>> (x1 &&& 31)) :: st) μ := g_ishr (by decide +kernel)
theorem i3_105 : m_G 3 105 L st μ = m_G 3 106 L (.int 1 :: st) μ := g_iconst (n := 1) (by decide +kernel) (by decide)
theorem i3_106 : m_G 3 106 L (.int x1 :: .int x0 :: st) μ = m_G 3 107 L (.int (x0 &&& x1) :: st) μ := g_iand (by decide +kernel)
theorem i3_107 : m_G 3 107 L (.int x1 :: .int x0 :: st) μ = m_G 3 108 L (.int (x0 + x1) :: st) μ := g_iadd (by decide +kernel)
theorem i3_108 : m_G 3 108 L (.int x1 :: .int x0 :: .ref a0 :: st) μ = b_m (m_pa μ a0 x0 x1) 3 109 L st := g_iast (by decide +kernel)
theorem i3_109 : m_G 3 109 [v0, v1, v2, v3, v4, v5, v6, .int x0] st μ = m_G 3 112 [v0, v1, v2, v3, v4, v5, v6, .int (x0 + 1)] st μ := g_iinc (i := 7) (n := 1) (by decide +kernel) rfl (by decide) rfl
theorem i3_112 : m_G 3 112 L st μ = m_G 3 74 L st μ := g_goto (off := -38) (by decide +kernel) (by decide)
theorem i3_115 : m_G 3 115 [v0, v1, v2, v3, v4, .int x0, v6, v7] st μ = m_G 3 118 [v0, v1, v2, v3, v4, .int (x0 + 1), v6, v7] st μ := g_iinc (i := 5) (n := 1) (by decide +kernel) rfl (by decide) rfl
theorem i3_118 : m_G 3 118 L st μ = m_G 3 54 L st μ := g_goto (off := -64) (by decide +kernel) (by decide)
theorem i3_121 : m_G 3 121 L [] μ = some (none, μ) := g_ret (by decide +kernel) (by decide)
theorem D3 : m_D 3 [.ref a0, .ref a1, .int x1, .int x2] μ = m_G 3 0 [.ref a0, .ref a1, .int x1, .int x2, m_d, m_d, m_d, m_d] [] μ := d_def (by decide) rfl
theorem i4_0 : m_G 4 0 [.ref a0, v1, v2, v3, v4, v5, v6] st μ = m_G 4 1 [.ref a0, v1, v2, v3, v4, v5, v6] (.ref a0 :: st) μ := g_aload_n (i := 0) (by decide +kernel) rfl
theorem i4_1 : m_G 4 1 L (.ref a0 :: st) μ = b_v (m_gf μ a0 0 6) 4 4 L st μ := g_getf (i := 15) (by decide +kernel) (by decide +kernel)
theorem i4_4 : m_G 4 4 L st μ = m_G 4 5 L (.int 0 :: st) μ := g_iconst (n := 0) (by decide +kernel) (by decide)
theorem i4_5 : m_G 4 5 L (.int x1 :: .ref a1 :: []) μ = b_c (m_D 172 [.ref a1, .int x1] μ) 4 8 L [] := g_stat (i := 31) (n := 2) (by decide +kernel) (by decide +kernel) (by decide) (x_call_ok (ws := [1, 1]) (Nat.le_of_ble_eq_true rfl) rfl (by decide +kernel) rfl (by decide +kernel) rfl rfl)
theorem i4_8 : m_G 4 8 L st μ = m_G 4 9 L (.int 0 :: st) μ := g_iconst (n := 0) (by decide +kernel) (by decide)
theorem i4_9 : m_G 4 9 [v0, v1, v2, v3, v4, v5, v6] (.int x0 :: st) μ = m_G 4 11 [v0, v1, v2, v3, .int x0, v5, v6] st μ := g_istore (i := 4) (by decide +kernel) (Nat.le_of_ble_eq_true rfl) rfl
theorem i4_11 : m_G 4 11 L st μ = m_G 4 12 L (.int 0 :: st) μ := g_iconst (n := 0) (by decide +kernel) (by decide)
theorem i4_12 : m_G 4 12 [v0, v1, v2, v3, v4, v5, v6] (.int x0 :: st) μ = m_G 4 14 [v0, v1, v2, v3, v4, .int x0, v6] st μ := g_istore (i := 5) (by decide +kernel) (Nat.le_of_ble_eq_true rfl) rfl
theorem i4_14 : m_G 4 14 [v0, v1, v2, v3, v4, .int x0, v6] st μ = m_G 4 16 [v0, v1, v2, v3, v4, .int x0, v6] (.int x0 :: st) μ := g_iload (i := 5) (by decide +kernel) rfl
theorem i4_16 : m_G 4 16 [v0, v1, .int x0, v3, v4, v5, v6] st μ = m_G 4 17 [v0, v1, .int x0, v3, v4, v5, v6] (.int x0 :: st) μ := g_iload_n (i := 2) (by decide +kernel) rfl
theorem i4_17 : m_G 4 17 L (.int x1 :: .int x0 :: st) μ = if x0 < x1 then m_G 4 20 L st μ else m_G 4 80 L st μ := g_cmpge (off := 63) (by decide +kernel) (by decide)
theorem i4_20 : m_G 4 20 [v0, .ref a0, v2, v3, v4, v5, v6] st μ = m_G 4 21 [v0, .ref a0, v2, v3, v4, v5, v6] (.ref a0 :: st) μ := g_aload_n (i := 1) (by decide +kernel) rfl
theorem i4_21 : m_G 4 21 [v0, v1, v2, v3, v4, .int x0, v6] st μ = m_G 4 23 [v0, v1, v2, v3, v4, .int x0, v6] (.int x0 :: st) μ := g_iload (i := 5) (by decide +kernel) rfl
theorem i4_23 : m_G 4 23 L (.int x0 :: .ref a0 :: st) μ = b_r (m_gr μ a0 x0) 4 24 L st μ := g_aald (by decide +kernel)
theorem i4_24 : m_G 4 24 L (.ref a0 :: st) μ = b_v (m_gf μ a0 3 14) 4 27 L st μ := g_getf (i := 57) (by decide +kernel) (by decide +kernel)
theorem i4_27 : m_G 4 27 [v0, v1, v2, .int x0, v4, v5, v6] st μ = m_G 4 28 [v0, v1, v2, .int x0, v4, v5, v6] (.int x0 :: st) μ := g_iload_n (i := 3) (by decide +kernel) rfl
theorem i4_28 : m_G 4 28 L (.int x0 :: .ref a0 :: st) μ = b_i (m_ga μ a0 x0) 4 29 L st μ := g_iald (by decide +kernel)
theorem i4_29 : m_G 4 29 L (.int x0 :: []) μ = b_c (m_D 169 [.int x0] μ) 4 32 L [] := g_stat (i := 68) (n := 1) (by decide +kernel) (by decide +kernel) (by decide) (x_call_ok (ws := [1]) (Nat.le_of_ble_eq_true rfl) rfl (by decide +kernel) rfl (by decide +kernel) rfl rfl)
theorem i4_32 : m_G 4 32 [v0, v1, v2, v3, v4, v5, v6] (.int x0 :: st) μ = m_G 4 34 [v0, v1, v2, v3, v4, v5, .int x0] st μ := g_istore (i := 6) (by decide +kernel) (Nat.le_of_ble_eq_true rfl) rfl
theorem i4_34 : m_G 4 34 [v0, v1, v2, v3, v4, v5, .int x0] st μ = m_G 4 36 [v0, v1, v2, v3, v4, v5, .int x0] (.int x0 :: st) μ := g_iload (i := 6) (by decide +kernel) rfl
theorem i4_36 : m_G 4 36 L (.int x0 :: st) μ = if x0 ≤ 0 then m_G 4 74 L st μ else m_G 4 39 L st μ := g_ifle (off := 38) (by decide +kernel) (by decide)
theorem i4_39 : m_G 4 39 [v0, .ref a0, v2, v3, v4, v5, v6] st μ = m_G 4 40 [v0, .ref a0, v2, v3, v4, v5, v6] (.ref a0 :: st) μ := g_aload_n (i := 1) (by decide +kernel) rfl
theorem i4_40 : m_G 4 40 [v0, v1, v2, v3, v4, .int x0, v6] st μ = m_G 4 42 [v0, v1, v2, v3, v4, .int x0, v6] (.int x0 :: st) μ := g_iload (i := 5) (by decide +kernel) rfl
theorem i4_42 : m_G 4 42 L (.int x0 :: .ref a0 :: st) μ = b_r (m_gr μ a0 x0) 4 43 L st μ := g_aald (by decide +kernel)
theorem i4_43 (ho : m_oc μ a0 = some 3) : m_G 4 43 L (.ref a0 :: []) μ = b_c (m_D 20 [.ref a0] μ) 4 46 L [] := g_virt (i := 74) (n := 0) (a := a0) (c := 3) (l := [(3, 20)]) (by decide +kernel) (by decide +kernel) rfl rfl (x_call_ok (ws := [1]) (Nat.le_of_ble_eq_true rfl) rfl (by decide +kernel) rfl (by decide +kernel) rfl rfl) ho
theorem i4_46 : m_G 4 46 L (.int x0 :: st) μ = if x0 = 0 then m_G 4 74 L st μ else m_G 4 49 L st μ := g_ifeq (off := 28) (by decide +kernel) (by decide)
theorem i4_49 : m_G 4 49 [.ref a0, v1, v2, v3, v4, v5, v6] st μ = m_G 4 50 [.ref a0, v1, v2, v3, v4, v5, v6] (.ref a0 :: st) μ := g_aload_n (i := 0) (by decide +kernel) rfl
theorem i4_50 : m_G 4 50 L (.ref a0 :: st) μ = b_v (m_gf μ a0 0 6) 4 53 L st μ := g_getf (i := 15) (by decide +kernel) (by decide +kernel)
theorem i4_53 : m_G 4 53 [v0, v1, v2, v3, v4, v5, .int x0] st μ = m_G 4 55 [v0, v1, v2, v3, v4, v5, .int x0] (.int x0 :: st) μ := g_iload (i := 6) (by decide +kernel) rfl
theorem i4_55 : m_G 4 55 L (.int x0 :: .ref a0 :: st) μ = m_G 4 56 L (.int x0 :: .ref a0 :: .int x0 :: .ref a0 :: st) μ := g_dup2 (by decide +kernel)
theorem i4_56 : m_G 4 56 L (.int x0 :: .ref a0 :: st) μ = b_i (m_ga μ a0 x0) 4 57 L st μ := g_iald (by decide +kernel)
theorem i4_57 : m_G 4 57 L st μ = m_G 4 58 L (.int 1 :: st) μ := g_iconst (n := 1) (by decide +kernel) (by decide)
theorem i4_58 : m_G 4 58 L (.int x1 :: .int x0 :: st) μ = m_G 4 59 L (.int (x0 + x1) :: st) μ := g_iadd (by decide +kernel)
theorem i4_59 : m_G 4 59 L (.int x1 :: .int x0 :: .ref a0 :: st) μ = b_m (m_pa μ a0 x0 x1) 4 60 L st := g_iast (by decide +kernel)
theorem i4_60 : m_G 4 60 [v0, v1, v2, v3, .int x0, v5, v6] st μ = m_G 4 62 [v0, v1, v2, v3, .int x0, v5, v6] (.int x0 :: st) μ := g_iload (i := 4) (by decide +kernel) rfl
theorem i4_62 : m_G 4 62 [.ref a0, v1, v2, v3, v4, v5, v6] st μ = m_G 4 63 [.ref a0, v1, v2, v3, v4, v5, v6] (.ref a0 :: st) μ := g_aload_n (i := 0) (by decide +kernel) rfl
theorem i4_63 : m_G 4 63 L (.ref a0 :: st) μ = b_v (m_gf μ a0 0 6) 4 66 L st μ := g_getf (i := 15) (by decide +kernel) (by decide +kernel)
theorem i4_66 : m_G 4 66 [v0, v1, v2, v3, v4, v5, .int x0] st μ = m_G 4 68 [v0, v1, v2, v3, v4, v5, .int x0] (.int x0 :: st) μ := g_iload (i := 6) (by decide +kernel) rfl
theorem i4_68 : m_G 4 68 L (.int x0 :: .ref a0 :: st) μ = b_i (m_ga μ a0 x0) 4 69 L st μ := g_iald (by decide +kernel)
theorem i4_69 : m_G 4 69 L (.int x1 :: .int x0 :: []) μ = m_G 4 72 L (.int (if x0 < x1 then x1 else x0) :: []) μ := g_max (i := 78) (by decide +kernel) (by decide +kernel) ⟨Nat.le_of_ble_eq_true rfl, by decide, by decide⟩
theorem i4_72 : m_G 4 72 [v0, v1, v2, v3, v4, v5, v6] (.int x0 :: st) μ = m_G 4 74 [v0, v1, v2, v3, .int x0, v5, v6] st μ := g_istore (i := 4) (by decide +kernel) (Nat.le_of_ble_eq_true rfl) rfl
theorem i4_74 : m_G 4 74 [v0, v1, v2, v3, v4, .int x0, v6] st μ = m_G 4 77 [v0, v1, v2, v3, v4, .int (x0 + 1), v6] st μ := g_iinc (i := 5) (n := 1) (by decide +kernel) rfl (by decide) rfl
theorem i4_77 : m_G 4 77 L st μ = m_G 4 14 L st μ := g_goto (off := -63) (by decide +kernel) (by decide)
theorem i4_80 : m_G 4 80 [v0, v1, v2, v3, .int x0, v5, v6] st μ = m_G 4 82 [v0, v1, v2, v3, .int x0, v5, v6] (.int x0 :: st) μ := g_iload (i := 4) (by decide +kernel) rfl
theorem i4_82 : m_G 4 82 L [.int x0] μ = some (some (.int x0), μ) := g_ireti (by decide +kernel) (by decide)
theorem D4 : m_D 4 [.ref a0, .ref a1, .int x1, .int x2] μ = m_G 4 0 [.ref a0, .ref a1, .int x1, .int x2, m_d, m_d, m_d] [] μ := d_def (by decide) rfl
theorem i5_0 : m_G 5 0 [.ref a0, v1] st μ = m_G 5 1 [.ref a0, v1] (.ref a0 :: st) μ := g_aload_n (i := 0) (by decide +kernel) rfl
theorem i5_1 : m_G 5 1 L (.ref a0 :: st) μ = b_v (m_gf μ a0 0 5) 5 4 L st μ := g_getf (i := 9) (by decide +kernel) (by decide +kernel)
theorem i5_4 : m_G 5 4 [v0, .int x0] st μ = m_G 5 5 [v0, .int x0] (.int x0 :: st) μ := g_iload_n (i := 1) (by decide +kernel) rfl
theorem i5_5 : m_G 5 5 L (.int x0 :: .ref a0 :: st) μ = b_i (m_ga μ a0 x0) 5 6 L st μ := g_iald (by decide +kernel)
theorem i5_6 : m_G 5 6 [.ref a0, v1] st μ = m_G 5 7 [.ref a0, v1] (.ref a0 :: st) μ := g_aload_n (i := 0) (by decide +kernel) rfl
theorem i5_7 : m_G 5 7 L (.ref a0 :: st) μ = b_v (m_gf μ a0 0 0) 5 10 L st μ := g_getf (i := 18) (by decide +kernel) (by decide +kernel)
theorem i5_10 : m_G 5 10 [.ref a0, v1] st μ = m_G 5 11 [.ref a0, v1] (.ref a0 :: st) μ := g_aload_n (i := 0) (by decide +kernel) rfl
theorem i5_11 : m_G 5 11 L (.ref a0 :: st) μ = b_v (m_gf μ a0 0 5) 5 14 L st μ := g_getf (i := 9) (by decide +kernel) (by decide +kernel)
theorem i5_14 : m_G 5 14 [v0, .int x0] st μ = m_G 5 15 [v0, .int x0] (.int x0 :: st) μ := g_iload_n (i := 1) (by decide +kernel) rfl
theorem i5_15 : m_G 5 15 L (.int x0 :: .ref a0 :: st) μ = b_i (m_ga μ a0 x0) 5 16 L st μ := g_iald (by decide +kernel)
theorem i5_16 : m_G 5 16 L (.int x1 :: .int x0 :: st) μ = m_G 5 17 L (.int (x0 - x1) :: st) μ := g_isub (by decide +kernel)
theorem i5_17 : m_G 5 17 L (.int x1 :: .int x0 :: []) μ = m_G 5 20 L (.int (if x0 < x1 then x1 else x0) :: []) μ := g_max (i := 78) (by decide +kernel) (by decide +kernel) ⟨Nat.le_of_ble_eq_true rfl, by decide, by decide⟩
theorem i5_20 : m_G 5 20 L [.int x0] μ = some (some (.int x0), μ) := g_ireti (by decide +kernel) (by decide)
theorem D5 : m_D 5 [.ref a0, .int x0] μ = m_G 5 0 [.ref a0, .int x0] [] μ := d_def (by decide) rfl
theorem i6_0 : m_G 6 0 L st μ = m_G 6 1 L (.int (-1) :: st) μ := g_iconst (n := -1) (by decide +kernel) (by decide)
theorem i6_1 : m_G 6 1 [v0, v1, v2, v3, v4, v5, v6, v7] (.int x0 :: st) μ = m_G 6 2 [v0, v1, v2, .int x0, v4, v5, v6, v7] st μ := g_istore_n (i := 3) (by decide +kernel) (Nat.le_of_ble_eq_true rfl) rfl
theorem i6_2 : m_G 6 2 [.ref a0, v1, v2, v3, v4, v5, v6, v7] st μ = m_G 6 3 [.ref a0, v1, v2, v3, v4, v5, v6, v7] (.ref a0 :: st) μ := g_aload_n (i := 0) (by decide +kernel) rfl
theorem i6_3 : m_G 6 3 L (.ref a0 :: st) μ = b_v (m_gf μ a0 0 0) 6 6 L st μ := g_getf (i := 18) (by decide +kernel) (by decide +kernel)
theorem i6_6 : m_G 6 6 [v0, v1, v2, v3, v4, v5, v6, v7] (.int x0 :: st) μ = m_G 6 8 [v0, v1, v2, v3, .int x0, v5, v6, v7] st μ := g_istore (i := 4) (by decide +kernel) (Nat.le_of_ble_eq_true rfl) rfl
theorem i6_8 : m_G 6 8 L st μ = m_G 6 9 L (.int 0 :: st) μ := g_iconst (n := 0) (by decide +kernel) (by decide)
theorem i6_9 : m_G 6 9 [v0, v1, v2, v3, v4, v5, v6, v7] (.int x0 :: st) μ = m_G 6 11 [v0, v1, v2, v3, v4, .int x0, v6, v7] st μ := g_istore (i := 5) (by decide +kernel) (Nat.le_of_ble_eq_true rfl) rfl
theorem i6_11 : m_G 6 11 [v0, v1, v2, v3, v4, .int x0, v6, v7] st μ = m_G 6 13 [v0, v1, v2, v3, v4, .int x0, v6, v7] (.int x0 :: st) μ := g_iload (i := 5) (by decide +kernel) rfl
theorem i6_13 : m_G 6 13 [v0, v1, .int x0, v3, v4, v5, v6, v7] st μ = m_G 6 14 [v0, v1, .int x0, v3, v4, v5, v6, v7] (.int x0 :: st) μ := g_iload_n (i := 2) (by decide +kernel) rfl
theorem i6_14 : m_G 6 14 L (.int x1 :: .int x0 :: st) μ = if x0 < x1 then m_G 6 17 L st μ else m_G 6 98 L st μ := g_cmpge (off := 84) (by decide +kernel) (by decide)
theorem i6_17 : m_G 6 17 L st μ = m_G 6 18 L (.int 0 :: st) μ := g_iconst (n := 0) (by decide +kernel) (by decide)
theorem i6_18 : m_G 6 18 [v0, v1, v2, v3, v4, v5, v6, v7] (.int x0 :: st) μ = m_G 6 20 [v0, v1, v2, v3, v4, v5, .int x0, v7] st μ := g_istore (i := 6) (by decide +kernel) (Nat.le_of_ble_eq_true rfl) rfl
theorem i6_20 : m_G 6 20 [v0, v1, v2, v3, v4, v5, .int x0, v7] st μ = m_G 6 22 [v0, v1, v2, v3, v4, v5, .int x0, v7] (.int x0 :: st) μ := g_iload (i := 6) (by decide +kernel) rfl
theorem i6_22 : m_G 6 22 [v0, .ref a0, v2, v3, v4, v5, v6, v7] st μ = m_G 6 23 [v0, .ref a0, v2, v3, v4, v5, v6, v7] (.ref a0 :: st) μ := g_aload_n (i := 1) (by decide +kernel) rfl
theorem i6_23 : m_G 6 23 [v0, v1, v2, v3, v4, .int x0, v6, v7] st μ = m_G 6 25 [v0, v1, v2, v3, v4, .int x0, v6, v7] (.int x0 :: st) μ := g_iload (i := 5) (by decide +kernel) rfl
theorem i6_25 : m_G 6 25 L (.int x0 :: .ref a0 :: st) μ = b_r (m_gr μ a0 x0) 6 26 L st μ := g_aald (by decide +kernel)
theorem i6_26 : m_G 6 26 L (.ref a0 :: st) μ = b_v (m_gf μ a0 3 0) 6 29 L st μ := g_getf (i := 84) (by decide +kernel) (by decide +kernel)
theorem i6_29 : m_G 6 29 L (.int x1 :: .int x0 :: st) μ = if x0 < x1 then m_G 6 32 L st μ else m_G 6 92 L st μ := g_cmpge (off := 63) (by decide +kernel) (by decide)
theorem i6_32 : m_G 6 32 [v0, .ref a0, v2, v3, v4, v5, v6, v7] st μ = m_G 6 33 [v0, .ref a0, v2, v3, v4, v5, v6, v7] (.ref a0 :: st) μ := g_aload_n (i := 1) (by decide +kernel) rfl
theorem i6_33 : m_G 6 33 [v0, v1, v2, v3, v4, .int x0, v6, v7] st μ = m_G 6 35 [v0, v1, v2, v3, v4, .int x0, v6, v7] (.int x0 :: st) μ := g_iload (i := 5) (by decide +kernel) rfl
theorem i6_35 : m_G 6 35 L (.int x0 :: .ref a0 :: st) μ = b_r (m_gr μ a0 x0) 6 36 L st μ := g_aald (by decide +kernel)
theorem i6_36 : m_G 6 36 L (.ref a0 :: st) μ = b_v (m_gf μ a0 3 13) 6 39 L st μ := g_getf (i := 87) (by decide +kernel) (by decide +kernel)
theorem i6_39 : m_G 6 39 L (.int x0 :: st) μ = if x0 = 0 then m_G 6 42 L st μ else m_G 6 92 L st μ := g_ifne (off := 53) (by decide +kernel) (by decide)
theorem i6_42 : m_G 6 42 [v0, v1, v2, v3, v4, .int x0, v6, v7] st μ = m_G 6 44 [v0, v1, v2, v3, v4, .int x0, v6, v7] (.int x0 :: st) μ := g_iload (i := 5) (by decide +kernel) rfl
theorem i6_44 : m_G 6 44 L st μ = m_G 6 46 L (.int 24 :: st) μ := g_bipush (n := 24) (by decide +kernel) (by decide)
theorem i6_46 : m_G 6 46 L (.int x1 :: .int x0 :: st) μ = m_G 6 47 L (.int (x0 * x1) :: st) μ := g_imul (by decide +kernel)
theorem i6_47 : m_G 6 47 [v0, v1, v2, v3, v4, v5, .int x0, v7] st μ = m_G 6 49 [v0, v1, v2, v3, v4, v5, .int x0, v7] (.int x0 :: st) μ := g_iload (i := 6) (by decide +kernel) rfl
theorem i6_49 : m_G 6 49 L (.int x1 :: .int x0 :: st) μ = m_G 6 50 L (.int (x0 + x1) :: st) μ := g_iadd (by decide +kernel)
theorem i6_50 : m_G 6 50 [v0, v1, v2, v3, v4, v5, v6, v7] (.int x0 :: st) μ = m_G 6 52 [v0, v1, v2, v3, v4, v5, v6, .int x0] st μ := g_istore (i := 7) (by decide +kernel) (Nat.le_of_ble_eq_true rfl) rfl
theorem i6_52 : m_G 6 52 [v0, .ref a0, v2, v3, v4, v5, v6, v7] st μ = m_G 6 53 [v0, .ref a0, v2, v3, v4, v5, v6, v7] (.ref a0 :: st) μ := g_aload_n (i := 1) (by decide +kernel) rfl
theorem i6_53 : m_G 6 53 [v0, v1, v2, v3, v4, .int x0, v6, v7] st μ = m_G 6 55 [v0, v1, v2, v3, v4, .int x0, v6, v7] (.int x0 :: st) μ := g_iload (i := 5) (by decide +kernel) rfl
theorem i6_55 : m_G 6 55 L (.int x0 :: .ref a0 :: st) μ = b_r (m_gr μ a0 x0) 6 56 L st μ := g_aald (by decide +kernel)
theorem i6_56 : m_G 6 56 [v0, v1, v2, v3, v4, v5, .int x0, v7] st μ = m_G 6 58 [v0, v1, v2, v3, v4, v5, .int x0, v7] (.int x0 :: st) μ := g_iload (i := 6) (by decide +kernel) rfl
theorem i6_58 (ho : m_oc μ a0 = some 3) : m_G 6 58 L (.int x0 :: .ref a0 :: []) μ = b_c (m_D 18 [.ref a0, .int x0] μ) 6 61 L [] := g_virt (i := 91) (n := 1) (a := a0) (c := 3) (l := [(3, 18)]) (by decide +kernel) (by decide +kernel) rfl rfl (x_call_ok (ws := [1, 1]) (Nat.le_of_ble_eq_true rfl) rfl (by decide +kernel) rfl (by decide +kernel) rfl rfl) ho
theorem i6_61 : m_G 6 61 L (.int x0 :: st) μ = if x0 = 0 then m_G 6 64 L st μ else m_G 6 86 L st μ := g_ifne (off := 25) (by decide +kernel) (by decide)
theorem i6_64 : m_G 6 64 [.ref a0, v1, v2, v3, v4, v5, v6, v7] st μ = m_G 6 65 [.ref a0, v1, v2, v3, v4, v5, v6, v7] (.ref a0 :: st) μ := g_aload_n (i := 0) (by decide +kernel) rfl
theorem i6_65 : m_G 6 65 [v0, v1, v2, v3, v4, v5, v6, .int x0] st μ = m_G 6 67 [v0, v1, v2, v3, v4, v5, v6, .int x0] (.int x0 :: st) μ := g_iload (i := 7) (by decide +kernel) rfl
theorem i6_67 (ho : m_oc μ a0 = some 0) : m_G 6 67 L (.int x0 :: .ref a0 :: []) μ = b_c (m_D 5 [.ref a0, .int x0] μ) 6 70 L [] := g_virt (i := 94) (n := 1) (a := a0) (c := 0) (l := [(0, 5)]) (by decide +kernel) (by decide +kernel) rfl rfl (x_call_ok (ws := [1, 1]) (Nat.le_of_ble_eq_true rfl) rfl (by decide +kernel) rfl (by decide +kernel) rfl rfl) ho
theorem i6_70 : m_G 6 70 [v0, v1, v2, v3, .int x0, v5, v6, v7] st μ = m_G 6 72 [v0, v1, v2, v3, .int x0, v5, v6, v7] (.int x0 :: st) μ := g_iload (i := 4) (by decide +kernel) rfl
theorem i6_72 : m_G 6 72 L (.int x1 :: .int x0 :: st) μ = if x0 < x1 then m_G 6 75 L st μ else m_G 6 86 L st μ := g_cmpge (off := 14) (by decide +kernel) (by decide)
theorem i6_75 : m_G 6 75 [v0, v1, v2, v3, v4, v5, v6, .int x0] st μ = m_G 6 77 [v0, v1, v2, v3, v4, v5, v6, .int x0] (.int x0 :: st) μ := g_iload (i := 7) (by decide +kernel) rfl
theorem i6_77 : m_G 6 77 [v0, v1, v2, v3, v4, v5, v6, v7] (.int x0 :: st) μ = m_G 6 78 [v0, v1, v2, .int x0, v4, v5, v6, v7] st μ := g_istore_n (i := 3) (by decide +kernel) (Nat.le_of_ble_eq_true rfl) rfl
theorem i6_78 : m_G 6 78 [.ref a0, v1, v2, v3, v4, v5, v6, v7] st μ = m_G 6 79 [.ref a0, v1, v2, v3, v4, v5, v6, v7] (.ref a0 :: st) μ := g_aload_n (i := 0) (by decide +kernel) rfl
theorem i6_79 : m_G 6 79 [v0, v1, v2, v3, v4, v5, v6, .int x0] st μ = m_G 6 81 [v0, v1, v2, v3, v4, v5, v6, .int x0] (.int x0 :: st) μ := g_iload (i := 7) (by decide +kernel) rfl
theorem i6_81 (ho : m_oc μ a0 = some 0) : m_G 6 81 L (.int x0 :: .ref a0 :: []) μ = b_c (m_D 5 [.ref a0, .int x0] μ) 6 84 L [] := g_virt (i := 94) (n := 1) (a := a0) (c := 0) (l := [(0, 5)]) (by decide +kernel) (by decide +kernel) rfl rfl (x_call_ok (ws := [1, 1]) (Nat.le_of_ble_eq_true rfl) rfl (by decide +kernel) rfl (by decide +kernel) rfl rfl) ho
theorem i6_84 : m_G 6 84 [v0, v1, v2, v3, v4, v5, v6, v7] (.int x0 :: st) μ = m_G 6 86 [v0, v1, v2, v3, .int x0, v5, v6, v7] st μ := g_istore (i := 4) (by decide +kernel) (Nat.le_of_ble_eq_true rfl) rfl
theorem i6_86 : m_G 6 86 [v0, v1, v2, v3, v4, v5, .int x0, v7] st μ = m_G 6 89 [v0, v1, v2, v3, v4, v5, .int (x0 + 1), v7] st μ := g_iinc (i := 6) (n := 1) (by decide +kernel) rfl (by decide) rfl
theorem i6_89 : m_G 6 89 L st μ = m_G 6 20 L st μ := g_goto (off := -69) (by decide +kernel) (by decide)
theorem i6_92 : m_G 6 92 [v0, v1, v2, v3, v4, .int x0, v6, v7] st μ = m_G 6 95 [v0, v1, v2, v3, v4, .int (x0 + 1), v6, v7] st μ := g_iinc (i := 5) (n := 1) (by decide +kernel) rfl (by decide) rfl
theorem i6_95 : m_G 6 95 L st μ = m_G 6 11 L st μ := g_goto (off := -84) (by decide +kernel) (by decide)
theorem i6_98 : m_G 6 98 [v0, v1, v2, .int x0, v4, v5, v6, v7] st μ = m_G 6 99 [v0, v1, v2, .int x0, v4, v5, v6, v7] (.int x0 :: st) μ := g_iload_n (i := 3) (by decide +kernel) rfl
theorem i6_99 : m_G 6 99 L [.int x0] μ = some (some (.int x0), μ) := g_ireti (by decide +kernel) (by decide)
theorem D6 : m_D 6 [.ref a0, .ref a1, .int x1] μ = m_G 6 0 [.ref a0, .ref a1, .int x1, m_d, m_d, m_d, m_d, m_d] [] μ := d_def (by decide) rfl
theorem i7_0 : m_G 7 0 [.ref a0, v1, v2, v3] st μ = m_G 7 1 [.ref a0, v1, v2, v3] (.ref a0 :: st) μ := g_aload_n (i := 0) (by decide +kernel) rfl
theorem i7_1 : m_G 7 1 L (.ref a0 :: []) μ = m_G 7 4 L [] μ := g_obj (i := 3) (by decide +kernel) (by decide +kernel) ⟨Nat.le_of_ble_eq_true rfl, by decide, by decide⟩
theorem i7_4 : m_G 7 4 [.ref a0, v1, v2, v3] st μ = m_G 7 5 [.ref a0, v1, v2, v3] (.ref a0 :: st) μ := g_aload_n (i := 0) (by decide +kernel) rfl
theorem i7_5 : m_G 7 5 [v0, .int x0, v2, v3] st μ = m_G 7 6 [v0, .int x0, v2, v3] (.int x0 :: st) μ := g_iload_n (i := 1) (by decide +kernel) rfl
theorem i7_6 : m_G 7 6 L (w0 :: .ref a0 :: st) μ = b_m (m_pf μ a0 1 0 .int w0) 7 9 L st := g_putf (i := 9) (by decide +kernel) (by decide +kernel) (Or.inr ⟨by decide, by decide⟩) (by decide)
theorem i7_9 : m_G 7 9 [.ref a0, v1, v2, v3] st μ = m_G 7 10 [.ref a0, v1, v2, v3] (.ref a0 :: st) μ := g_aload_n (i := 0) (by decide +kernel) rfl
theorem i7_10 : m_G 7 10 [v0, v1, .int x0, v3] st μ = m_G 7 11 [v0, v1, .int x0, v3] (.int x0 :: st) μ := g_iload_n (i := 2) (by decide +kernel) rfl
theorem i7_11 : m_G 7 11 L (w0 :: .ref a0 :: st) μ = b_m (m_pf μ a0 1 1 .int w0) 7 14 L st := g_putf (i := 15) (by decide +kernel) (by decide +kernel) (Or.inr ⟨by decide, by decide⟩) (by decide)
theorem i7_14 : m_G 7 14 [.ref a0, v1, v2, v3] st μ = m_G 7 15 [.ref a0, v1, v2, v3] (.ref a0 :: st) μ := g_aload_n (i := 0) (by decide +kernel) rfl
theorem i7_15 : m_G 7 15 [v0, v1, v2, .int x0] st μ = m_G 7 16 [v0, v1, v2, .int x0] (.int x0 :: st) μ := g_iload_n (i := 3) (by decide +kernel) rfl
theorem i7_16 : m_G 7 16 L (w0 :: .ref a0 :: st) μ = b_m (m_pf μ a0 1 2 .int w0) 7 19 L st := g_putf (i := 18) (by decide +kernel) (by decide +kernel) (Or.inr ⟨by decide, by decide⟩) (by decide)
theorem i7_19 : m_G 7 19 L [] μ = some (none, μ) := g_ret (by decide +kernel) (by decide)
theorem D7 : m_D 7 [.ref a0, .int x0, .int x1, .int x2] μ = m_G 7 0 [.ref a0, .int x0, .int x1, .int x2] [] μ := d_def (by decide) rfl
theorem i8_0 : m_G 8 0 [.ref a0, v1, v2, v3, v4] st μ = m_G 8 1 [.ref a0, v1, v2, v3, v4] (.ref a0 :: st) μ := g_aload_n (i := 0) (by decide +kernel) rfl
theorem i8_1 : m_G 8 1 L (.ref a0 :: st) μ = b_v (m_gf μ a0 1 0) 8 4 L st μ := g_getf (i := 9) (by decide +kernel) (by decide +kernel)
theorem i8_4_0 : m_G 8 4 L (.int 0 :: st) μ = m_G 8 32 L st μ := g_tab (dd := 70) (lo := 0) (hi := 2) (offs := #[28, 37, 44]) (len := 28) (off := 28) (by decide +kernel) (by decide) (by decide) (by decide)
theorem i8_4_1 : m_G 8 4 L (.int 1 :: st) μ = m_G 8 41 L st μ := g_tab (dd := 70) (lo := 0) (hi := 2) (offs := #[28, 37, 44]) (len := 28) (off := 37) (by decide +kernel) (by decide) (by decide) (by decide)
theorem i8_4_2 : m_G 8 4 L (.int 2 :: st) μ = m_G 8 48 L st μ := g_tab (dd := 70) (lo := 0) (hi := 2) (offs := #[28, 37, 44]) (len := 28) (off := 44) (by decide +kernel) (by decide) (by decide) (by decide)
theorem i8_4_d (h : x0.toInt < 0 ∨ 2 < x0.toInt) : m_G 8 4 L (.int x0 :: st) μ = m_G 8 74 L st μ := g_tabO (dd := 70) (lo := 0) (hi := 2) (offs := #[28, 37, 44]) (len := 28) (by decide +kernel) h (by decide)
theorem i8_32 : m_G 8 32 [.ref a0, v1, v2, v3, v4] st μ = m_G 8 33 [.ref a0, v1, v2, v3, v4] (.ref a0 :: st) μ := g_aload_n (i := 0) (by decide +kernel) rfl
theorem i8_33 : m_G 8 33 [v0, v1, .int x0, v3, v4] st μ = m_G 8 34 [v0, v1, .int x0, v3, v4] (.int x0 :: st) μ := g_iload_n (i := 2) (by decide +kernel) rfl
theorem i8_34 : m_G 8 34 L (.int x0 :: [w0]) μ = b_c (m_D 169 [.int x0] μ) 8 37 L [w0] := g_stat (i := 21) (n := 1) (by decide +kernel) (by decide +kernel) (by decide) (x_call_ok (ws := [1]) (Nat.le_of_ble_eq_true rfl) rfl (by decide +kernel) rfl (by decide +kernel) rfl rfl)
theorem i8_37 (ho : m_oc μ a0 = some 1) : m_G 8 37 L (.int x0 :: .ref a0 :: []) μ = b_c (m_D 9 [.ref a0, .int x0] μ) 8 40 L [] := g_virt (i := 27) (n := 1) (a := a0) (c := 1) (l := [(1, 9)]) (by decide +kernel) (by decide +kernel) rfl rfl (x_call_ok (ws := [1, 1]) (Nat.le_of_ble_eq_true rfl) rfl (by decide +kernel) rfl (by decide +kernel) rfl rfl) ho
theorem i8_40 (h : x0 &&& 1 = x0) : m_G 8 40 L [.int x0] μ = some (some (.int x0), μ) := g_iretz (by decide +kernel) (by decide) h
theorem i8_41 : m_G 8 41 [.ref a0, v1, v2, v3, v4] st μ = m_G 8 42 [.ref a0, v1, v2, v3, v4] (.ref a0 :: st) μ := g_aload_n (i := 0) (by decide +kernel) rfl
theorem i8_42 : m_G 8 42 [v0, .ref a0, v2, v3, v4] st μ = m_G 8 43 [v0, .ref a0, v2, v3, v4] (.ref a0 :: st) μ := g_aload_n (i := 1) (by decide +kernel) rfl
theorem i8_42N : m_G 8 42 [v0, .null, v2, v3, v4] st μ = m_G 8 43 [v0, .null, v2, v3, v4] (.null :: st) μ := g_aload_nN (i := 1) (by decide +kernel) rfl
theorem i8_43 : m_G 8 43 [v0, v1, .int x0, v3, v4] st μ = m_G 8 44 [v0, v1, .int x0, v3, v4] (.int x0 :: st) μ := g_iload_n (i := 2) (by decide +kernel) rfl
theorem i8_44 (ho : m_oc μ a0 = some 1) : m_G 8 44 L (.int x1 :: .ref a1 :: .ref a0 :: []) μ = b_c (m_D 10 [.ref a0, .ref a1, .int x1] μ) 8 47 L [] := g_virt (i := 31) (n := 2) (a := a0) (c := 1) (l := [(1, 10)]) (by decide +kernel) (by decide +kernel) rfl rfl (x_call_ok (ws := [1, 1, 1]) (Nat.le_of_ble_eq_true rfl) rfl (by decide +kernel) rfl (by decide +kernel) rfl rfl) ho
theorem i8_47 (h : x0 &&& 1 = x0) : m_G 8 47 L [.int x0] μ = some (some (.int x0), μ) := g_iretz (by decide +kernel) (by decide) h
theorem i8_48 : m_G 8 48 [v0, v1, .int x0, v3, v4] st μ = m_G 8 49 [v0, v1, .int x0, v3, v4] (.int x0 :: st) μ := g_iload_n (i := 2) (by decide +kernel) rfl
theorem i8_49 : m_G 8 49 [v0, .ref a0, v2, v3, v4] st μ = m_G 8 50 [v0, .ref a0, v2, v3, v4] (.ref a0 :: st) μ := g_aload_n (i := 1) (by decide +kernel) rfl
theorem i8_49N : m_G 8 49 [v0, .null, v2, v3, v4] st μ = m_G 8 50 [v0, .null, v2, v3, v4] (.null :: st) μ := g_aload_nN (i := 1) (by decide +kernel) rfl
theorem i8_50 : m_G 8 50 L (.ref a0 :: st) μ = b_v (m_gf μ a0 3 9) 8 53 L st μ := g_getf (i := 35) (by decide +kernel) (by decide +kernel)
theorem i8_53 : m_G 8 53 L (.int x1 :: .int x0 :: st) μ = m_G 8 54 L (.int (x0 &&& x1) :: st) μ := g_iand (by decide +kernel)
theorem i8_54 : m_G 8 54 L (.int x0 :: []) μ = b_c (m_D 169 [.int x0] μ) 8 57 L [] := g_stat (i := 21) (n := 1) (by decide +kernel) (by decide +kernel) (by decide) (x_call_ok (ws := [1]) (Nat.le_of_ble_eq_true rfl) rfl (by decide +kernel) rfl (by decide +kernel) rfl rfl)
theorem i8_57 : m_G 8 57 [v0, .ref a0, v2, v3, v4] st μ = m_G 8 58 [v0, .ref a0, v2, v3, v4] (.ref a0 :: st) μ := g_aload_n (i := 1) (by decide +kernel) rfl
theorem i8_57N : m_G 8 57 [v0, .null, v2, v3, v4] st μ = m_G 8 58 [v0, .null, v2, v3, v4] (.null :: st) μ := g_aload_nN (i := 1) (by decide +kernel) rfl
theorem i8_58 : m_G 8 58 [v0, v1, .int x0, v3, v4] st μ = m_G 8 59 [v0, v1, .int x0, v3, v4] (.int x0 :: st) μ := g_iload_n (i := 2) (by decide +kernel) rfl
theorem i8_59 (ho : m_oc μ a0 = some 3) : m_G 8 59 L (.int x0 :: .ref a0 :: [w0]) μ = b_c (m_D 27 [.ref a0, .int x0] μ) 8 62 L [w0] := g_virt (i := 40) (n := 1) (a := a0) (c := 3) (l := [(3, 27)]) (by decide +kernel) (by decide +kernel) rfl rfl (x_call_ok (ws := [1, 1]) (Nat.le_of_ble_eq_true rfl) rfl (by decide +kernel) rfl (by decide +kernel) rfl rfl) ho
theorem i8_62 : m_G 8 62 L (.int x0 :: [w0]) μ = b_c (m_D 169 [.int x0] μ) 8 65 L [w0] := g_stat (i := 21) (n := 1) (by decide +kernel) (by decide +kernel) (by decide) (x_call_ok (ws := [1]) (Nat.le_of_ble_eq_true rfl) rfl (by decide +kernel) rfl (by decide +kernel) rfl rfl)
theorem i8_65 : m_G 8 65 L (.int x1 :: .int x0 :: st) μ = if x0 = x1 then m_G 8 68 L st μ else m_G 8 72 L st μ := g_cmpne (off := 7) (by decide +kernel) (by decide)
theorem i8_68 : m_G 8 68 L st μ = m_G 8 69 L (.int 1 :: st) μ := g_iconst (n := 1) (by decide +kernel) (by decide)
theorem i8_69 : m_G 8 69 L st μ = m_G 8 73 L st μ := g_goto (off := 4) (by decide +kernel) (by decide)
theorem i8_72 : m_G 8 72 L st μ = m_G 8 73 L (.int 0 :: st) μ := g_iconst (n := 0) (by decide +kernel) (by decide)
theorem i8_73 (h : x0 &&& 1 = x0) : m_G 8 73 L [.int x0] μ = some (some (.int x0), μ) := g_iretz (by decide +kernel) (by decide) h
theorem i8_74 : m_G 8 74 [v0, v1, v2, .ref a0, v4] st μ = m_G 8 75 [v0, v1, v2, .ref a0, v4] (.ref a0 :: st) μ := g_aload_n (i := 3) (by decide +kernel) rfl
theorem i8_74N : m_G 8 74 [v0, v1, v2, .null, v4] st μ = m_G 8 75 [v0, v1, v2, .null, v4] (.null :: st) μ := g_aload_nN (i := 3) (by decide +kernel) rfl
theorem i8_75 : m_G 8 75 L (.ref a0 :: st) μ = m_G 8 78 L st μ := g_ifnull (off := 15) (by decide +kernel)
theorem i8_75N : m_G 8 75 L (.null :: st) μ = m_G 8 90 L st μ := g_ifnullN (off := 15) (by decide +kernel) (by decide)
theorem i8_78 : m_G 8 78 [.ref a0, v1, v2, v3, v4] st μ = m_G 8 79 [.ref a0, v1, v2, v3, v4] (.ref a0 :: st) μ := g_aload_n (i := 0) (by decide +kernel) rfl
theorem i8_79 : m_G 8 79 [v0, .ref a0, v2, v3, v4] st μ = m_G 8 80 [v0, .ref a0, v2, v3, v4] (.ref a0 :: st) μ := g_aload_n (i := 1) (by decide +kernel) rfl
theorem i8_79N : m_G 8 79 [v0, .null, v2, v3, v4] st μ = m_G 8 80 [v0, .null, v2, v3, v4] (.null :: st) μ := g_aload_nN (i := 1) (by decide +kernel) rfl
theorem i8_80 : m_G 8 80 [v0, v1, .int x0, v3, v4] st μ = m_G 8 81 [v0, v1, .int x0, v3, v4] (.int x0 :: st) μ := g_iload_n (i := 2) (by decide +kernel) rfl
theorem i8_81 : m_G 8 81 [v0, v1, v2, .ref a0, v4] st μ = m_G 8 82 [v0, v1, v2, .ref a0, v4] (.ref a0 :: st) μ := g_aload_n (i := 3) (by decide +kernel) rfl
theorem i8_81N : m_G 8 81 [v0, v1, v2, .null, v4] st μ = m_G 8 82 [v0, v1, v2, .null, v4] (.null :: st) μ := g_aload_nN (i := 3) (by decide +kernel) rfl
theorem i8_82 : m_G 8 82 [v0, v1, v2, v3, .int x0] st μ = m_G 8 84 [v0, v1, v2, v3, .int x0] (.int x0 :: st) μ := g_iload (i := 4) (by decide +kernel) rfl
theorem i8_84 (ho : m_oc μ a0 = some 1) : m_G 8 84 L (.int x3 :: .ref a3 :: .int x1 :: .ref a1 :: .ref a0 :: []) μ = b_c (m_D 11 [.ref a0, .ref a1, .int x1, .ref a3, .int x3] μ) 8 87 L [] := g_virt (i := 43) (n := 4) (a := a0) (c := 1) (l := [(1, 11)]) (by decide +kernel) (by decide +kernel) rfl rfl (x_call_ok (ws := [1, 1, 1, 1, 1]) (Nat.le_of_ble_eq_true rfl) rfl (by decide +kernel) rfl (by decide +kernel) rfl rfl) ho
theorem i8_87 : m_G 8 87 L (.int x0 :: st) μ = if x0 = 0 then m_G 8 94 L st μ else m_G 8 90 L st μ := g_ifeq (off := 7) (by decide +kernel) (by decide)
theorem i8_90 : m_G 8 90 L st μ = m_G 8 91 L (.int 1 :: st) μ := g_iconst (n := 1) (by decide +kernel) (by decide)
theorem i8_91 : m_G 8 91 L st μ = m_G 8 95 L st μ := g_goto (off := 4) (by decide +kernel) (by decide)
theorem i8_94 : m_G 8 94 L st μ = m_G 8 95 L (.int 0 :: st) μ := g_iconst (n := 0) (by decide +kernel) (by decide)
theorem i8_95 (h : x0 &&& 1 = x0) : m_G 8 95 L [.int x0] μ = some (some (.int x0), μ) := g_iretz (by decide +kernel) (by decide) h
theorem D8 : m_D 8 [.ref a0, .ref a1, .int x1, .ref a3, .int x3] μ = m_G 8 0 [.ref a0, .ref a1, .int x1, .ref a3, .int x3] [] μ := d_def (by decide) rfl
theorem D8N : m_D 8 [.ref a0, .ref a1, .int x1, .null, .int x3] μ = m_G 8 0 [.ref a0, .ref a1, .int x1, .null, .int x3] [] μ := d_def (by decide) rfl
theorem i9_0 : m_G 9 0 [v0, .int x0] st μ = m_G 9 1 [v0, .int x0] (.int x0 :: st) μ := g_iload_n (i := 1) (by decide +kernel) rfl
theorem i9_1 : m_G 9 1 [.ref a0, v1] st μ = m_G 9 2 [.ref a0, v1] (.ref a0 :: st) μ := g_aload_n (i := 0) (by decide +kernel) rfl
theorem i9_2 : m_G 9 2 L (.ref a0 :: st) μ = b_v (m_gf μ a0 1 1) 9 5 L st μ := g_getf (i := 15) (by decide +kernel) (by decide +kernel)
theorem i9_5 : m_G 9 5 L (.int x1 :: .int x0 :: st) μ = if x0 < x1 then m_G 9 20 L st μ else m_G 9 8 L st μ := g_cmplt (off := 15) (by decide +kernel) (by decide)
theorem i9_8 : m_G 9 8 [v0, .int x0] st μ = m_G 9 9 [v0, .int x0] (.int x0 :: st) μ := g_iload_n (i := 1) (by decide +kernel) rfl
theorem i9_9 : m_G 9 9 [.ref a0, v1] st μ = m_G 9 10 [.ref a0, v1] (.ref a0 :: st) μ := g_aload_n (i := 0) (by decide +kernel) rfl
theorem i9_10 : m_G 9 10 L (.ref a0 :: st) μ = b_v (m_gf μ a0 1 2) 9 13 L st μ := g_getf (i := 18) (by decide +kernel) (by decide +kernel)
theorem i9_13 : m_G 9 13 L (.int x1 :: .int x0 :: st) μ = if x1 < x0 then m_G 9 20 L st μ else m_G 9 16 L st μ := g_cmpgt (off := 7) (by decide +kernel) (by decide)
theorem i9_16 : m_G 9 16 L st μ = m_G 9 17 L (.int 1 :: st) μ := g_iconst (n := 1) (by decide +kernel) (by decide)
theorem i9_17 : m_G 9 17 L st μ = m_G 9 21 L st μ := g_goto (off := 4) (by decide +kernel) (by decide)
theorem i9_20 : m_G 9 20 L st μ = m_G 9 21 L (.int 0 :: st) μ := g_iconst (n := 0) (by decide +kernel) (by decide)
theorem i9_21 (h : x0 &&& 1 = x0) : m_G 9 21 L [.int x0] μ = some (some (.int x0), μ) := g_iretz (by decide +kernel) (by decide) h
theorem D9 : m_D 9 [.ref a0, .int x0] μ = m_G 9 0 [.ref a0, .int x0] [] μ := d_def (by decide) rfl
theorem i10_0 : m_G 10 0 L st μ = m_G 10 1 L (.int 0 :: st) μ := g_iconst (n := 0) (by decide +kernel) (by decide)
theorem i10_1 : m_G 10 1 [v0, v1, v2, v3] (.int x0 :: st) μ = m_G 10 2 [v0, v1, v2, .int x0] st μ := g_istore_n (i := 3) (by decide +kernel) (Nat.le_of_ble_eq_true rfl) rfl
theorem i10_2 : m_G 10 2 [v0, v1, v2, .int x0] st μ = m_G 10 3 [v0, v1, v2, .int x0] (.int x0 :: st) μ := g_iload_n (i := 3) (by decide +kernel) rfl
theorem i10_3 : m_G 10 3 [v0, .ref a0, v2, v3] st μ = m_G 10 4 [v0, .ref a0, v2, v3] (.ref a0 :: st) μ := g_aload_n (i := 1) (by decide +kernel) rfl
theorem i10_4 : m_G 10 4 L (.ref a0 :: st) μ = b_v (m_gf μ a0 3 0) 10 7 L st μ := g_getf (i := 47) (by decide +kernel) (by decide +kernel)
theorem i10_7 : m_G 10 7 L (.int x1 :: .int x0 :: st) μ = if x0 < x1 then m_G 10 10 L st μ else m_G 10 44 L st μ := g_cmpge (off := 37) (by decide +kernel) (by decide)
theorem i10_10 : m_G 10 10 [v0, v1, .int x0, v3] st μ = m_G 10 11 [v0, v1, .int x0, v3] (.int x0 :: st) μ := g_iload_n (i := 2) (by decide +kernel) rfl
theorem i10_11 : m_G 10 11 [v0, .ref a0, v2, v3] st μ = m_G 10 12 [v0, .ref a0, v2, v3] (.ref a0 :: st) μ := g_aload_n (i := 1) (by decide +kernel) rfl
theorem i10_12 : m_G 10 12 L (.ref a0 :: st) μ = b_v (m_gf μ a0 3 9) 10 15 L st μ := g_getf (i := 35) (by decide +kernel) (by decide +kernel)
theorem i10_15 : m_G 10 15 L (.int x1 :: .int x0 :: st) μ = m_G 10 16 L (.int (x0 &&& x1) :: st) μ := g_iand (by decide +kernel)
theorem i10_16 : m_G 10 16 [v0, v1, v2, .int x0] st μ = m_G 10 17 [v0, v1, v2, .int x0] (.int x0 :: st) μ := g_iload_n (i := 3) (by decide +kernel) rfl
theorem i10_17 : m_G 10 17 L (.int x1 :: .int x0 :: []) μ = b_c (m_D 96 [.int x0, .int x1] μ) 10 20 L [] := g_stat (i := 50) (n := 2) (by decide +kernel) (by decide +kernel) (by decide) (x_call_ok (ws := [1, 1]) (Nat.le_of_ble_eq_true rfl) rfl (by decide +kernel) rfl (by decide +kernel) rfl rfl)
theorem i10_20 : m_G 10 20 L (.int x0 :: st) μ = if x0 = 0 then m_G 10 38 L st μ else m_G 10 23 L st μ := g_ifeq (off := 18) (by decide +kernel) (by decide)
theorem i10_23 : m_G 10 23 [.ref a0, v1, v2, v3] st μ = m_G 10 24 [.ref a0, v1, v2, v3] (.ref a0 :: st) μ := g_aload_n (i := 0) (by decide +kernel) rfl
theorem i10_24 : m_G 10 24 [v0, .ref a0, v2, v3] st μ = m_G 10 25 [v0, .ref a0, v2, v3] (.ref a0 :: st) μ := g_aload_n (i := 1) (by decide +kernel) rfl
theorem i10_25 : m_G 10 25 L (.ref a0 :: st) μ = b_v (m_gf μ a0 3 2) 10 28 L st μ := g_getf (i := 54) (by decide +kernel) (by decide +kernel)
theorem i10_28 : m_G 10 28 [v0, v1, v2, .int x0] st μ = m_G 10 29 [v0, v1, v2, .int x0] (.int x0 :: st) μ := g_iload_n (i := 3) (by decide +kernel) rfl
theorem i10_29 : m_G 10 29 L (.int x0 :: .ref a0 :: st) μ = b_i (m_ga μ a0 x0) 10 30 L st μ := g_iald (by decide +kernel)
theorem i10_30 (ho : m_oc μ a0 = some 1) : m_G 10 30 L (.int x0 :: .ref a0 :: []) μ = b_c (m_D 9 [.ref a0, .int x0] μ) 10 33 L [] := g_virt (i := 27) (n := 1) (a := a0) (c := 1) (l := [(1, 9)]) (by decide +kernel) (by decide +kernel) rfl rfl (x_call_ok (ws := [1, 1]) (Nat.le_of_ble_eq_true rfl) rfl (by decide +kernel) rfl (by decide +kernel) rfl rfl) ho
theorem i10_33 : m_G 10 33 L (.int x0 :: st) μ = if x0 = 0 then m_G 10 36 L st μ else m_G 10 38 L st μ := g_ifne (off := 5) (by decide +kernel) (by decide)
theorem i10_36 : m_G 10 36 L st μ = m_G 10 37 L (.int 0 :: st) μ := g_iconst (n := 0) (by decide +kernel) (by decide)
theorem i10_37 (h : x0 &&& 1 = x0) : m_G 10 37 L [.int x0] μ = some (some (.int x0), μ) := g_iretz (by decide +kernel) (by decide) h
theorem i10_38 : m_G 10 38 [v0, v1, v2, .int x0] st μ = m_G 10 41 [v0, v1, v2, .int (x0 + 1)] st μ := g_iinc (i := 3) (n := 1) (by decide +kernel) rfl (by decide) rfl
theorem i10_41 : m_G 10 41 L st μ = m_G 10 2 L st μ := g_goto (off := -39) (by decide +kernel) (by decide)
theorem i10_44 : m_G 10 44 L st μ = m_G 10 45 L (.int 1 :: st) μ := g_iconst (n := 1) (by decide +kernel) (by decide)
theorem i10_45 (h : x0 &&& 1 = x0) : m_G 10 45 L [.int x0] μ = some (some (.int x0), μ) := g_iretz (by decide +kernel) (by decide) h
theorem D10 : m_D 10 [.ref a0, .ref a1, .int x1] μ = m_G 10 0 [.ref a0, .ref a1, .int x1, m_d] [] μ := d_def (by decide) rfl
theorem i11_0 : m_G 11 0 [v0, v1, v2, .ref a0, v4, v5, v6] st μ = m_G 11 1 [v0, v1, v2, .ref a0, v4, v5, v6] (.ref a0 :: st) μ := g_aload_n (i := 3) (by decide +kernel) rfl
theorem i11_1 : m_G 11 1 [v0, v1, v2, v3, .int x0, v5, v6] st μ = m_G 11 3 [v0, v1, v2, v3, .int x0, v5, v6] (.int x0 :: st) μ := g_iload (i := 4) (by decide +kernel) rfl
theorem i11_3 (ho : m_oc μ a0 = some 3) : m_G 11 3 L (.int x0 :: .ref a0 :: []) μ = b_c (m_D 27 [.ref a0, .int x0] μ) 11 6 L [] := g_virt (i := 40) (n := 1) (a := a0) (c := 3) (l := [(3, 27)]) (by decide +kernel) (by decide +kernel) rfl rfl (x_call_ok (ws := [1, 1]) (Nat.le_of_ble_eq_true rfl) rfl (by decide +kernel) rfl (by decide +kernel) rfl rfl) ho
theorem i11_6 : m_G 11 6 [v0, v1, v2, v3, v4, v5, v6] (.int x0 :: st) μ = m_G 11 8 [v0, v1, v2, v3, v4, .int x0, v6] st μ := g_istore (i := 5) (by decide +kernel) (Nat.le_of_ble_eq_true rfl) rfl
theorem i11_8 : m_G 11 8 [v0, v1, v2, .ref a0, v4, v5, v6] st μ = m_G 11 9 [v0, v1, v2, .ref a0, v4, v5, v6] (.ref a0 :: st) μ := g_aload_n (i := 3) (by decide +kernel) rfl
theorem i11_9 : m_G 11 9 [v0, v1, v2, v3, v4, .int x0, v6] st μ = m_G 11 11 [v0, v1, v2, v3, v4, .int x0, v6] (.int x0 :: st) μ := g_iload (i := 5) (by decide +kernel) rfl
theorem i11_11 : m_G 11 11 [v0, .ref a0, v2, v3, v4, v5, v6] st μ = m_G 11 12 [v0, .ref a0, v2, v3, v4, v5, v6] (.ref a0 :: st) μ := g_aload_n (i := 1) (by decide +kernel) rfl
theorem i11_12 : m_G 11 12 [v0, v1, .int x0, v3, v4, v5, v6] st μ = m_G 11 13 [v0, v1, .int x0, v3, v4, v5, v6] (.int x0 :: st) μ := g_iload_n (i := 2) (by decide +kernel) rfl
theorem i11_13 (ho : m_oc μ a0 = some 3) : m_G 11 13 L (.int x2 :: .ref a2 :: .int x0 :: .ref a0 :: []) μ = b_c (m_D 29 [.ref a0, .int x0, .ref a2, .int x2] μ) 11 16 L [] := g_virt (i := 58) (n := 3) (a := a0) (c := 3) (l := [(3, 29)]) (by decide +kernel) (by decide +kernel) rfl rfl (x_call_ok (ws := [1, 1, 1, 1]) (Nat.le_of_ble_eq_true rfl) rfl (by decide +kernel) rfl (by decide +kernel) rfl rfl) ho
theorem i11_16 : m_G 11 16 [v0, v1, v2, v3, v4, v5, v6] (.int x0 :: st) μ = m_G 11 18 [v0, v1, v2, v3, v4, v5, .int x0] st μ := g_istore (i := 6) (by decide +kernel) (Nat.le_of_ble_eq_true rfl) rfl
theorem i11_18 : m_G 11 18 [v0, v1, v2, v3, v4, v5, .int x0] st μ = m_G 11 20 [v0, v1, v2, v3, v4, v5, .int x0] (.int x0 :: st) μ := g_iload (i := 6) (by decide +kernel) rfl
theorem i11_20 : m_G 11 20 L (.int x0 :: []) μ = b_c (m_D 169 [.int x0] μ) 11 23 L [] := g_stat (i := 21) (n := 1) (by decide +kernel) (by decide +kernel) (by decide) (x_call_ok (ws := [1]) (Nat.le_of_ble_eq_true rfl) rfl (by decide +kernel) rfl (by decide +kernel) rfl rfl)
theorem i11_23 : m_G 11 23 L st μ = m_G 11 25 L (.int 100 :: st) μ := g_bipush (n := 100) (by decide +kernel) (by decide)
theorem i11_25 : m_G 11 25 L (.int x1 :: .int x0 :: st) μ = m_G 11 26 L (.int (x0 * x1) :: st) μ := g_imul (by decide +kernel)
theorem i11_26 : m_G 11 26 [.ref a0, v1, v2, v3, v4, v5, v6] st μ = m_G 11 27 [.ref a0, v1, v2, v3, v4, v5, v6] (.ref a0 :: st) μ := g_aload_n (i := 0) (by decide +kernel) rfl
theorem i11_27 : m_G 11 27 L (.ref a0 :: st) μ = b_v (m_gf μ a0 1 1) 11 30 L st μ := g_getf (i := 15) (by decide +kernel) (by decide +kernel)
theorem i11_30 : m_G 11 30 [v0, v1, v2, v3, v4, .int x0, v6] st μ = m_G 11 32 [v0, v1, v2, v3, v4, .int x0, v6] (.int x0 :: st) μ := g_iload (i := 5) (by decide +kernel) rfl
theorem i11_32 : m_G 11 32 L (.int x0 :: [w0, w1]) μ = b_c (m_D 169 [.int x0] μ) 11 35 L [w0, w1] := g_stat (i := 21) (n := 1) (by decide +kernel) (by decide +kernel) (by decide) (x_call_ok (ws := [1]) (Nat.le_of_ble_eq_true rfl) rfl (by decide +kernel) rfl (by decide +kernel) rfl rfl)
theorem i11_35 : m_G 11 35 L (.int x1 :: .int x0 :: st) μ = m_G 11 36 L (.int (x0 * x1) :: st) μ := g_imul (by decide +kernel)
theorem i11_36 : m_G 11 36 L (.int x1 :: .int x0 :: st) μ = if x0 < x1 then m_G 11 43 L st μ else m_G 11 39 L st μ := g_cmplt (off := 7) (by decide +kernel) (by decide)
theorem i11_39 : m_G 11 39 L st μ = m_G 11 40 L (.int 1 :: st) μ := g_iconst (n := 1) (by decide +kernel) (by decide)
theorem i11_40 : m_G 11 40 L st μ = m_G 11 44 L st μ := g_goto (off := 4) (by decide +kernel) (by decide)
theorem i11_43 : m_G 11 43 L st μ = m_G 11 44 L (.int 0 :: st) μ := g_iconst (n := 0) (by decide +kernel) (by decide)
theorem i11_44 (h : x0 &&& 1 = x0) : m_G 11 44 L [.int x0] μ = some (some (.int x0), μ) := g_iretz (by decide +kernel) (by decide) h
theorem D11 : m_D 11 [.ref a0, .ref a1, .int x1, .ref a3, .int x3] μ = m_G 11 0 [.ref a0, .ref a1, .int x1, .ref a3, .int x3, m_d, m_d] [] μ := d_def (by decide) rfl
theorem i12_0 : m_G 12 0 [.ref a0] st μ = m_G 12 1 [.ref a0] (.ref a0 :: st) μ := g_aload_n (i := 0) (by decide +kernel) rfl
theorem i12_1 : m_G 12 1 L (.ref a0 :: []) μ = m_G 12 4 L [] μ := g_obj (i := 3) (by decide +kernel) (by decide +kernel) ⟨Nat.le_of_ble_eq_true rfl, by decide, by decide⟩
theorem i12_4 : m_G 12 4 L [] μ = some (none, μ) := g_ret (by decide +kernel) (by decide)
theorem D12 : m_D 12 [.ref a0] μ = m_G 12 0 [.ref a0] [] μ := d_def (by decide) rfl
theorem i13_0 : m_G 13 0 [v0, .ref a0, v2, v3, v4, v5] st μ = m_G 13 1 [v0, .ref a0, v2, v3, v4, v5] (.ref a0 :: st) μ := g_aload_n (i := 1) (by decide +kernel) rfl
theorem i13_1 (ho : m_oc μ a0 = some 3) : m_G 13 1 L (.ref a0 :: []) μ = b_c (m_D 26 [.ref a0] μ) 13 4 L [] := g_virt (i := 9) (n := 0) (a := a0) (c := 3) (l := [(3, 26)]) (by decide +kernel) (by decide +kernel) rfl rfl (x_call_ok (ws := [1]) (Nat.le_of_ble_eq_true rfl) rfl (by decide +kernel) rfl (by decide +kernel) rfl rfl) ho
theorem i13_4 : m_G 13 4 [v0, .ref a0, v2, v3, v4, v5] st μ = m_G 13 5 [v0, .ref a0, v2, v3, v4, v5] (.ref a0 :: st) μ := g_aload_n (i := 1) (by decide +kernel) rfl
theorem i13_5 : m_G 13 5 L (.ref a0 :: st) μ = b_v (m_gf μ a0 3 14) 13 8 L st μ := g_getf (i := 14) (by decide +kernel) (by decide +kernel)
theorem i13_8 : m_G 13 8 [v0, v1, v2, v3, v4, v5] (.ref a0 :: st) μ = m_G 13 9 [v0, v1, v2, .ref a0, v4, v5] st μ := g_astore_n (i := 3) (by decide +kernel) (Nat.le_of_ble_eq_true rfl) rfl
theorem i13_9 : m_G 13 9 [.ref a0, v1, v2, v3, v4, v5] st μ = m_G 13 10 [.ref a0, v1, v2, v3, v4, v5] (.ref a0 :: st) μ := g_aload_n (i := 0) (by decide +kernel) rfl
theorem i13_10 : m_G 13 10 L st μ = m_G 13 11 L (.int (-1) :: st) μ := g_iconst (n := -1) (by decide +kernel) (by decide)
theorem i13_11 : m_G 13 11 L (w0 :: .ref a0 :: st) μ = b_m (m_pf μ a0 2 0 .int w0) 13 14 L st := g_putf (i := 18) (by decide +kernel) (by decide +kernel) (Or.inl (by decide)) (by decide)
theorem i13_14 : m_G 13 14 [.ref a0, v1, v2, v3, v4, v5] st μ = m_G 13 15 [.ref a0, v1, v2, v3, v4, v5] (.ref a0 :: st) μ := g_aload_n (i := 0) (by decide +kernel) rfl
theorem i13_15 : m_G 13 15 L st μ = m_G 13 16 L (.int 0 :: st) μ := g_iconst (n := 0) (by decide +kernel) (by decide)
theorem i13_16 : m_G 13 16 L (w0 :: .ref a0 :: st) μ = b_m (m_pf μ a0 2 1 .int w0) 13 19 L st := g_putf (i := 24) (by decide +kernel) (by decide +kernel) (Or.inl (by decide)) (by decide)
theorem i13_19 : m_G 13 19 L st μ = m_G 13 20 L (.int 0 :: st) μ := g_iconst (n := 0) (by decide +kernel) (by decide)
theorem i13_20 : m_G 13 20 [v0, v1, v2, v3, v4, v5] (.int x0 :: st) μ = m_G 13 22 [v0, v1, v2, v3, .int x0, v5] st μ := g_istore (i := 4) (by decide +kernel) (Nat.le_of_ble_eq_true rfl) rfl
theorem i13_22 : m_G 13 22 [v0, v1, v2, v3, .int x0, v5] st μ = m_G 13 24 [v0, v1, v2, v3, .int x0, v5] (.int x0 :: st) μ := g_iload (i := 4) (by decide +kernel) rfl
theorem i13_24 : m_G 13 24 L st μ = m_G 13 27 L (.int 3615 :: st) μ := g_sipush (n := 3615) (by decide +kernel) (by decide)
theorem i13_27 : m_G 13 27 L (.int x1 :: .int x0 :: st) μ = if x0 < x1 then m_G 13 30 L st μ else m_G 13 117 L st μ := g_cmpge (off := 90) (by decide +kernel) (by decide)
theorem i13_30 : m_G 13 30 [v0, .ref a0, v2, v3, v4, v5] st μ = m_G 13 31 [v0, .ref a0, v2, v3, v4, v5] (.ref a0 :: st) μ := g_aload_n (i := 1) (by decide +kernel) rfl
theorem i13_31 : m_G 13 31 [v0, v1, v2, .ref a0, v4, v5] st μ = m_G 13 32 [v0, v1, v2, .ref a0, v4, v5] (.ref a0 :: st) μ := g_aload_n (i := 3) (by decide +kernel) rfl
theorem i13_32 : m_G 13 32 [v0, v1, v2, v3, .int x0, v5] st μ = m_G 13 34 [v0, v1, v2, v3, .int x0, v5] (.int x0 :: st) μ := g_iload (i := 4) (by decide +kernel) rfl
theorem i13_34 : m_G 13 34 L (.int x0 :: .ref a0 :: st) μ = b_i (m_ga μ a0 x0) 13 35 L st μ := g_iald (by decide +kernel)
theorem i13_35 : m_G 13 35 [v0, v1, .int x0, v3, v4, v5] st μ = m_G 13 36 [v0, v1, .int x0, v3, v4, v5] (.int x0 :: st) μ := g_iload_n (i := 2) (by decide +kernel) rfl
theorem i13_36 : m_G 13 36 L (.int x2 :: .int x1 :: .ref a1 :: []) μ = b_c (m_D 14 [.ref a1, .int x1, .int x2] μ) 13 39 L [] := g_stat (i := 27) (n := 3) (by decide +kernel) (by decide +kernel) (by decide) (x_call_ok (ws := [1, 1, 1]) (Nat.le_of_ble_eq_true rfl) rfl (by decide +kernel) rfl (by decide +kernel) rfl rfl)
theorem i13_39 : m_G 13 39 [v0, v1, v2, v3, v4, v5] (.int x0 :: st) μ = m_G 13 41 [v0, v1, v2, v3, v4, .int x0] st μ := g_istore (i := 5) (by decide +kernel) (Nat.le_of_ble_eq_true rfl) rfl
theorem i13_41 : m_G 13 41 [.ref a0, v1, v2, v3, v4, v5] st μ = m_G 13 42 [.ref a0, v1, v2, v3, v4, v5] (.ref a0 :: st) μ := g_aload_n (i := 0) (by decide +kernel) rfl
theorem i13_42 : m_G 13 42 L (.ref a0 :: st) μ = b_v (m_gf μ a0 2 0) 13 45 L st μ := g_getf (i := 18) (by decide +kernel) (by decide +kernel)
theorem i13_45 : m_G 13 45 L st μ = m_G 13 46 L (.int (-1) :: st) μ := g_iconst (n := -1) (by decide +kernel) (by decide)
theorem i13_46 : m_G 13 46 L (.int x1 :: .int x0 :: st) μ = if x0 = x1 then m_G 13 58 L st μ else m_G 13 49 L st μ := g_cmpeq (off := 12) (by decide +kernel) (by decide)
theorem i13_49 : m_G 13 49 [v0, v1, v2, v3, v4, .int x0] st μ = m_G 13 51 [v0, v1, v2, v3, v4, .int x0] (.int x0 :: st) μ := g_iload (i := 5) (by decide +kernel) rfl
theorem i13_51 : m_G 13 51 [.ref a0, v1, v2, v3, v4, v5] st μ = m_G 13 52 [.ref a0, v1, v2, v3, v4, v5] (.ref a0 :: st) μ := g_aload_n (i := 0) (by decide +kernel) rfl
theorem i13_52 : m_G 13 52 L (.ref a0 :: st) μ = b_v (m_gf μ a0 2 1) 13 55 L st μ := g_getf (i := 24) (by decide +kernel) (by decide +kernel)
theorem i13_55 : m_G 13 55 L (.int x1 :: .int x0 :: st) μ = if x1 < x0 then m_G 13 58 L st μ else m_G 13 86 L st μ := g_cmple (off := 31) (by decide +kernel) (by decide)
theorem i13_58 : m_G 13 58 [.ref a0, v1, v2, v3, v4, v5] st μ = m_G 13 59 [.ref a0, v1, v2, v3, v4, v5] (.ref a0 :: st) μ := g_aload_n (i := 0) (by decide +kernel) rfl
theorem i13_59 : m_G 13 59 [v0, v1, v2, v3, .int x0, v5] st μ = m_G 13 61 [v0, v1, v2, v3, .int x0, v5] (.int x0 :: st) μ := g_iload (i := 4) (by decide +kernel) rfl
theorem i13_61 : m_G 13 61 L (w0 :: .ref a0 :: st) μ = b_m (m_pf μ a0 2 0 .int w0) 13 64 L st := g_putf (i := 18) (by decide +kernel) (by decide +kernel) (Or.inl (by decide)) (by decide)
theorem i13_64 : m_G 13 64 [.ref a0, v1, v2, v3, v4, v5] st μ = m_G 13 65 [.ref a0, v1, v2, v3, v4, v5] (.ref a0 :: st) μ := g_aload_n (i := 0) (by decide +kernel) rfl
theorem i13_65 : m_G 13 65 [v0, v1, v2, v3, v4, .int x0] st μ = m_G 13 67 [v0, v1, v2, v3, v4, .int x0] (.int x0 :: st) μ := g_iload (i := 5) (by decide +kernel) rfl
theorem i13_67 : m_G 13 67 L (w0 :: .ref a0 :: st) μ = b_m (m_pf μ a0 2 1 .int w0) 13 70 L st := g_putf (i := 24) (by decide +kernel) (by decide +kernel) (Or.inl (by decide)) (by decide)
theorem i13_70 : m_G 13 70 [.ref a0, v1, v2, v3, v4, v5] st μ = m_G 13 71 [.ref a0, v1, v2, v3, v4, v5] (.ref a0 :: st) μ := g_aload_n (i := 0) (by decide +kernel) rfl
theorem i13_71 : m_G 13 71 [v0, v1, v2, .ref a0, v4, v5] st μ = m_G 13 72 [v0, v1, v2, .ref a0, v4, v5] (.ref a0 :: st) μ := g_aload_n (i := 3) (by decide +kernel) rfl
theorem i13_72 : m_G 13 72 [v0, v1, v2, v3, .int x0, v5] st μ = m_G 13 74 [v0, v1, v2, v3, .int x0, v5] (.int x0 :: st) μ := g_iload (i := 4) (by decide +kernel) rfl
theorem i13_74 : m_G 13 74 L (.int x0 :: .ref a0 :: st) μ = b_i (m_ga μ a0 x0) 13 75 L st μ := g_iald (by decide +kernel)
theorem i13_75 : m_G 13 75 L (w0 :: .ref a0 :: st) μ = b_m (m_pf μ a0 2 2 .int w0) 13 78 L st := g_putf (i := 31) (by decide +kernel) (by decide +kernel) (Or.inl (by decide)) (by decide)
theorem i13_78 : m_G 13 78 [.ref a0, v1, v2, v3, v4, v5] st μ = m_G 13 79 [.ref a0, v1, v2, v3, v4, v5] (.ref a0 :: st) μ := g_aload_n (i := 0) (by decide +kernel) rfl
theorem i13_79 : m_G 13 79 L st μ = m_G 13 80 L (.int 1 :: st) μ := g_iconst (n := 1) (by decide +kernel) (by decide)
theorem i13_80 : m_G 13 80 L (w0 :: .ref a0 :: st) μ = b_m (m_pf μ a0 2 3 .boolean w0) 13 83 L st := g_putf (i := 34) (by decide +kernel) (by decide +kernel) (Or.inl (by decide)) (by decide)
theorem i13_83 : m_G 13 83 L st μ = m_G 13 111 L st μ := g_goto (off := 28) (by decide +kernel) (by decide)
theorem i13_86 : m_G 13 86 [v0, v1, v2, v3, v4, .int x0] st μ = m_G 13 88 [v0, v1, v2, v3, v4, .int x0] (.int x0 :: st) μ := g_iload (i := 5) (by decide +kernel) rfl
theorem i13_88 : m_G 13 88 [.ref a0, v1, v2, v3, v4, v5] st μ = m_G 13 89 [.ref a0, v1, v2, v3, v4, v5] (.ref a0 :: st) μ := g_aload_n (i := 0) (by decide +kernel) rfl
theorem i13_89 : m_G 13 89 L (.ref a0 :: st) μ = b_v (m_gf μ a0 2 1) 13 92 L st μ := g_getf (i := 24) (by decide +kernel) (by decide +kernel)
theorem i13_92 : m_G 13 92 L (.int x1 :: .int x0 :: st) μ = if x0 = x1 then m_G 13 95 L st μ else m_G 13 111 L st μ := g_cmpne (off := 19) (by decide +kernel) (by decide)
theorem i13_95 : m_G 13 95 [v0, v1, v2, .ref a0, v4, v5] st μ = m_G 13 96 [v0, v1, v2, .ref a0, v4, v5] (.ref a0 :: st) μ := g_aload_n (i := 3) (by decide +kernel) rfl
theorem i13_96 : m_G 13 96 [v0, v1, v2, v3, .int x0, v5] st μ = m_G 13 98 [v0, v1, v2, v3, .int x0, v5] (.int x0 :: st) μ := g_iload (i := 4) (by decide +kernel) rfl
theorem i13_98 : m_G 13 98 L (.int x0 :: .ref a0 :: st) μ = b_i (m_ga μ a0 x0) 13 99 L st μ := g_iald (by decide +kernel)
theorem i13_99 : m_G 13 99 [.ref a0, v1, v2, v3, v4, v5] st μ = m_G 13 100 [.ref a0, v1, v2, v3, v4, v5] (.ref a0 :: st) μ := g_aload_n (i := 0) (by decide +kernel) rfl
theorem i13_100 : m_G 13 100 L (.ref a0 :: st) μ = b_v (m_gf μ a0 2 2) 13 103 L st μ := g_getf (i := 31) (by decide +kernel) (by decide +kernel)
theorem i13_103 : m_G 13 103 L (.int x1 :: .int x0 :: st) μ = if x0 = x1 then m_G 13 111 L st μ else m_G 13 106 L st μ := g_cmpeq (off := 8) (by decide +kernel) (by decide)
theorem i13_106 : m_G 13 106 [.ref a0, v1, v2, v3, v4, v5] st μ = m_G 13 107 [.ref a0, v1, v2, v3, v4, v5] (.ref a0 :: st) μ := g_aload_n (i := 0) (by decide +kernel) rfl
theorem i13_107 : m_G 13 107 L st μ = m_G 13 108 L (.int 0 :: st) μ := g_iconst (n := 0) (by decide +kernel) (by decide)
theorem i13_108 : m_G 13 108 L (w0 :: .ref a0 :: st) μ = b_m (m_pf μ a0 2 3 .boolean w0) 13 111 L st := g_putf (i := 34) (by decide +kernel) (by decide +kernel) (Or.inl (by decide)) (by decide)
theorem i13_111 : m_G 13 111 [v0, v1, v2, v3, .int x0, v5] st μ = m_G 13 114 [v0, v1, v2, v3, .int (x0 + 1), v5] st μ := g_iinc (i := 4) (n := 1) (by decide +kernel) rfl (by decide) rfl
theorem i13_114 : m_G 13 114 L st μ = m_G 13 22 L st μ := g_goto (off := -92) (by decide +kernel) (by decide)
theorem i13_117 : m_G 13 117 L [] μ = some (none, μ) := g_ret (by decide +kernel) (by decide)
theorem D13 : m_D 13 [.ref a0, .ref a1, .int x1] μ = m_G 13 0 [.ref a0, .ref a1, .int x1, m_d, m_d, m_d] [] μ := d_def (by decide) rfl
theorem i14_0 : m_G 14 0 [v0, .int x0, v2, v3] st μ = m_G 14 1 [v0, .int x0, v2, v3] (.int x0 :: st) μ := g_iload_n (i := 1) (by decide +kernel) rfl
theorem i14_1 : m_G 14 1 L (.int x0 :: st) μ = if x0 = 0 then m_G 14 4 L st μ else m_G 14 8 L st μ := g_ifne (off := 7) (by decide +kernel) (by decide)
theorem i14_4 : m_G 14 4 L st μ = m_G 14 5 L (.int 0 :: st) μ := g_iconst (n := 0) (by decide +kernel) (by decide)
theorem i14_5 : m_G 14 5 L st μ = m_G 14 13 L st μ := g_goto (off := 8) (by decide +kernel) (by decide)
theorem i14_8 : m_G 14 8 [.ref a0, v1, v2, v3] st μ = m_G 14 9 [.ref a0, v1, v2, v3] (.ref a0 :: st) μ := g_aload_n (i := 0) (by decide +kernel) rfl
theorem i14_9 : m_G 14 9 [v0, .int x0, v2, v3] st μ = m_G 14 10 [v0, .int x0, v2, v3] (.int x0 :: st) μ := g_iload_n (i := 1) (by decide +kernel) rfl
theorem i14_10 (ho : m_oc μ a0 = some 3) : m_G 14 10 L (.int x0 :: .ref a0 :: []) μ = b_c (m_D 27 [.ref a0, .int x0] μ) 14 13 L [] := g_virt (i := 38) (n := 1) (a := a0) (c := 3) (l := [(3, 27)]) (by decide +kernel) (by decide +kernel) rfl rfl (x_call_ok (ws := [1, 1]) (Nat.le_of_ble_eq_true rfl) rfl (by decide +kernel) rfl (by decide +kernel) rfl rfl) ho
theorem i14_13 : m_G 14 13 [v0, v1, v2, v3] (.int x0 :: st) μ = m_G 14 14 [v0, v1, v2, .int x0] st μ := g_istore_n (i := 3) (by decide +kernel) (Nat.le_of_ble_eq_true rfl) rfl
theorem i14_14 : m_G 14 14 [v0, v1, v2, .int x0] st μ = m_G 14 15 [v0, v1, v2, .int x0] (.int x0 :: st) μ := g_iload_n (i := 3) (by decide +kernel) rfl
theorem i14_15 : m_G 14 15 [v0, v1, .int x0, v3] st μ = m_G 14 16 [v0, v1, .int x0, v3] (.int x0 :: st) μ := g_iload_n (i := 2) (by decide +kernel) rfl
theorem i14_16 : m_G 14 16 L (.int x1 :: .int x0 :: st) μ = m_G 14 17 L (.int (x0 &&& x1) :: st) μ := g_iand (by decide +kernel)
theorem i14_17 : m_G 14 17 L (.int x0 :: []) μ = b_c (m_D 169 [.int x0] μ) 14 20 L [] := g_stat (i := 42) (n := 1) (by decide +kernel) (by decide +kernel) (by decide) (x_call_ok (ws := [1]) (Nat.le_of_ble_eq_true rfl) rfl (by decide +kernel) rfl (by decide +kernel) rfl rfl)
theorem i14_20 : m_G 14 20 [v0, v1, v2, .int x0] st μ = m_G 14 21 [v0, v1, v2, .int x0] (.int x0 :: st) μ := g_iload_n (i := 3) (by decide +kernel) rfl
theorem i14_21 : m_G 14 21 [v0, v1, .int x0, v3] st μ = m_G 14 22 [v0, v1, .int x0, v3] (.int x0 :: st) μ := g_iload_n (i := 2) (by decide +kernel) rfl
theorem i14_22 : m_G 14 22 L st μ = m_G 14 23 L (.int (-1) :: st) μ := g_iconst (n := -1) (by decide +kernel) (by decide)
theorem i14_23 : m_G 14 23 L (.int x1 :: .int x0 :: st) μ = m_G 14 24 L (.int (x0 ^^^ x1) :: st) μ := g_ixor (by decide +kernel)
theorem i14_24 : m_G 14 24 L (.int x1 :: .int x0 :: st) μ = m_G 14 25 L (.int (x0 &&& x1) :: st) μ := g_iand (by decide +kernel)
theorem i14_25 : m_G 14 25 L (.int x0 :: [w0]) μ = b_c (m_D 169 [.int x0] μ) 14 28 L [w0] := g_stat (i := 42) (n := 1) (by decide +kernel) (by decide +kernel) (by decide) (x_call_ok (ws := [1]) (Nat.le_of_ble_eq_true rfl) rfl (by decide +kernel) rfl (by decide +kernel) rfl rfl)
theorem i14_28 : m_G 14 28 L (.int x1 :: .int x0 :: st) μ = m_G 14 29 L (.int (x0 - x1) :: st) μ := g_isub (by decide +kernel)
theorem i14_29 : m_G 14 29 L [.int x0] μ = some (some (.int x0), μ) := g_ireti (by decide +kernel) (by decide)
theorem D14 : m_D 14 [.ref a1, .int x1, .int x2] μ = m_G 14 0 [.ref a1, .int x1, .int x2, m_d] [] μ := d_def (by decide) rfl
theorem i15_0 : m_G 15 0 [.ref a0, v1, v2, v3, v4, v5] st μ = m_G 15 1 [.ref a0, v1, v2, v3, v4, v5] (.ref a0 :: st) μ := g_aload_n (i := 0) (by decide +kernel) rfl
theorem i15_1 : m_G 15 1 L (.ref a0 :: []) μ = m_G 15 4 L [] μ := g_obj (i := 3) (by decide +kernel) (by decide +kernel) ⟨Nat.le_of_ble_eq_true rfl, by decide, by decide⟩
theorem i15_4 : m_G 15 4 [.ref a0, v1, v2, v3, v4, v5] st μ = m_G 15 5 [.ref a0, v1, v2, v3, v4, v5] (.ref a0 :: st) μ := g_aload_n (i := 0) (by decide +kernel) rfl
theorem i15_5 : m_G 15 5 L st μ = m_G 15 6 L (.int 5 :: st) μ := g_iconst (n := 5) (by decide +kernel) (by decide)
theorem i15_6 : m_G 15 6 L (.int x0 :: st) μ = if x_nok x0 = true then m_G 15 8 L (.ref (mN μ) :: st) (m_new μ x0.toNatClampNeg (m_ia 0 x0.toNatClampNeg (fun _ => 0))) else none := g_newa (t := .int) (by decide +kernel) rfl
theorem i15_8 : m_G 15 8 L (w0 :: .ref a0 :: st) μ = b_m (m_pf μ a0 3 8 (.array .int) w0) 15 11 L st := g_putf (i := 9) (by decide +kernel) (by decide +kernel) (Or.inr ⟨by decide, by decide⟩) (by decide)
theorem i15_11 : m_G 15 11 [.ref a0, v1, v2, v3, v4, v5] st μ = m_G 15 12 [.ref a0, v1, v2, v3, v4, v5] (.ref a0 :: st) μ := g_aload_n (i := 0) (by decide +kernel) rfl
theorem i15_12 : m_G 15 12 L st μ = m_G 15 15 L (.int 3615 :: st) μ := g_sipush (n := 3615) (by decide +kernel) (by decide)
theorem i15_15 : m_G 15 15 L (.int x0 :: st) μ = if x_nok x0 = true then m_G 15 17 L (.ref (mN μ) :: st) (m_new μ x0.toNatClampNeg (m_ia 0 x0.toNatClampNeg (fun _ => 0))) else none := g_newa (t := .int) (by decide +kernel) rfl
theorem i15_17 : m_G 15 17 L (w0 :: .ref a0 :: st) μ = b_m (m_pf μ a0 3 14 (.array .int) w0) 15 20 L st := g_putf (i := 15) (by decide +kernel) (by decide +kernel) (Or.inr ⟨by decide, by decide⟩) (by decide)
theorem i15_20 : m_G 15 20 [.ref a0, v1, v2, v3, v4, v5] st μ = m_G 15 21 [.ref a0, v1, v2, v3, v4, v5] (.ref a0 :: st) μ := g_aload_n (i := 0) (by decide +kernel) rfl
theorem i15_21 : m_G 15 21 [v0, .ref a0, v2, v3, v4, v5] st μ = m_G 15 22 [v0, .ref a0, v2, v3, v4, v5] (.ref a0 :: st) μ := g_aload_n (i := 1) (by decide +kernel) rfl
theorem i15_22 : m_G 15 22 L (.ref a0 :: st) μ = b_v (m_gf μ a0 4 3) 15 25 L st μ := g_getf (i := 18) (by decide +kernel) (by decide +kernel)
theorem i15_25 : m_G 15 25 L (w0 :: .ref a0 :: st) μ = b_m (m_pf μ a0 3 0 .int w0) 15 28 L st := g_putf (i := 24) (by decide +kernel) (by decide +kernel) (Or.inr ⟨by decide, by decide⟩) (by decide)
theorem i15_28 : m_G 15 28 [.ref a0, v1, v2, v3, v4, v5] st μ = m_G 15 29 [.ref a0, v1, v2, v3, v4, v5] (.ref a0 :: st) μ := g_aload_n (i := 0) (by decide +kernel) rfl
theorem i15_29 : m_G 15 29 [v0, .ref a0, v2, v3, v4, v5] st μ = m_G 15 30 [v0, .ref a0, v2, v3, v4, v5] (.ref a0 :: st) μ := g_aload_n (i := 1) (by decide +kernel) rfl
theorem i15_30 : m_G 15 30 L (.ref a0 :: st) μ = b_v (m_gf μ a0 4 0) 15 33 L st μ := g_getf (i := 25) (by decide +kernel) (by decide +kernel)
theorem i15_33 : m_G 15 33 [.ref a0, v1, v2, v3, v4, v5] st μ = m_G 15 34 [.ref a0, v1, v2, v3, v4, v5] (.ref a0 :: st) μ := g_aload_n (i := 0) (by decide +kernel) rfl
theorem i15_34 : m_G 15 34 L (.ref a0 :: st) μ = b_v (m_gf μ a0 3 0) 15 37 L st μ := g_getf (i := 24) (by decide +kernel) (by decide +kernel)
theorem i15_37 : m_G 15 37 L (.int x1 :: .ref a1 :: [w0]) μ = b_c (m_D 173 [.ref a1, .int x1] μ) 15 40 L [w0] := g_stat (i := 28) (n := 2) (by decide +kernel) (by decide +kernel) (by decide) (x_call_ok (ws := [1, 1]) (Nat.le_of_ble_eq_true rfl) rfl (by decide +kernel) rfl (by decide +kernel) rfl rfl)
theorem i15_40 : m_G 15 40 L (w0 :: .ref a0 :: st) μ = b_m (m_pf μ a0 3 1 (.array .int) w0) 15 43 L st := g_putf (i := 34) (by decide +kernel) (by decide +kernel) (Or.inr ⟨by decide, by decide⟩) (by decide)
theorem i15_43 : m_G 15 43 [.ref a0, v1, v2, v3, v4, v5] st μ = m_G 15 44 [.ref a0, v1, v2, v3, v4, v5] (.ref a0 :: st) μ := g_aload_n (i := 0) (by decide +kernel) rfl
theorem i15_44 : m_G 15 44 [v0, .ref a0, v2, v3, v4, v5] st μ = m_G 15 45 [v0, .ref a0, v2, v3, v4, v5] (.ref a0 :: st) μ := g_aload_n (i := 1) (by decide +kernel) rfl
theorem i15_45 : m_G 15 45 L (.ref a0 :: st) μ = b_v (m_gf μ a0 4 1) 15 48 L st μ := g_getf (i := 35) (by decide +kernel) (by decide +kernel)
theorem i15_48 : m_G 15 48 [.ref a0, v1, v2, v3, v4, v5] st μ = m_G 15 49 [.ref a0, v1, v2, v3, v4, v5] (.ref a0 :: st) μ := g_aload_n (i := 0) (by decide +kernel) rfl
theorem i15_49 : m_G 15 49 L (.ref a0 :: st) μ = b_v (m_gf μ a0 3 0) 15 52 L st μ := g_getf (i := 24) (by decide +kernel) (by decide +kernel)
theorem i15_52 : m_G 15 52 L (.int x1 :: .ref a1 :: [w0]) μ = b_c (m_D 173 [.ref a1, .int x1] μ) 15 55 L [w0] := g_stat (i := 28) (n := 2) (by decide +kernel) (by decide +kernel) (by decide) (x_call_ok (ws := [1, 1]) (Nat.le_of_ble_eq_true rfl) rfl (by decide +kernel) rfl (by decide +kernel) rfl rfl)
theorem i15_55 : m_G 15 55 L (w0 :: .ref a0 :: st) μ = b_m (m_pf μ a0 3 2 (.array .int) w0) 15 58 L st := g_putf (i := 38) (by decide +kernel) (by decide +kernel) (Or.inr ⟨by decide, by decide⟩) (by decide)
theorem i15_58 : m_G 15 58 [.ref a0, v1, v2, v3, v4, v5] st μ = m_G 15 59 [.ref a0, v1, v2, v3, v4, v5] (.ref a0 :: st) μ := g_aload_n (i := 0) (by decide +kernel) rfl
theorem i15_59 : m_G 15 59 [v0, .ref a0, v2, v3, v4, v5] st μ = m_G 15 60 [v0, .ref a0, v2, v3, v4, v5] (.ref a0 :: st) μ := g_aload_n (i := 1) (by decide +kernel) rfl
theorem i15_60 : m_G 15 60 L (.ref a0 :: st) μ = b_v (m_gf μ a0 4 2) 15 63 L st μ := g_getf (i := 39) (by decide +kernel) (by decide +kernel)
theorem i15_63 : m_G 15 63 [.ref a0, v1, v2, v3, v4, v5] st μ = m_G 15 64 [.ref a0, v1, v2, v3, v4, v5] (.ref a0 :: st) μ := g_aload_n (i := 0) (by decide +kernel) rfl
theorem i15_64 : m_G 15 64 L (.ref a0 :: st) μ = b_v (m_gf μ a0 3 0) 15 67 L st μ := g_getf (i := 24) (by decide +kernel) (by decide +kernel)
theorem i15_67 : m_G 15 67 L (.int x1 :: .ref a1 :: [w0]) μ = b_c (m_D 173 [.ref a1, .int x1] μ) 15 70 L [w0] := g_stat (i := 28) (n := 2) (by decide +kernel) (by decide +kernel) (by decide) (x_call_ok (ws := [1, 1]) (Nat.le_of_ble_eq_true rfl) rfl (by decide +kernel) rfl (by decide +kernel) rfl rfl)
theorem i15_70 : m_G 15 70 L (w0 :: .ref a0 :: st) μ = b_m (m_pf μ a0 3 3 (.array .int) w0) 15 73 L st := g_putf (i := 42) (by decide +kernel) (by decide +kernel) (Or.inr ⟨by decide, by decide⟩) (by decide)
theorem i15_73 : m_G 15 73 [.ref a0, v1, v2, v3, v4, v5] st μ = m_G 15 74 [.ref a0, v1, v2, v3, v4, v5] (.ref a0 :: st) μ := g_aload_n (i := 0) (by decide +kernel) rfl
theorem i15_74 : m_G 15 74 [.ref a0, v1, v2, v3, v4, v5] st μ = m_G 15 75 [.ref a0, v1, v2, v3, v4, v5] (.ref a0 :: st) μ := g_aload_n (i := 0) (by decide +kernel) rfl
theorem i15_75 : m_G 15 75 L (.ref a0 :: st) μ = b_v (m_gf μ a0 3 0) 15 78 L st μ := g_getf (i := 24) (by decide +kernel) (by decide +kernel)
theorem i15_78 : m_G 15 78 L (.int x0 :: st) μ = if x_nok x0 = true then m_G 15 80 L (.ref (mN μ) :: st) (m_new μ x0.toNatClampNeg (m_ia 0 x0.toNatClampNeg (fun _ => 0))) else none := g_newa (t := .int) (by decide +kernel) rfl
theorem i15_80 : m_G 15 80 L (w0 :: .ref a0 :: st) μ = b_m (m_pf μ a0 3 4 (.array .int) w0) 15 83 L st := g_putf (i := 43) (by decide +kernel) (by decide +kernel) (Or.inr ⟨by decide, by decide⟩) (by decide)
theorem i15_83 : m_G 15 83 [.ref a0, v1, v2, v3, v4, v5] st μ = m_G 15 84 [.ref a0, v1, v2, v3, v4, v5] (.ref a0 :: st) μ := g_aload_n (i := 0) (by decide +kernel) rfl
theorem i15_84 : m_G 15 84 [.ref a0, v1, v2, v3, v4, v5] st μ = m_G 15 85 [.ref a0, v1, v2, v3, v4, v5] (.ref a0 :: st) μ := g_aload_n (i := 0) (by decide +kernel) rfl
theorem i15_85 : m_G 15 85 L (.ref a0 :: st) μ = b_v (m_gf μ a0 3 0) 15 88 L st μ := g_getf (i := 24) (by decide +kernel) (by decide +kernel)
theorem i15_88 : m_G 15 88 L (.int x0 :: st) μ = if x_nok x0 = true then m_G 15 90 L (.ref (mN μ) :: st) (m_new μ x0.toNatClampNeg (m_ia 0 x0.toNatClampNeg (fun _ => 0))) else none := g_newa (t := .int) (by decide +kernel) rfl
theorem i15_90 : m_G 15 90 L (w0 :: .ref a0 :: st) μ = b_m (m_pf μ a0 3 5 (.array .int) w0) 15 93 L st := g_putf (i := 46) (by decide +kernel) (by decide +kernel) (Or.inr ⟨by decide, by decide⟩) (by decide)
theorem i15_93 : m_G 15 93 [.ref a0, v1, v2, v3, v4, v5] st μ = m_G 15 94 [.ref a0, v1, v2, v3, v4, v5] (.ref a0 :: st) μ := g_aload_n (i := 0) (by decide +kernel) rfl
theorem i15_94 : m_G 15 94 [.ref a0, v1, v2, v3, v4, v5] st μ = m_G 15 95 [.ref a0, v1, v2, v3, v4, v5] (.ref a0 :: st) μ := g_aload_n (i := 0) (by decide +kernel) rfl
theorem i15_95 : m_G 15 95 L (.ref a0 :: st) μ = b_v (m_gf μ a0 3 0) 15 98 L st μ := g_getf (i := 24) (by decide +kernel) (by decide +kernel)
theorem i15_98 : m_G 15 98 L (.int x0 :: st) μ = if x_nok x0 = true then m_G 15 100 L (.ref (mN μ) :: st) (m_new μ x0.toNatClampNeg (m_ia 0 x0.toNatClampNeg (fun _ => 0))) else none := g_newa (t := .int) (by decide +kernel) rfl
theorem i15_100 : m_G 15 100 L (w0 :: .ref a0 :: st) μ = b_m (m_pf μ a0 3 6 (.array .int) w0) 15 103 L st := g_putf (i := 49) (by decide +kernel) (by decide +kernel) (Or.inr ⟨by decide, by decide⟩) (by decide)
theorem i15_103 : m_G 15 103 [.ref a0, v1, v2, v3, v4, v5] st μ = m_G 15 104 [.ref a0, v1, v2, v3, v4, v5] (.ref a0 :: st) μ := g_aload_n (i := 0) (by decide +kernel) rfl
theorem i15_104 : m_G 15 104 [.ref a0, v1, v2, v3, v4, v5] st μ = m_G 15 105 [.ref a0, v1, v2, v3, v4, v5] (.ref a0 :: st) μ := g_aload_n (i := 0) (by decide +kernel) rfl
theorem i15_105 : m_G 15 105 L (.ref a0 :: st) μ = b_v (m_gf μ a0 3 0) 15 108 L st μ := g_getf (i := 24) (by decide +kernel) (by decide +kernel)
theorem i15_108 : m_G 15 108 L (.int x0 :: st) μ = if x_nok x0 = true then m_G 15 110 L (.ref (mN μ) :: st) (m_new μ x0.toNatClampNeg (m_ia 0 x0.toNatClampNeg (fun _ => 0))) else none := g_newa (t := .int) (by decide +kernel) rfl
theorem i15_110 : m_G 15 110 L (w0 :: .ref a0 :: st) μ = b_m (m_pf μ a0 3 7 (.array .int) w0) 15 113 L st := g_putf (i := 52) (by decide +kernel) (by decide +kernel) (Or.inr ⟨by decide, by decide⟩) (by decide)
theorem i15_113 : m_G 15 113 L st μ = m_G 15 114 L (.int 0 :: st) μ := g_iconst (n := 0) (by decide +kernel) (by decide)
theorem i15_114 : m_G 15 114 [v0, v1, v2, v3, v4, v5] (.int x0 :: st) μ = m_G 15 115 [v0, v1, .int x0, v3, v4, v5] st μ := g_istore_n (i := 2) (by decide +kernel) (Nat.le_of_ble_eq_true rfl) rfl
theorem i15_115 : m_G 15 115 L st μ = m_G 15 116 L (.int 0 :: st) μ := g_iconst (n := 0) (by decide +kernel) (by decide)
theorem i15_116 : m_G 15 116 [v0, v1, v2, v3, v4, v5] (.int x0 :: st) μ = m_G 15 117 [v0, v1, v2, .int x0, v4, v5] st μ := g_istore_n (i := 3) (by decide +kernel) (Nat.le_of_ble_eq_true rfl) rfl
theorem i15_117 : m_G 15 117 L st μ = m_G 15 118 L (.int 0 :: st) μ := g_iconst (n := 0) (by decide +kernel) (by decide)
theorem i15_118 : m_G 15 118 [v0, v1, v2, v3, v4, v5] (.int x0 :: st) μ = m_G 15 120 [v0, v1, v2, v3, .int x0, v5] st μ := g_istore (i := 4) (by decide +kernel) (Nat.le_of_ble_eq_true rfl) rfl
theorem i15_120 : m_G 15 120 [v0, v1, v2, v3, .int x0, v5] st μ = m_G 15 122 [v0, v1, v2, v3, .int x0, v5] (.int x0 :: st) μ := g_iload (i := 4) (by decide +kernel) rfl
theorem i15_122 : m_G 15 122 [.ref a0, v1, v2, v3, v4, v5] st μ = m_G 15 123 [.ref a0, v1, v2, v3, v4, v5] (.ref a0 :: st) μ := g_aload_n (i := 0) (by decide +kernel) rfl
theorem i15_123 : m_G 15 123 L (.ref a0 :: st) μ = b_v (m_gf μ a0 3 0) 15 126 L st μ := g_getf (i := 24) (by decide +kernel) (by decide +kernel)
theorem i15_126 : m_G 15 126 L (.int x1 :: .int x0 :: st) μ = if x0 < x1 then m_G 15 129 L st μ else m_G 15 218 L st μ := g_cmpge (off := 92) (by decide +kernel) (by decide)
theorem i15_129 : m_G 15 129 [.ref a0, v1, v2, v3, v4, v5] st μ = m_G 15 130 [.ref a0, v1, v2, v3, v4, v5] (.ref a0 :: st) μ := g_aload_n (i := 0) (by decide +kernel) rfl
theorem i15_130 : m_G 15 130 L (.ref a0 :: st) μ = b_v (m_gf μ a0 3 8) 15 133 L st μ := g_getf (i := 9) (by decide +kernel) (by decide +kernel)
theorem i15_133 : m_G 15 133 [.ref a0, v1, v2, v3, v4, v5] st μ = m_G 15 134 [.ref a0, v1, v2, v3, v4, v5] (.ref a0 :: st) μ := g_aload_n (i := 0) (by decide +kernel) rfl
theorem i15_134 : m_G 15 134 L (.ref a0 :: st) μ = b_v (m_gf μ a0 3 1) 15 137 L st μ := g_getf (i := 34) (by decide +kernel) (by decide +kernel)
theorem i15_137 : m_G 15 137 [v0, v1, v2, v3, .int x0, v5] st μ = m_G 15 139 [v0, v1, v2, v3, .int x0, v5] (.int x0 :: st) μ := g_iload (i := 4) (by decide +kernel) rfl
theorem i15_139 : m_G 15 139 L (.int x0 :: .ref a0 :: st) μ = b_i (m_ga μ a0 x0) 15 140 L st μ := g_iald (by decide +kernel)
theorem i15_140 : m_G 15 140 L (.int x0 :: .ref a0 :: st) μ = m_G 15 141 L (.int x0 :: .ref a0 :: .int x0 :: .ref a0 :: st) μ := g_dup2 (by decide +kernel)
theorem i15_141 : m_G 15 141 L (.int x0 :: .ref a0 :: st) μ = b_i (m_ga μ a0 x0) 15 142 L st μ := g_iald (by decide +kernel)
theorem i15_142 : m_G 15 142 L st μ = m_G 15 143 L (.int 1 :: st) μ := g_iconst (n := 1) (by decide +kernel) (by decide)
theorem i15_143 : m_G 15 143 [v0, v1, v2, v3, .int x0, v5] st μ = m_G 15 145 [v0, v1, v2, v3, .int x0, v5] (.int x0 :: st) μ := g_iload (i := 4) (by decide +kernel) rfl
theorem i15_145 : m_G 15 145 L (.int x1 :: .int x0 :: st) μ = m_G 15 146 L (.int (x0 <<< (x1 &&& 31)) :: st) μ := g_ishl (by decide +kernel)
theorem i15_146 : m_G 15 146 L (.int x1 :: .int x0 :: st) μ = m_G 15 147 L (.int (x0 ||| x1) :: st) μ := g_ior (by decide +kernel)
theorem i15_147 : m_G 15 147 L (.int x1 :: .int x0 :: .ref a0 :: st) μ = b_m (m_pa μ a0 x0 x1) 15 148 L st := g_iast (by decide +kernel)
theorem i15_148 : m_G 15 148 [.ref a0, v1, v2, v3, v4, v5] st μ = m_G 15 149 [.ref a0, v1, v2, v3, v4, v5] (.ref a0 :: st) μ := g_aload_n (i := 0) (by decide +kernel) rfl
theorem i15_149 : m_G 15 149 L (.ref a0 :: st) μ = b_v (m_gf μ a0 3 7) 15 152 L st μ := g_getf (i := 52) (by decide +kernel) (by decide +kernel)
theorem i15_152 : m_G 15 152 [v0, v1, v2, v3, .int x0, v5] st μ = m_G 15 154 [v0, v1, v2, v3, .int x0, v5] (.int x0 :: st) μ := g_iload (i := 4) (by decide +kernel) rfl
theorem i15_154 : m_G 15 154 [.ref a0, v1, v2, v3, v4, v5] st μ = m_G 15 155 [.ref a0, v1, v2, v3, v4, v5] (.ref a0 :: st) μ := g_aload_n (i := 0) (by decide +kernel) rfl
theorem i15_155 : m_G 15 155 [.ref a0, v1, v2, v3, v4, v5] st μ = m_G 15 156 [.ref a0, v1, v2, v3, v4, v5] (.ref a0 :: st) μ := g_aload_n (i := 0) (by decide +kernel) rfl
theorem i15_156 : m_G 15 156 L (.ref a0 :: st) μ = b_v (m_gf μ a0 3 2) 15 159 L st μ := g_getf (i := 38) (by decide +kernel) (by decide +kernel)
theorem i15_159 : m_G 15 159 [v0, v1, v2, v3, .int x0, v5] st μ = m_G 15 161 [v0, v1, v2, v3, .int x0, v5] (.int x0 :: st) μ := g_iload (i := 4) (by decide +kernel) rfl
theorem i15_161 : m_G 15 161 L (.int x0 :: .ref a0 :: st) μ = b_i (m_ga μ a0 x0) 15 162 L st μ := g_iald (by decide +kernel)
theorem i15_162 : m_G 15 162 [v0, v1, v2, v3, .int x0, v5] st μ = m_G 15 164 [v0, v1, v2, v3, .int x0, v5] (.int x0 :: st) μ := g_iload (i := 4) (by decide +kernel) rfl
theorem i15_164 (ho : m_oc μ a0 = some 3) : m_G 15 164 L (.int x1 :: .int x0 :: .ref a0 :: [w0, w1]) μ = b_c (m_D 16 [.ref a0, .int x0, .int x1] μ) 15 167 L [w0, w1] := g_virt (i := 55) (n := 2) (a := a0) (c := 3) (l := [(3, 16)]) (by decide +kernel) (by decide +kernel) rfl rfl (x_call_ok (ws := [1, 1, 1]) (Nat.le_of_ble_eq_true rfl) rfl (by decide +kernel) rfl (by decide +kernel) rfl rfl) ho
theorem i15_167 : m_G 15 167 L (.int x1 :: .int x0 :: .ref a0 :: st) μ = b_m (m_pa μ a0 x0 x1) 15 168 L st := g_iast (by decide +kernel)
theorem i15_168 : m_G 15 168 [.ref a0, v1, v2, v3, v4, v5] st μ = m_G 15 169 [.ref a0, v1, v2, v3, v4, v5] (.ref a0 :: st) μ := g_aload_n (i := 0) (by decide +kernel) rfl
theorem i15_169 : m_G 15 169 L (.ref a0 :: st) μ = b_v (m_gf μ a0 3 2) 15 172 L st μ := g_getf (i := 38) (by decide +kernel) (by decide +kernel)
theorem i15_172 : m_G 15 172 [v0, v1, v2, v3, .int x0, v5] st μ = m_G 15 174 [v0, v1, v2, v3, .int x0, v5] (.int x0 :: st) μ := g_iload (i := 4) (by decide +kernel) rfl
theorem i15_174 : m_G 15 174 L (.int x0 :: .ref a0 :: st) μ = b_i (m_ga μ a0 x0) 15 175 L st μ := g_iald (by decide +kernel)
theorem i15_175 : m_G 15 175 L st μ = m_G 15 176 L (.int (-1) :: st) μ := g_iconst (n := -1) (by decide +kernel) (by decide)
theorem i15_176 : m_G 15 176 L (.int x1 :: .int x0 :: st) μ = if x0 = x1 then m_G 15 186 L st μ else m_G 15 179 L st μ := g_cmpeq (off := 10) (by decide +kernel) (by decide)
theorem i15_179 : m_G 15 179 [v0, v1, .int x0, v3, v4, v5] st μ = m_G 15 180 [v0, v1, .int x0, v3, v4, v5] (.int x0 :: st) μ := g_iload_n (i := 2) (by decide +kernel) rfl
theorem i15_180 : m_G 15 180 L st μ = m_G 15 181 L (.int 1 :: st) μ := g_iconst (n := 1) (by decide +kernel) (by decide)
theorem i15_181 : m_G 15 181 [v0, v1, v2, v3, .int x0, v5] st μ = m_G 15 183 [v0, v1, v2, v3, .int x0, v5] (.int x0 :: st) μ := g_iload (i := 4) (by decide +kernel) rfl
theorem i15_183 : m_G 15 183 L (.int x1 :: .int x0 :: st) μ = m_G 15 184 L (.int (x0 <<< (x1 &&& 31)) :: st) μ := g_ishl (by decide +kernel)
theorem i15_184 : m_G 15 184 L (.int x1 :: .int x0 :: st) μ = m_G 15 185 L (.int (x0 ||| x1) :: st) μ := g_ior (by decide +kernel)
theorem i15_185 : m_G 15 185 [v0, v1, v2, v3, v4, v5] (.int x0 :: st) μ = m_G 15 186 [v0, v1, .int x0, v3, v4, v5] st μ := g_istore_n (i := 2) (by decide +kernel) (Nat.le_of_ble_eq_true rfl) rfl
theorem i15_186 : m_G 15 186 [v0, v1, v2, v3, .int x0, v5] st μ = m_G 15 188 [v0, v1, v2, v3, .int x0, v5] (.int x0 :: st) μ := g_iload (i := 4) (by decide +kernel) rfl
theorem i15_188 : m_G 15 188 L (.int x0 :: st) μ = if x0 ≤ 0 then m_G 15 212 L st μ else m_G 15 191 L st μ := g_ifle (off := 24) (by decide +kernel) (by decide)
theorem i15_191 : m_G 15 191 [.ref a0, v1, v2, v3, v4, v5] st μ = m_G 15 192 [.ref a0, v1, v2, v3, v4, v5] (.ref a0 :: st) μ := g_aload_n (i := 0) (by decide +kernel) rfl
theorem i15_192 : m_G 15 192 L (.ref a0 :: st) μ = b_v (m_gf μ a0 3 4) 15 195 L st μ := g_getf (i := 43) (by decide +kernel) (by decide +kernel)
theorem i15_195 : m_G 15 195 [v0, v1, v2, v3, .int x0, v5] st μ = m_G 15 197 [v0, v1, v2, v3, .int x0, v5] (.int x0 :: st) μ := g_iload (i := 4) (by decide +kernel) rfl
theorem i15_197 : m_G 15 197 [.ref a0, v1, v2, v3, v4, v5] st μ = m_G 15 198 [.ref a0, v1, v2, v3, v4, v5] (.ref a0 :: st) μ := g_aload_n (i := 0) (by decide +kernel) rfl
theorem i15_198 : m_G 15 198 L (.ref a0 :: st) μ = b_v (m_gf μ a0 3 4) 15 201 L st μ := g_getf (i := 43) (by decide +kernel) (by decide +kernel)
theorem i15_201 : m_G 15 201 [.ref a0, v1, v2, v3, v4, v5] st μ = m_G 15 202 [.ref a0, v1, v2, v3, v4, v5] (.ref a0 :: st) μ := g_aload_n (i := 0) (by decide +kernel) rfl
theorem i15_202 : m_G 15 202 L (.ref a0 :: st) μ = b_v (m_gf μ a0 3 3) 15 205 L st μ := g_getf (i := 42) (by decide +kernel) (by decide +kernel)
theorem i15_205 : m_G 15 205 [v0, v1, v2, v3, .int x0, v5] st μ = m_G 15 207 [v0, v1, v2, v3, .int x0, v5] (.int x0 :: st) μ := g_iload (i := 4) (by decide +kernel) rfl
theorem i15_207 : m_G 15 207 L (.int x0 :: .ref a0 :: st) μ = b_i (m_ga μ a0 x0) 15 208 L st μ := g_iald (by decide +kernel)
theorem i15_208 : m_G 15 208 L (.int x0 :: .ref a0 :: st) μ = b_i (m_ga μ a0 x0) 15 209 L st μ := g_iald (by decide +kernel)
theorem i15_209 : m_G 15 209 L st μ = m_G 15 210 L (.int 1 :: st) μ := g_iconst (n := 1) (by decide +kernel) (by decide)
theorem i15_210 : m_G 15 210 L (.int x1 :: .int x0 :: st) μ = m_G 15 211 L (.int (x0 + x1) :: st) μ := g_iadd (by decide +kernel)
theorem i15_211 : m_G 15 211 L (.int x1 :: .int x0 :: .ref a0 :: st) μ = b_m (m_pa μ a0 x0 x1) 15 212 L st := g_iast (by decide +kernel)
theorem i15_212 : m_G 15 212 [v0, v1, v2, v3, .int x0, v5] st μ = m_G 15 215 [v0, v1, v2, v3, .int (x0 + 1), v5] st μ := g_iinc (i := 4) (n := 1) (by decide +kernel) rfl (by decide) rfl
theorem i15_215 : m_G 15 215 L st μ = m_G 15 120 L st μ := g_goto (off := -95) (by decide +kernel) (by decide)
theorem i15_218 : m_G 15 218 [.ref a0, v1, v2, v3, v4, v5] st μ = m_G 15 219 [.ref a0, v1, v2, v3, v4, v5] (.ref a0 :: st) μ := g_aload_n (i := 0) (by decide +kernel) rfl
theorem i15_219 : m_G 15 219 L (.ref a0 :: st) μ = b_v (m_gf μ a0 3 0) 15 222 L st μ := g_getf (i := 24) (by decide +kernel) (by decide +kernel)
theorem i15_222 : m_G 15 222 L st μ = m_G 15 223 L (.int 1 :: st) μ := g_iconst (n := 1) (by decide +kernel) (by decide)
theorem i15_223 : m_G 15 223 L (.int x1 :: .int x0 :: st) μ = m_G 15 224 L (.int (x0 - x1) :: st) μ := g_isub (by decide +kernel)
theorem i15_224 : m_G 15 224 [v0, v1, v2, v3, v4, v5] (.int x0 :: st) μ = m_G 15 226 [v0, v1, v2, v3, .int x0, v5] st μ := g_istore (i := 4) (by decide +kernel) (Nat.le_of_ble_eq_true rfl) rfl
theorem i15_226 : m_G 15 226 [v0, v1, v2, v3, .int x0, v5] st μ = m_G 15 228 [v0, v1, v2, v3, .int x0, v5] (.int x0 :: st) μ := g_iload (i := 4) (by decide +kernel) rfl
theorem i15_228 : m_G 15 228 L (.int x0 :: st) μ = if x0 ≤ 0 then m_G 15 289 L st μ else m_G 15 231 L st μ := g_ifle (off := 61) (by decide +kernel) (by decide)
theorem i15_231 : m_G 15 231 [.ref a0, v1, v2, v3, v4, v5] st μ = m_G 15 232 [.ref a0, v1, v2, v3, v4, v5] (.ref a0 :: st) μ := g_aload_n (i := 0) (by decide +kernel) rfl
theorem i15_232 : m_G 15 232 L (.ref a0 :: st) μ = b_v (m_gf μ a0 3 3) 15 235 L st μ := g_getf (i := 42) (by decide +kernel) (by decide +kernel)
theorem i15_235 : m_G 15 235 [v0, v1, v2, v3, .int x0, v5] st μ = m_G 15 237 [v0, v1, v2, v3, .int x0, v5] (.int x0 :: st) μ := g_iload (i := 4) (by decide +kernel) rfl
theorem i15_237 : m_G 15 237 L (.int x0 :: .ref a0 :: st) μ = b_i (m_ga μ a0 x0) 15 238 L st μ := g_iald (by decide +kernel)
theorem i15_238 : m_G 15 238 [v0, v1, v2, v3, v4, v5] (.int x0 :: st) μ = m_G 15 240 [v0, v1, v2, v3, v4, .int x0] st μ := g_istore (i := 5) (by decide +kernel) (Nat.le_of_ble_eq_true rfl) rfl
theorem i15_240 : m_G 15 240 [.ref a0, v1, v2, v3, v4, v5] st μ = m_G 15 241 [.ref a0, v1, v2, v3, v4, v5] (.ref a0 :: st) μ := g_aload_n (i := 0) (by decide +kernel) rfl
theorem i15_241 : m_G 15 241 L (.ref a0 :: st) μ = b_v (m_gf μ a0 3 5) 15 244 L st μ := g_getf (i := 46) (by decide +kernel) (by decide +kernel)
theorem i15_244 : m_G 15 244 [v0, v1, v2, v3, v4, .int x0] st μ = m_G 15 246 [v0, v1, v2, v3, v4, .int x0] (.int x0 :: st) μ := g_iload (i := 5) (by decide +kernel) rfl
theorem i15_246 : m_G 15 246 L (.int x0 :: .ref a0 :: st) μ = m_G 15 247 L (.int x0 :: .ref a0 :: .int x0 :: .ref a0 :: st) μ := g_dup2 (by decide +kernel)
theorem i15_247 : m_G 15 247 L (.int x0 :: .ref a0 :: st) μ = b_i (m_ga μ a0 x0) 15 248 L st μ := g_iald (by decide +kernel)
theorem i15_248 : m_G 15 248 L st μ = m_G 15 249 L (.int 1 :: st) μ := g_iconst (n := 1) (by decide +kernel) (by decide)
theorem i15_249 : m_G 15 249 [v0, v1, v2, v3, .int x0, v5] st μ = m_G 15 251 [v0, v1, v2, v3, .int x0, v5] (.int x0 :: st) μ := g_iload (i := 4) (by decide +kernel) rfl
theorem i15_251 : m_G 15 251 L (.int x1 :: .int x0 :: st) μ = m_G 15 252 L (.int (x0 <<< (x1 &&& 31)) :: st) μ := g_ishl (by decide +kernel)
theorem i15_252 : m_G 15 252 L (.int x1 :: .int x0 :: st) μ = m_G 15 253 L (.int (x0 ||| x1) :: st) μ := g_ior (by decide +kernel)
theorem i15_253 : m_G 15 253 L (.int x1 :: .int x0 :: .ref a0 :: st) μ = b_m (m_pa μ a0 x0 x1) 15 254 L st := g_iast (by decide +kernel)
theorem i15_254 : m_G 15 254 [.ref a0, v1, v2, v3, v4, v5] st μ = m_G 15 255 [.ref a0, v1, v2, v3, v4, v5] (.ref a0 :: st) μ := g_aload_n (i := 0) (by decide +kernel) rfl
theorem i15_255 : m_G 15 255 L (.ref a0 :: st) μ = b_v (m_gf μ a0 3 6) 15 258 L st μ := g_getf (i := 49) (by decide +kernel) (by decide +kernel)
theorem i15_258 : m_G 15 258 [v0, v1, v2, v3, v4, .int x0] st μ = m_G 15 260 [v0, v1, v2, v3, v4, .int x0] (.int x0 :: st) μ := g_iload (i := 5) (by decide +kernel) rfl
theorem i15_260 : m_G 15 260 L (.int x0 :: .ref a0 :: st) μ = m_G 15 261 L (.int x0 :: .ref a0 :: .int x0 :: .ref a0 :: st) μ := g_dup2 (by decide +kernel)
theorem i15_261 : m_G 15 261 L (.int x0 :: .ref a0 :: st) μ = b_i (m_ga μ a0 x0) 15 262 L st μ := g_iald (by decide +kernel)
theorem i15_262 : m_G 15 262 [.ref a0, v1, v2, v3, v4, v5] st μ = m_G 15 263 [.ref a0, v1, v2, v3, v4, v5] (.ref a0 :: st) μ := g_aload_n (i := 0) (by decide +kernel) rfl
theorem i15_263 : m_G 15 263 L (.ref a0 :: st) μ = b_v (m_gf μ a0 3 6) 15 266 L st μ := g_getf (i := 49) (by decide +kernel) (by decide +kernel)
theorem i15_266 : m_G 15 266 [v0, v1, v2, v3, .int x0, v5] st μ = m_G 15 268 [v0, v1, v2, v3, .int x0, v5] (.int x0 :: st) μ := g_iload (i := 4) (by decide +kernel) rfl
theorem i15_268 : m_G 15 268 L (.int x0 :: .ref a0 :: st) μ = b_i (m_ga μ a0 x0) 15 269 L st μ := g_iald (by decide +kernel)
theorem i15_269 : m_G 15 269 L st μ = m_G 15 270 L (.int 1 :: st) μ := g_iconst (n := 1) (by decide +kernel) (by decide)
theorem i15_270 : m_G 15 270 [v0, v1, v2, v3, .int x0, v5] st μ = m_G 15 272 [v0, v1, v2, v3, .int x0, v5] (.int x0 :: st) μ := g_iload (i := 4) (by decide +kernel) rfl
theorem i15_272 : m_G 15 272 L (.int x1 :: .int x0 :: st) μ = m_G 15 273 L (.int (x0 <<< (x1 &&& 31)) :: st) μ := g_ishl (by decide +kernel)
theorem i15_273 : m_G 15 273 L (.int x1 :: .int x0 :: st) μ = m_G 15 274 L (.int (x0 ||| x1) :: st) μ := g_ior (by decide +kernel)
theorem i15_274 : m_G 15 274 L (.int x1 :: .int x0 :: st) μ = m_G 15 275 L (.int (x0 ||| x1) :: st) μ := g_ior (by decide +kernel)
theorem i15_275 : m_G 15 275 L (.int x1 :: .int x0 :: .ref a0 :: st) μ = b_m (m_pa μ a0 x0 x1) 15 276 L st := g_iast (by decide +kernel)
theorem i15_276 : m_G 15 276 [v0, v1, v2, .int x0, v4, v5] st μ = m_G 15 277 [v0, v1, v2, .int x0, v4, v5] (.int x0 :: st) μ := g_iload_n (i := 3) (by decide +kernel) rfl
theorem i15_277 : m_G 15 277 L st μ = m_G 15 278 L (.int 1 :: st) μ := g_iconst (n := 1) (by decide +kernel) (by decide)
theorem i15_278 : m_G 15 278 [v0, v1, v2, v3, v4, .int x0] st μ = m_G 15 280 [v0, v1, v2, v3, v4, .int x0] (.int x0 :: st) μ := g_iload (i := 5) (by decide +kernel) rfl
theorem i15_280 : m_G 15 280 L (.int x1 :: .int x0 :: st) μ = m_G 15 281 L (.int (x0 <<< (x1 &&& 31)) :: st) μ := g_ishl (by decide +kernel)
theorem i15_281 : m_G 15 281 L (.int x1 :: .int x0 :: st) μ = m_G 15 282 L (.int (x0 ||| x1) :: st) μ := g_ior (by decide +kernel)
theorem i15_282 : m_G 15 282 [v0, v1, v2, v3, v4, v5] (.int x0 :: st) μ = m_G 15 283 [v0, v1, v2, .int x0, v4, v5] st μ := g_istore_n (i := 3) (by decide +kernel) (Nat.le_of_ble_eq_true rfl) rfl
theorem i15_283 : m_G 15 283 [v0, v1, v2, v3, .int x0, v5] st μ = m_G 15 286 [v0, v1, v2, v3, .int (x0 + (-1)), v5] st μ := g_iinc (i := 4) (n := -1) (by decide +kernel) rfl (by decide) rfl
theorem i15_286 : m_G 15 286 L st μ = m_G 15 226 L st μ := g_goto (off := -60) (by decide +kernel) (by decide)
theorem i15_289 : m_G 15 289 [.ref a0, v1, v2, v3, v4, v5] st μ = m_G 15 290 [.ref a0, v1, v2, v3, v4, v5] (.ref a0 :: st) μ := g_aload_n (i := 0) (by decide +kernel) rfl
theorem i15_290 : m_G 15 290 [v0, v1, .int x0, v3, v4, v5] st μ = m_G 15 291 [v0, v1, .int x0, v3, v4, v5] (.int x0 :: st) μ := g_iload_n (i := 2) (by decide +kernel) rfl
theorem i15_291 : m_G 15 291 L (w0 :: .ref a0 :: st) μ = b_m (m_pf μ a0 3 9 .int w0) 15 294 L st := g_putf (i := 59) (by decide +kernel) (by decide +kernel) (Or.inr ⟨by decide, by decide⟩) (by decide)
theorem i15_294 : m_G 15 294 [.ref a0, v1, v2, v3, v4, v5] st μ = m_G 15 295 [.ref a0, v1, v2, v3, v4, v5] (.ref a0 :: st) μ := g_aload_n (i := 0) (by decide +kernel) rfl
theorem i15_295 : m_G 15 295 [v0, v1, v2, .int x0, v4, v5] st μ = m_G 15 296 [v0, v1, v2, .int x0, v4, v5] (.int x0 :: st) μ := g_iload_n (i := 3) (by decide +kernel) rfl
theorem i15_296 : m_G 15 296 L (w0 :: .ref a0 :: st) μ = b_m (m_pf μ a0 3 10 .int w0) 15 299 L st := g_putf (i := 62) (by decide +kernel) (by decide +kernel) (Or.inr ⟨by decide, by decide⟩) (by decide)
theorem i15_299 : m_G 15 299 L [] μ = some (none, μ) := g_ret (by decide +kernel) (by decide)
theorem D15 : m_D 15 [.ref a0, .ref a1] μ = m_G 15 0 [.ref a0, .ref a1, m_d, m_d, m_d, m_d] [] μ := d_def (by decide) rfl
theorem i16_0 : m_G 16 0 L st μ = m_G 16 1 L (.int 0 :: st) μ := g_iconst (n := 0) (by decide +kernel) (by decide)
theorem i16_1 : m_G 16 1 [v0, v1, v2, v3] (.int x0 :: st) μ = m_G 16 2 [v0, v1, v2, .int x0] st μ := g_istore_n (i := 3) (by decide +kernel) (Nat.le_of_ble_eq_true rfl) rfl
theorem i16_2 : m_G 16 2 [v0, v1, v2, .int x0] st μ = m_G 16 3 [v0, v1, v2, .int x0] (.int x0 :: st) μ := g_iload_n (i := 3) (by decide +kernel) rfl
theorem i16_3 : m_G 16 3 [v0, v1, .int x0, v3] st μ = m_G 16 4 [v0, v1, .int x0, v3] (.int x0 :: st) μ := g_iload_n (i := 2) (by decide +kernel) rfl
theorem i16_4 : m_G 16 4 L (.int x1 :: .int x0 :: st) μ = if x0 < x1 then m_G 16 7 L st μ else m_G 16 25 L st μ := g_cmpge (off := 21) (by decide +kernel) (by decide)
theorem i16_7 : m_G 16 7 [.ref a0, v1, v2, v3] st μ = m_G 16 8 [.ref a0, v1, v2, v3] (.ref a0 :: st) μ := g_aload_n (i := 0) (by decide +kernel) rfl
theorem i16_8 : m_G 16 8 L (.ref a0 :: st) μ = b_v (m_gf μ a0 3 2) 16 11 L st μ := g_getf (i := 38) (by decide +kernel) (by decide +kernel)
theorem i16_11 : m_G 16 11 [v0, v1, v2, .int x0] st μ = m_G 16 12 [v0, v1, v2, .int x0] (.int x0 :: st) μ := g_iload_n (i := 3) (by decide +kernel) rfl
theorem i16_12 : m_G 16 12 L (.int x0 :: .ref a0 :: st) μ = b_i (m_ga μ a0 x0) 16 13 L st μ := g_iald (by decide +kernel)
theorem i16_13 : m_G 16 13 [v0, .int x0, v2, v3] st μ = m_G 16 14 [v0, .int x0, v2, v3] (.int x0 :: st) μ := g_iload_n (i := 1) (by decide +kernel) rfl
theorem i16_14 : m_G 16 14 L (.int x1 :: .int x0 :: st) μ = if x0 = x1 then m_G 16 17 L st μ else m_G 16 19 L st μ := g_cmpne (off := 5) (by decide +kernel) (by decide)
theorem i16_17 : m_G 16 17 [v0, v1, v2, .int x0] st μ = m_G 16 18 [v0, v1, v2, .int x0] (.int x0 :: st) μ := g_iload_n (i := 3) (by decide +kernel) rfl
theorem i16_18 : m_G 16 18 L [.int x0] μ = some (some (.int x0), μ) := g_ireti (by decide +kernel) (by decide)
theorem i16_19 : m_G 16 19 [v0, v1, v2, .int x0] st μ = m_G 16 22 [v0, v1, v2, .int (x0 + 1)] st μ := g_iinc (i := 3) (n := 1) (by decide +kernel) rfl (by decide) rfl
theorem i16_22 : m_G 16 22 L st μ = m_G 16 2 L st μ := g_goto (off := -20) (by decide +kernel) (by decide)
theorem i16_25 : m_G 16 25 [v0, v1, .int x0, v3] st μ = m_G 16 26 [v0, v1, .int x0, v3] (.int x0 :: st) μ := g_iload_n (i := 2) (by decide +kernel) rfl
theorem i16_26 : m_G 16 26 L [.int x0] μ = some (some (.int x0), μ) := g_ireti (by decide +kernel) (by decide)
theorem D16 : m_D 16 [.ref a0, .int x0, .int x1] μ = m_G 16 0 [.ref a0, .int x0, .int x1, m_d] [] μ := d_def (by decide) rfl
theorem i17_0 : m_G 17 0 [v0, .int x0] st μ = m_G 17 1 [v0, .int x0] (.int x0 :: st) μ := g_iload_n (i := 1) (by decide +kernel) rfl
theorem i17_1 : m_G 17 1 L (.int x0 :: st) μ = if x0 < 0 then m_G 17 16 L st μ else m_G 17 4 L st μ := g_iflt (off := 15) (by decide +kernel) (by decide)
theorem i17_4 : m_G 17 4 [v0, .int x0] st μ = m_G 17 5 [v0, .int x0] (.int x0 :: st) μ := g_iload_n (i := 1) (by decide +kernel) rfl
theorem i17_5 : m_G 17 5 [.ref a0, v1] st μ = m_G 17 6 [.ref a0, v1] (.ref a0 :: st) μ := g_aload_n (i := 0) (by decide +kernel) rfl
theorem i17_6 : m_G 17 6 L (.ref a0 :: st) μ = b_v (m_gf μ a0 3 0) 17 9 L st μ := g_getf (i := 24) (by decide +kernel) (by decide +kernel)
theorem i17_9 : m_G 17 9 L (.int x1 :: .int x0 :: st) μ = if x0 < x1 then m_G 17 12 L st μ else m_G 17 16 L st μ := g_cmpge (off := 7) (by decide +kernel) (by decide)
theorem i17_12 : m_G 17 12 L st μ = m_G 17 13 L (.int 1 :: st) μ := g_iconst (n := 1) (by decide +kernel) (by decide)
theorem i17_13 : m_G 17 13 L st μ = m_G 17 17 L st μ := g_goto (off := 4) (by decide +kernel) (by decide)
theorem i17_16 : m_G 17 16 L st μ = m_G 17 17 L (.int 0 :: st) μ := g_iconst (n := 0) (by decide +kernel) (by decide)
theorem i17_17 (h : x0 &&& 1 = x0) : m_G 17 17 L [.int x0] μ = some (some (.int x0), μ) := g_iretz (by decide +kernel) (by decide) h
theorem D17 : m_D 17 [.ref a0, .int x0] μ = m_G 17 0 [.ref a0, .int x0] [] μ := d_def (by decide) rfl
theorem i18_0 : m_G 18 0 [.ref a0, v1] st μ = m_G 18 1 [.ref a0, v1] (.ref a0 :: st) μ := g_aload_n (i := 0) (by decide +kernel) rfl
theorem i18_1 : m_G 18 1 L (.ref a0 :: st) μ = b_v (m_gf μ a0 3 11) 18 4 L st μ := g_getf (i := 65) (by decide +kernel) (by decide +kernel)
theorem i18_4 : m_G 18 4 [v0, .int x0] st μ = m_G 18 5 [v0, .int x0] (.int x0 :: st) μ := g_iload_n (i := 1) (by decide +kernel) rfl
theorem i18_5 : m_G 18 5 L (.int x1 :: .int x0 :: []) μ = b_c (m_D 96 [.int x0, .int x1] μ) 18 8 L [] := g_stat (i := 68) (n := 2) (by decide +kernel) (by decide +kernel) (by decide) (x_call_ok (ws := [1, 1]) (Nat.le_of_ble_eq_true rfl) rfl (by decide +kernel) rfl (by decide +kernel) rfl rfl)
theorem i18_8 : m_G 18 8 L (.int x0 :: st) μ = if x0 = 0 then m_G 18 15 L st μ else m_G 18 11 L st μ := g_ifeq (off := 7) (by decide +kernel) (by decide)
theorem i18_11 : m_G 18 11 L st μ = m_G 18 12 L (.int 1 :: st) μ := g_iconst (n := 1) (by decide +kernel) (by decide)
theorem i18_12 : m_G 18 12 L st μ = m_G 18 31 L st μ := g_goto (off := 19) (by decide +kernel) (by decide)
theorem i18_15 : m_G 18 15 [.ref a0, v1] st μ = m_G 18 16 [.ref a0, v1] (.ref a0 :: st) μ := g_aload_n (i := 0) (by decide +kernel) rfl
theorem i18_16 : m_G 18 16 L (.ref a0 :: st) μ = b_v (m_gf μ a0 3 12) 18 19 L st μ := g_getf (i := 72) (by decide +kernel) (by decide +kernel)
theorem i18_19 : m_G 18 19 [v0, .int x0] st μ = m_G 18 20 [v0, .int x0] (.int x0 :: st) μ := g_iload_n (i := 1) (by decide +kernel) rfl
theorem i18_20 : m_G 18 20 L (.int x1 :: .int x0 :: []) μ = b_c (m_D 96 [.int x0, .int x1] μ) 18 23 L [] := g_stat (i := 68) (n := 2) (by decide +kernel) (by decide +kernel) (by decide) (x_call_ok (ws := [1, 1]) (Nat.le_of_ble_eq_true rfl) rfl (by decide +kernel) rfl (by decide +kernel) rfl rfl)
theorem i18_23 : m_G 18 23 L (.int x0 :: st) μ = if x0 = 0 then m_G 18 30 L st μ else m_G 18 26 L st μ := g_ifeq (off := 7) (by decide +kernel) (by decide)
theorem i18_26 : m_G 18 26 L st μ = m_G 18 27 L (.int 2 :: st) μ := g_iconst (n := 2) (by decide +kernel) (by decide)
theorem i18_27 : m_G 18 27 L st μ = m_G 18 31 L st μ := g_goto (off := 4) (by decide +kernel) (by decide)
theorem i18_30 : m_G 18 30 L st μ = m_G 18 31 L (.int 0 :: st) μ := g_iconst (n := 0) (by decide +kernel) (by decide)
theorem i18_31 : m_G 18 31 L [.int x0] μ = some (some (.int x0), μ) := g_ireti (by decide +kernel) (by decide)
theorem D18 : m_D 18 [.ref a0, .int x0] μ = m_G 18 0 [.ref a0, .int x0] [] μ := d_def (by decide) rfl
theorem i19_0 : m_G 19 0 L st μ = m_G 19 1 L (.int 1 :: st) μ := g_iconst (n := 1) (by decide +kernel) (by decide)
theorem i19_1 : m_G 19 1 [v0, .int x0, v2, v3] st μ = m_G 19 2 [v0, .int x0, v2, v3] (.int x0 :: st) μ := g_iload_n (i := 1) (by decide +kernel) rfl
theorem i19_2 : m_G 19 2 L (.int x1 :: .int x0 :: st) μ = m_G 19 3 L (.int (x0 <<< (x1 &&& 31)) :: st) μ := g_ishl (by decide +kernel)
theorem i19_3 : m_G 19 3 [v0, v1, v2, v3] (.int x0 :: st) μ = m_G 19 4 [v0, v1, v2, .int x0] st μ := g_istore_n (i := 3) (by decide +kernel) (Nat.le_of_ble_eq_true rfl) rfl
theorem i19_4 : m_G 19 4 [.ref a0, v1, v2, v3] st μ = m_G 19 5 [.ref a0, v1, v2, v3] (.ref a0 :: st) μ := g_aload_n (i := 0) (by decide +kernel) rfl
theorem i19_5 : m_G 19 5 [v0, v1, .int x0, v3] st μ = m_G 19 6 [v0, v1, .int x0, v3] (.int x0 :: st) μ := g_iload_n (i := 2) (by decide +kernel) rfl
theorem i19_6 : m_G 19 6 L st μ = m_G 19 7 L (.int 1 :: st) μ := g_iconst (n := 1) (by decide +kernel) (by decide)
theorem i19_7 : m_G 19 7 L (.int x1 :: .int x0 :: st) μ = if x0 = x1 then m_G 19 10 L st μ else m_G 19 19 L st μ := g_cmpne (off := 12) (by decide +kernel) (by decide)
theorem i19_10 : m_G 19 10 [.ref a0, v1, v2, v3] st μ = m_G 19 11 [.ref a0, v1, v2, v3] (.ref a0 :: st) μ := g_aload_n (i := 0) (by decide +kernel) rfl
theorem i19_11 : m_G 19 11 L (.ref a0 :: st) μ = b_v (m_gf μ a0 3 11) 19 14 L st μ := g_getf (i := 65) (by decide +kernel) (by decide +kernel)
theorem i19_14 : m_G 19 14 [v0, v1, v2, .int x0] st μ = m_G 19 15 [v0, v1, v2, .int x0] (.int x0 :: st) μ := g_iload_n (i := 3) (by decide +kernel) rfl
theorem i19_15 : m_G 19 15 L (.int x1 :: .int x0 :: st) μ = m_G 19 16 L (.int (x0 ||| x1) :: st) μ := g_ior (by decide +kernel)
theorem i19_16 : m_G 19 16 L st μ = m_G 19 27 L st μ := g_goto (off := 11) (by decide +kernel) (by decide)
theorem i19_19 : m_G 19 19 [.ref a0, v1, v2, v3] st μ = m_G 19 20 [.ref a0, v1, v2, v3] (.ref a0 :: st) μ := g_aload_n (i := 0) (by decide +kernel) rfl
theorem i19_20 : m_G 19 20 L (.ref a0 :: st) μ = b_v (m_gf μ a0 3 11) 19 23 L st μ := g_getf (i := 65) (by decide +kernel) (by decide +kernel)
theorem i19_23 : m_G 19 23 [v0, v1, v2, .int x0] st μ = m_G 19 24 [v0, v1, v2, .int x0] (.int x0 :: st) μ := g_iload_n (i := 3) (by decide +kernel) rfl
theorem i19_24 : m_G 19 24 L st μ = m_G 19 25 L (.int (-1) :: st) μ := g_iconst (n := -1) (by decide +kernel) (by decide)
theorem i19_25 : m_G 19 25 L (.int x1 :: .int x0 :: st) μ = m_G 19 26 L (.int (x0 ^^^ x1) :: st) μ := g_ixor (by decide +kernel)
theorem i19_26 : m_G 19 26 L (.int x1 :: .int x0 :: st) μ = m_G 19 27 L (.int (x0 &&& x1) :: st) μ := g_iand (by decide +kernel)
theorem i19_27 : m_G 19 27 L (w0 :: .ref a0 :: st) μ = b_m (m_pf μ a0 3 11 .int w0) 19 30 L st := g_putf (i := 65) (by decide +kernel) (by decide +kernel) (Or.inl (by decide)) (by decide)
theorem i19_30 : m_G 19 30 [.ref a0, v1, v2, v3] st μ = m_G 19 31 [.ref a0, v1, v2, v3] (.ref a0 :: st) μ := g_aload_n (i := 0) (by decide +kernel) rfl
theorem i19_31 : m_G 19 31 [v0, v1, .int x0, v3] st μ = m_G 19 32 [v0, v1, .int x0, v3] (.int x0 :: st) μ := g_iload_n (i := 2) (by decide +kernel) rfl
theorem i19_32 : m_G 19 32 L st μ = m_G 19 33 L (.int 2 :: st) μ := g_iconst (n := 2) (by decide +kernel) (by decide)
theorem i19_33 : m_G 19 33 L (.int x1 :: .int x0 :: st) μ = if x0 = x1 then m_G 19 36 L st μ else m_G 19 45 L st μ := g_cmpne (off := 12) (by decide +kernel) (by decide)
theorem i19_36 : m_G 19 36 [.ref a0, v1, v2, v3] st μ = m_G 19 37 [.ref a0, v1, v2, v3] (.ref a0 :: st) μ := g_aload_n (i := 0) (by decide +kernel) rfl
theorem i19_37 : m_G 19 37 L (.ref a0 :: st) μ = b_v (m_gf μ a0 3 12) 19 40 L st μ := g_getf (i := 72) (by decide +kernel) (by decide +kernel)
theorem i19_40 : m_G 19 40 [v0, v1, v2, .int x0] st μ = m_G 19 41 [v0, v1, v2, .int x0] (.int x0 :: st) μ := g_iload_n (i := 3) (by decide +kernel) rfl
theorem i19_41 : m_G 19 41 L (.int x1 :: .int x0 :: st) μ = m_G 19 42 L (.int (x0 ||| x1) :: st) μ := g_ior (by decide +kernel)
theorem i19_42 : m_G 19 42 L st μ = m_G 19 53 L st μ := g_goto (off := 11) (by decide +kernel) (by decide)
theorem i19_45 : m_G 19 45 [.ref a0, v1, v2, v3] st μ = m_G 19 46 [.ref a0, v1, v2, v3] (.ref a0 :: st) μ := g_aload_n (i := 0) (by decide +kernel) rfl
theorem i19_46 : m_G 19 46 L (.ref a0 :: st) μ = b_v (m_gf μ a0 3 12) 19 49 L st μ := g_getf (i := 72) (by decide +kernel) (by decide +kernel)
theorem i19_49 : m_G 19 49 [v0, v1, v2, .int x0] st μ = m_G 19 50 [v0, v1, v2, .int x0] (.int x0 :: st) μ := g_iload_n (i := 3) (by decide +kernel) rfl
theorem i19_50 : m_G 19 50 L st μ = m_G 19 51 L (.int (-1) :: st) μ := g_iconst (n := -1) (by decide +kernel) (by decide)
theorem i19_51 : m_G 19 51 L (.int x1 :: .int x0 :: st) μ = m_G 19 52 L (.int (x0 ^^^ x1) :: st) μ := g_ixor (by decide +kernel)
theorem i19_52 : m_G 19 52 L (.int x1 :: .int x0 :: st) μ = m_G 19 53 L (.int (x0 &&& x1) :: st) μ := g_iand (by decide +kernel)
theorem i19_53 : m_G 19 53 L (w0 :: .ref a0 :: st) μ = b_m (m_pf μ a0 3 12 .int w0) 19 56 L st := g_putf (i := 72) (by decide +kernel) (by decide +kernel) (Or.inl (by decide)) (by decide)
theorem i19_56 : m_G 19 56 L [] μ = some (none, μ) := g_ret (by decide +kernel) (by decide)
theorem D19 : m_D 19 [.ref a0, .int x0, .int x1] μ = m_G 19 0 [.ref a0, .int x0, .int x1, m_d] [] μ := d_def (by decide) rfl
theorem i20_0 : m_G 20 0 [.ref a0] st μ = m_G 20 1 [.ref a0] (.ref a0 :: st) μ := g_aload_n (i := 0) (by decide +kernel) rfl
theorem i20_1 : m_G 20 1 L (.ref a0 :: st) μ = b_v (m_gf μ a0 3 11) 20 4 L st μ := g_getf (i := 65) (by decide +kernel) (by decide +kernel)
theorem i20_4 : m_G 20 4 L (.int x0 :: st) μ = if x0 = 0 then m_G 20 7 L st μ else m_G 20 25 L st μ := g_ifne (off := 21) (by decide +kernel) (by decide)
theorem i20_7 : m_G 20 7 [.ref a0] st μ = m_G 20 8 [.ref a0] (.ref a0 :: st) μ := g_aload_n (i := 0) (by decide +kernel) rfl
theorem i20_8 : m_G 20 8 L (.ref a0 :: st) μ = b_v (m_gf μ a0 3 12) 20 11 L st μ := g_getf (i := 72) (by decide +kernel) (by decide +kernel)
theorem i20_11 : m_G 20 11 L (.int x0 :: st) μ = if x0 = 0 then m_G 20 14 L st μ else m_G 20 25 L st μ := g_ifne (off := 14) (by decide +kernel) (by decide)
theorem i20_14 : m_G 20 14 [.ref a0] st μ = m_G 20 15 [.ref a0] (.ref a0 :: st) μ := g_aload_n (i := 0) (by decide +kernel) rfl
theorem i20_15 : m_G 20 15 L (.ref a0 :: st) μ = b_v (m_gf μ a0 3 13) 20 18 L st μ := g_getf (i := 75) (by decide +kernel) (by decide +kernel)
theorem i20_18 : m_G 20 18 L (.int x0 :: st) μ = if x0 = 0 then m_G 20 21 L st μ else m_G 20 25 L st μ := g_ifne (off := 7) (by decide +kernel) (by decide)
theorem i20_21 : m_G 20 21 L st μ = m_G 20 22 L (.int 1 :: st) μ := g_iconst (n := 1) (by decide +kernel) (by decide)
theorem i20_22 : m_G 20 22 L st μ = m_G 20 26 L st μ := g_goto (off := 4) (by decide +kernel) (by decide)
theorem i20_25 : m_G 20 25 L st μ = m_G 20 26 L (.int 0 :: st) μ := g_iconst (n := 0) (by decide +kernel) (by decide)
theorem i20_26 (h : x0 &&& 1 = x0) : m_G 20 26 L [.int x0] μ = some (some (.int x0), μ) := g_iretz (by decide +kernel) (by decide) h
theorem D20 : m_D 20 [.ref a0] μ = m_G 20 0 [.ref a0] [] μ := d_def (by decide) rfl
theorem i21_0 : m_G 21 0 [.ref a0, v1] st μ = m_G 21 1 [.ref a0, v1] (.ref a0 :: st) μ := g_aload_n (i := 0) (by decide +kernel) rfl
theorem i21_1 : m_G 21 1 L (.ref a0 :: st) μ = b_v (m_gf μ a0 3 13) 21 4 L st μ := g_getf (i := 75) (by decide +kernel) (by decide +kernel)
theorem i21_4 : m_G 21 4 L (.int x0 :: st) μ = if x0 = 0 then m_G 21 23 L st μ else m_G 21 7 L st μ := g_ifeq (off := 19) (by decide +kernel) (by decide)
theorem i21_7 : m_G 21 7 [v0, .int x0] st μ = m_G 21 8 [v0, .int x0] (.int x0 :: st) μ := g_iload_n (i := 1) (by decide +kernel) rfl
theorem i21_8 : m_G 21 8 [.ref a0, v1] st μ = m_G 21 9 [.ref a0, v1] (.ref a0 :: st) μ := g_aload_n (i := 0) (by decide +kernel) rfl
theorem i21_9 : m_G 21 9 L (.ref a0 :: st) μ = b_v (m_gf μ a0 3 11) 21 12 L st μ := g_getf (i := 65) (by decide +kernel) (by decide +kernel)
theorem i21_12 : m_G 21 12 L (.int x1 :: .int x0 :: st) μ = if x0 = x1 then m_G 21 15 L st μ else m_G 21 19 L st μ := g_cmpne (off := 7) (by decide +kernel) (by decide)
theorem i21_15 : m_G 21 15 L st μ = m_G 21 16 L (.int 1 :: st) μ := g_iconst (n := 1) (by decide +kernel) (by decide)
theorem i21_16 : m_G 21 16 L st μ = m_G 21 50 L st μ := g_goto (off := 34) (by decide +kernel) (by decide)
theorem i21_19 : m_G 21 19 L st μ = m_G 21 20 L (.int 0 :: st) μ := g_iconst (n := 0) (by decide +kernel) (by decide)
theorem i21_20 : m_G 21 20 L st μ = m_G 21 50 L st μ := g_goto (off := 30) (by decide +kernel) (by decide)
theorem i21_23 : m_G 21 23 [v0, .int x0] st μ = m_G 21 24 [v0, .int x0] (.int x0 :: st) μ := g_iload_n (i := 1) (by decide +kernel) rfl
theorem i21_24 : m_G 21 24 [.ref a0, v1] st μ = m_G 21 25 [.ref a0, v1] (.ref a0 :: st) μ := g_aload_n (i := 0) (by decide +kernel) rfl
theorem i21_25 : m_G 21 25 L (.ref a0 :: st) μ = b_v (m_gf μ a0 3 11) 21 28 L st μ := g_getf (i := 65) (by decide +kernel) (by decide +kernel)
theorem i21_28 : m_G 21 28 L (.int x1 :: .int x0 :: st) μ = m_G 21 29 L (.int (x0 &&& x1) :: st) μ := g_iand (by decide +kernel)
theorem i21_29 : m_G 21 29 [.ref a0, v1] st μ = m_G 21 30 [.ref a0, v1] (.ref a0 :: st) μ := g_aload_n (i := 0) (by decide +kernel) rfl
theorem i21_30 : m_G 21 30 L (.ref a0 :: st) μ = b_v (m_gf μ a0 3 11) 21 33 L st μ := g_getf (i := 65) (by decide +kernel) (by decide +kernel)
theorem i21_33 : m_G 21 33 L (.int x1 :: .int x0 :: st) μ = if x0 = x1 then m_G 21 36 L st μ else m_G 21 49 L st μ := g_cmpne (off := 16) (by decide +kernel) (by decide)
theorem i21_36 : m_G 21 36 [v0, .int x0] st μ = m_G 21 37 [v0, .int x0] (.int x0 :: st) μ := g_iload_n (i := 1) (by decide +kernel) rfl
theorem i21_37 : m_G 21 37 [.ref a0, v1] st μ = m_G 21 38 [.ref a0, v1] (.ref a0 :: st) μ := g_aload_n (i := 0) (by decide +kernel) rfl
theorem i21_38 : m_G 21 38 L (.ref a0 :: st) μ = b_v (m_gf μ a0 3 12) 21 41 L st μ := g_getf (i := 72) (by decide +kernel) (by decide +kernel)
theorem i21_41 : m_G 21 41 L (.int x1 :: .int x0 :: st) μ = m_G 21 42 L (.int (x0 &&& x1) :: st) μ := g_iand (by decide +kernel)
theorem i21_42 : m_G 21 42 L (.int x0 :: st) μ = if x0 = 0 then m_G 21 45 L st μ else m_G 21 49 L st μ := g_ifne (off := 7) (by decide +kernel) (by decide)
theorem i21_45 : m_G 21 45 L st μ = m_G 21 46 L (.int 1 :: st) μ := g_iconst (n := 1) (by decide +kernel) (by decide)
theorem i21_46 : m_G 21 46 L st μ = m_G 21 50 L st μ := g_goto (off := 4) (by decide +kernel) (by decide)
theorem i21_49 : m_G 21 49 L st μ = m_G 21 50 L (.int 0 :: st) μ := g_iconst (n := 0) (by decide +kernel) (by decide)
theorem i21_50 (h : x0 &&& 1 = x0) : m_G 21 50 L [.int x0] μ = some (some (.int x0), μ) := g_iretz (by decide +kernel) (by decide) h
theorem D21 : m_D 21 [.ref a0, .int x0] μ = m_G 21 0 [.ref a0, .int x0] [] μ := d_def (by decide) rfl
theorem i22_0 : m_G 22 0 L st μ = m_G 22 1 L (.int 0 :: st) μ := g_iconst (n := 0) (by decide +kernel) (by decide)
theorem i22_1 : m_G 22 1 [v0, v1, v2, v3, v4] (.int x0 :: st) μ = m_G 22 2 [v0, v1, v2, .int x0, v4] st μ := g_istore_n (i := 3) (by decide +kernel) (Nat.le_of_ble_eq_true rfl) rfl
theorem i22_2 : m_G 22 2 L st μ = m_G 22 3 L (.int 0 :: st) μ := g_iconst (n := 0) (by decide +kernel) (by decide)
theorem i22_3 : m_G 22 3 [v0, v1, v2, v3, v4] (.int x0 :: st) μ = m_G 22 5 [v0, v1, v2, v3, .int x0] st μ := g_istore (i := 4) (by decide +kernel) (Nat.le_of_ble_eq_true rfl) rfl
theorem i22_5 : m_G 22 5 [v0, v1, v2, v3, .int x0] st μ = m_G 22 7 [v0, v1, v2, v3, .int x0] (.int x0 :: st) μ := g_iload (i := 4) (by decide +kernel) rfl
theorem i22_7 : m_G 22 7 [.ref a0, v1, v2, v3, v4] st μ = m_G 22 8 [.ref a0, v1, v2, v3, v4] (.ref a0 :: st) μ := g_aload_n (i := 0) (by decide +kernel) rfl
theorem i22_8 : m_G 22 8 L (.ref a0 :: st) μ = b_v (m_gf μ a0 3 0) 22 11 L st μ := g_getf (i := 24) (by decide +kernel) (by decide +kernel)
theorem i22_11 : m_G 22 11 L (.int x1 :: .int x0 :: st) μ = if x0 < x1 then m_G 22 14 L st μ else m_G 22 39 L st μ := g_cmpge (off := 28) (by decide +kernel) (by decide)
theorem i22_14 : m_G 22 14 [v0, v1, .int x0, v3, v4] st μ = m_G 22 15 [v0, v1, .int x0, v3, v4] (.int x0 :: st) μ := g_iload_n (i := 2) (by decide +kernel) rfl
theorem i22_15 : m_G 22 15 [v0, v1, v2, v3, .int x0] st μ = m_G 22 17 [v0, v1, v2, v3, .int x0] (.int x0 :: st) μ := g_iload (i := 4) (by decide +kernel) rfl
theorem i22_17 : m_G 22 17 L (.int x1 :: .int x0 :: []) μ = b_c (m_D 96 [.int x0, .int x1] μ) 22 20 L [] := g_stat (i := 68) (n := 2) (by decide +kernel) (by decide +kernel) (by decide) (x_call_ok (ws := [1, 1]) (Nat.le_of_ble_eq_true rfl) rfl (by decide +kernel) rfl (by decide +kernel) rfl rfl)
theorem i22_20 : m_G 22 20 L (.int x0 :: st) μ = if x0 = 0 then m_G 22 33 L st μ else m_G 22 23 L st μ := g_ifeq (off := 13) (by decide +kernel) (by decide)
theorem i22_23 : m_G 22 23 [v0, v1, v2, .int x0, v4] st μ = m_G 22 24 [v0, v1, v2, .int x0, v4] (.int x0 :: st) μ := g_iload_n (i := 3) (by decide +kernel) rfl
theorem i22_24 : m_G 22 24 [.ref a0, v1, v2, v3, v4] st μ = m_G 22 25 [.ref a0, v1, v2, v3, v4] (.ref a0 :: st) μ := g_aload_n (i := 0) (by decide +kernel) rfl
theorem i22_25 : m_G 22 25 [v0, .int x0, v2, v3, v4] st μ = m_G 22 26 [v0, .int x0, v2, v3, v4] (.int x0 :: st) μ := g_iload_n (i := 1) (by decide +kernel) rfl
theorem i22_26 : m_G 22 26 [v0, v1, v2, v3, .int x0] st μ = m_G 22 28 [v0, v1, v2, v3, .int x0] (.int x0 :: st) μ := g_iload (i := 4) (by decide +kernel) rfl
theorem i22_28 (ho : m_oc μ a0 = some 3) : m_G 22 28 L (.int x1 :: .int x0 :: .ref a0 :: [w0]) μ = b_c (m_D 23 [.ref a0, .int x0, .int x1] μ) 22 31 L [w0] := g_virt (i := 79) (n := 2) (a := a0) (c := 3) (l := [(3, 23)]) (by decide +kernel) (by decide +kernel) rfl rfl (x_call_ok (ws := [1, 1, 1]) (Nat.le_of_ble_eq_true rfl) rfl (by decide +kernel) rfl (by decide +kernel) rfl rfl) ho
theorem i22_31 : m_G 22 31 L (.int x1 :: .int x0 :: st) μ = m_G 22 32 L (.int (x0 ||| x1) :: st) μ := g_ior (by decide +kernel)
theorem i22_32 : m_G 22 32 [v0, v1, v2, v3, v4] (.int x0 :: st) μ = m_G 22 33 [v0, v1, v2, .int x0, v4] st μ := g_istore_n (i := 3) (by decide +kernel) (Nat.le_of_ble_eq_true rfl) rfl
theorem i22_33 : m_G 22 33 [v0, v1, v2, v3, .int x0] st μ = m_G 22 36 [v0, v1, v2, v3, .int (x0 + 1)] st μ := g_iinc (i := 4) (n := 1) (by decide +kernel) rfl (by decide) rfl
theorem i22_36 : m_G 22 36 L st μ = m_G 22 5 L st μ := g_goto (off := -31) (by decide +kernel) (by decide)
theorem i22_39 : m_G 22 39 [v0, v1, v2, .int x0, v4] st μ = m_G 22 40 [v0, v1, v2, .int x0, v4] (.int x0 :: st) μ := g_iload_n (i := 3) (by decide +kernel) rfl
theorem i22_40 : m_G 22 40 L [.int x0] μ = some (some (.int x0), μ) := g_ireti (by decide +kernel) (by decide)
theorem D22 : m_D 22 [.ref a0, .int x0, .int x1] μ = m_G 22 0 [.ref a0, .int x0, .int x1, m_d, m_d] [] μ := d_def (by decide) rfl
theorem i23_0 : m_G 23 0 [v0, .int x0, v2] st μ = m_G 23 1 [v0, .int x0, v2] (.int x0 :: st) μ := g_iload_n (i := 1) (by decide +kernel) rfl
theorem i23_1 : m_G 23 1 L st μ = m_G 23 2 L (.int 5 :: st) μ := g_iconst (n := 5) (by decide +kernel) (by decide)
theorem i23_2 : m_G 23 2 L (.int x1 :: .int x0 :: st) μ = if x0 < x1 then m_G 23 5 L st μ else m_G 23 21 L st μ := g_cmpge (off := 19) (by decide +kernel) (by decide)
theorem i23_5 : m_G 23 5 [.ref a0, v1, v2] st μ = m_G 23 6 [.ref a0, v1, v2] (.ref a0 :: st) μ := g_aload_n (i := 0) (by decide +kernel) rfl
theorem i23_6 : m_G 23 6 L (.ref a0 :: st) μ = b_v (m_gf μ a0 3 5) 23 9 L st μ := g_getf (i := 46) (by decide +kernel) (by decide +kernel)
theorem i23_9 : m_G 23 9 [v0, v1, .int x0] st μ = m_G 23 10 [v0, v1, .int x0] (.int x0 :: st) μ := g_iload_n (i := 2) (by decide +kernel) rfl
theorem i23_10 : m_G 23 10 L (.int x0 :: .ref a0 :: st) μ = b_i (m_ga μ a0 x0) 23 11 L st μ := g_iald (by decide +kernel)
theorem i23_11 : m_G 23 11 [.ref a0, v1, v2] st μ = m_G 23 12 [.ref a0, v1, v2] (.ref a0 :: st) μ := g_aload_n (i := 0) (by decide +kernel) rfl
theorem i23_12 : m_G 23 12 L (.ref a0 :: st) μ = b_v (m_gf μ a0 3 8) 23 15 L st μ := g_getf (i := 9) (by decide +kernel) (by decide +kernel)
theorem i23_15 : m_G 23 15 [v0, .int x0, v2] st μ = m_G 23 16 [v0, .int x0, v2] (.int x0 :: st) μ := g_iload_n (i := 1) (by decide +kernel) rfl
theorem i23_16 : m_G 23 16 L st μ = m_G 23 17 L (.int 0 :: st) μ := g_iconst (n := 0) (by decide +kernel) (by decide)
theorem i23_17 : m_G 23 17 L (.int x1 :: .int x0 :: st) μ = m_G 23 18 L (.int (x0 - x1) :: st) μ := g_isub (by decide +kernel)
theorem i23_18 : m_G 23 18 L (.int x0 :: .ref a0 :: st) μ = b_i (m_ga μ a0 x0) 23 19 L st μ := g_iald (by decide +kernel)
theorem i23_19 : m_G 23 19 L (.int x1 :: .int x0 :: st) μ = m_G 23 20 L (.int (x0 &&& x1) :: st) μ := g_iand (by decide +kernel)
theorem i23_20 : m_G 23 20 L [.int x0] μ = some (some (.int x0), μ) := g_ireti (by decide +kernel) (by decide)
theorem i23_21 : m_G 23 21 [v0, .int x0, v2] st μ = m_G 23 22 [v0, .int x0, v2] (.int x0 :: st) μ := g_iload_n (i := 1) (by decide +kernel) rfl
theorem i23_22 : m_G 23 22 L st μ = m_G 23 24 L (.int 9 :: st) μ := g_bipush (n := 9) (by decide +kernel) (by decide)
theorem i23_24 : m_G 23 24 L (.int x1 :: .int x0 :: st) μ = if x0 < x1 then m_G 23 27 L st μ else m_G 23 39 L st μ := g_cmpge (off := 15) (by decide +kernel) (by decide)
theorem i23_27 : m_G 23 27 [.ref a0, v1, v2] st μ = m_G 23 28 [.ref a0, v1, v2] (.ref a0 :: st) μ := g_aload_n (i := 0) (by decide +kernel) rfl
theorem i23_28 : m_G 23 28 [v0, v1, .int x0] st μ = m_G 23 29 [v0, v1, .int x0] (.int x0 :: st) μ := g_iload_n (i := 2) (by decide +kernel) rfl
theorem i23_29 : m_G 23 29 [v0, .int x0, v2] st μ = m_G 23 30 [v0, .int x0, v2] (.int x0 :: st) μ := g_iload_n (i := 1) (by decide +kernel) rfl
theorem i23_30 : m_G 23 30 L st μ = m_G 23 31 L (.int 5 :: st) μ := g_iconst (n := 5) (by decide +kernel) (by decide)
theorem i23_31 : m_G 23 31 L (.int x1 :: .int x0 :: st) μ = m_G 23 32 L (.int (x0 - x1) :: st) μ := g_isub (by decide +kernel)
theorem i23_32 (ho : m_oc μ a0 = some 3) : m_G 23 32 L (.int x1 :: .int x0 :: .ref a0 :: []) μ = b_c (m_D 24 [.ref a0, .int x0, .int x1] μ) 23 35 L [] := g_virt (i := 82) (n := 2) (a := a0) (c := 3) (l := [(3, 24)]) (by decide +kernel) (by decide +kernel) rfl rfl (x_call_ok (ws := [1, 1, 1]) (Nat.le_of_ble_eq_true rfl) rfl (by decide +kernel) rfl (by decide +kernel) rfl rfl) ho
theorem i23_35 : m_G 23 35 L (.int x0 :: []) μ = b_c (m_D 97 [.int x0] μ) 23 38 L [] := g_stat (i := 85) (n := 1) (by decide +kernel) (by decide +kernel) (by decide) (x_call_ok (ws := [1]) (Nat.le_of_ble_eq_true rfl) rfl (by decide +kernel) rfl (by decide +kernel) rfl rfl)
theorem i23_38 : m_G 23 38 L [.int x0] μ = some (some (.int x0), μ) := g_ireti (by decide +kernel) (by decide)
theorem i23_39 : m_G 23 39 [v0, .int x0, v2] st μ = m_G 23 40 [v0, .int x0, v2] (.int x0 :: st) μ := g_iload_n (i := 1) (by decide +kernel) rfl
theorem i23_40 : m_G 23 40 L st μ = m_G 23 42 L (.int 14 :: st) μ := g_bipush (n := 14) (by decide +kernel) (by decide)
theorem i23_42 : m_G 23 42 L (.int x1 :: .int x0 :: st) μ = if x0 < x1 then m_G 23 45 L st μ else m_G 23 62 L st μ := g_cmpge (off := 20) (by decide +kernel) (by decide)
theorem i23_45 : m_G 23 45 [.ref a0, v1, v2] st μ = m_G 23 46 [.ref a0, v1, v2] (.ref a0 :: st) μ := g_aload_n (i := 0) (by decide +kernel) rfl
theorem i23_46 : m_G 23 46 L (.ref a0 :: st) μ = b_v (m_gf μ a0 3 6) 23 49 L st μ := g_getf (i := 49) (by decide +kernel) (by decide +kernel)
theorem i23_49 : m_G 23 49 [v0, v1, .int x0] st μ = m_G 23 50 [v0, v1, .int x0] (.int x0 :: st) μ := g_iload_n (i := 2) (by decide +kernel) rfl
theorem i23_50 : m_G 23 50 L (.int x0 :: .ref a0 :: st) μ = b_i (m_ga μ a0 x0) 23 51 L st μ := g_iald (by decide +kernel)
theorem i23_51 : m_G 23 51 [.ref a0, v1, v2] st μ = m_G 23 52 [.ref a0, v1, v2] (.ref a0 :: st) μ := g_aload_n (i := 0) (by decide +kernel) rfl
theorem i23_52 : m_G 23 52 L (.ref a0 :: st) μ = b_v (m_gf μ a0 3 8) 23 55 L st μ := g_getf (i := 9) (by decide +kernel) (by decide +kernel)
theorem i23_55 : m_G 23 55 [v0, .int x0, v2] st μ = m_G 23 56 [v0, .int x0, v2] (.int x0 :: st) μ := g_iload_n (i := 1) (by decide +kernel) rfl
theorem i23_56 : m_G 23 56 L st μ = m_G 23 58 L (.int 9 :: st) μ := g_bipush (n := 9) (by decide +kernel) (by decide)
theorem i23_58 : m_G 23 58 L (.int x1 :: .int x0 :: st) μ = m_G 23 59 L (.int (x0 - x1) :: st) μ := g_isub (by decide +kernel)
theorem i23_59 : m_G 23 59 L (.int x0 :: .ref a0 :: st) μ = b_i (m_ga μ a0 x0) 23 60 L st μ := g_iald (by decide +kernel)
theorem i23_60 : m_G 23 60 L (.int x1 :: .int x0 :: st) μ = m_G 23 61 L (.int (x0 &&& x1) :: st) μ := g_iand (by decide +kernel)
theorem i23_61 : m_G 23 61 L [.int x0] μ = some (some (.int x0), μ) := g_ireti (by decide +kernel) (by decide)
theorem i23_62 : m_G 23 62 [v0, .int x0, v2] st μ = m_G 23 63 [v0, .int x0, v2] (.int x0 :: st) μ := g_iload_n (i := 1) (by decide +kernel) rfl
theorem i23_63 : m_G 23 63 L st μ = m_G 23 65 L (.int 14 :: st) μ := g_bipush (n := 14) (by decide +kernel) (by decide)
theorem i23_65 : m_G 23 65 L (.int x1 :: .int x0 :: st) μ = if x0 = x1 then m_G 23 68 L st μ else m_G 23 77 L st μ := g_cmpne (off := 12) (by decide +kernel) (by decide)
theorem i23_68 : m_G 23 68 [.ref a0, v1, v2] st μ = m_G 23 69 [.ref a0, v1, v2] (.ref a0 :: st) μ := g_aload_n (i := 0) (by decide +kernel) rfl
theorem i23_69 : m_G 23 69 [v0, v1, .int x0] st μ = m_G 23 70 [v0, v1, .int x0] (.int x0 :: st) μ := g_iload_n (i := 2) (by decide +kernel) rfl
theorem i23_70 (ho : m_oc μ a0 = some 3) : m_G 23 70 L (.int x0 :: .ref a0 :: []) μ = b_c (m_D 25 [.ref a0, .int x0] μ) 23 73 L [] := g_virt (i := 89) (n := 1) (a := a0) (c := 3) (l := [(3, 25)]) (by decide +kernel) (by decide +kernel) rfl rfl (x_call_ok (ws := [1, 1]) (Nat.le_of_ble_eq_true rfl) rfl (by decide +kernel) rfl (by decide +kernel) rfl rfl) ho
theorem i23_73 : m_G 23 73 L (.int x0 :: []) μ = b_c (m_D 97 [.int x0] μ) 23 76 L [] := g_stat (i := 85) (n := 1) (by decide +kernel) (by decide +kernel) (by decide) (x_call_ok (ws := [1]) (Nat.le_of_ble_eq_true rfl) rfl (by decide +kernel) rfl (by decide +kernel) rfl rfl)
theorem i23_76 : m_G 23 76 L [.int x0] μ = some (some (.int x0), μ) := g_ireti (by decide +kernel) (by decide)
theorem i23_77 : m_G 23 77 [.ref a0, v1, v2] st μ = m_G 23 78 [.ref a0, v1, v2] (.ref a0 :: st) μ := g_aload_n (i := 0) (by decide +kernel) rfl
theorem i23_78 : m_G 23 78 [v0, v1, .int x0] st μ = m_G 23 79 [v0, v1, .int x0] (.int x0 :: st) μ := g_iload_n (i := 2) (by decide +kernel) rfl
theorem i23_79 : m_G 23 79 [v0, .int x0, v2] st μ = m_G 23 80 [v0, .int x0, v2] (.int x0 :: st) μ := g_iload_n (i := 1) (by decide +kernel) rfl
theorem i23_80 : m_G 23 80 L st μ = m_G 23 82 L (.int 15 :: st) μ := g_bipush (n := 15) (by decide +kernel) (by decide)
theorem i23_82 : m_G 23 82 L (.int x1 :: .int x0 :: st) μ = m_G 23 83 L (.int (x0 - x1) :: st) μ := g_isub (by decide +kernel)
theorem i23_83 : m_G 23 83 L st μ = m_G 23 84 L (.int 4 :: st) μ := g_iconst (n := 4) (by decide +kernel) (by decide)
theorem i23_84 : m_G 23 84 L (.int x1 :: .int x0 :: st) μ = m_G 23 85 L (.int (x0 + x1) :: st) μ := g_iadd (by decide +kernel)
theorem i23_85 (ho : m_oc μ a0 = some 3) : m_G 23 85 L (.int x1 :: .int x0 :: .ref a0 :: []) μ = b_c (m_D 24 [.ref a0, .int x0, .int x1] μ) 23 88 L [] := g_virt (i := 82) (n := 2) (a := a0) (c := 3) (l := [(3, 24)]) (by decide +kernel) (by decide +kernel) rfl rfl (x_call_ok (ws := [1, 1, 1]) (Nat.le_of_ble_eq_true rfl) rfl (by decide +kernel) rfl (by decide +kernel) rfl rfl) ho
theorem i23_88 : m_G 23 88 L (.int x0 :: []) μ = b_c (m_D 97 [.int x0] μ) 23 91 L [] := g_stat (i := 85) (n := 1) (by decide +kernel) (by decide +kernel) (by decide) (x_call_ok (ws := [1]) (Nat.le_of_ble_eq_true rfl) rfl (by decide +kernel) rfl (by decide +kernel) rfl rfl)
theorem i23_91 : m_G 23 91 L [.int x0] μ = some (some (.int x0), μ) := g_ireti (by decide +kernel) (by decide)
theorem D23 : m_D 23 [.ref a0, .int x0, .int x1] μ = m_G 23 0 [.ref a0, .int x0, .int x1] [] μ := d_def (by decide) rfl
theorem i24_0 : m_G 24 0 [.ref a0, v1, v2, v3, v4] st μ = m_G 24 1 [.ref a0, v1, v2, v3, v4] (.ref a0 :: st) μ := g_aload_n (i := 0) (by decide +kernel) rfl
theorem i24_1 : m_G 24 1 L (.ref a0 :: st) μ = b_v (m_gf μ a0 3 5) 24 4 L st μ := g_getf (i := 46) (by decide +kernel) (by decide +kernel)
theorem i24_4 : m_G 24 4 [v0, .int x0, v2, v3, v4] st μ = m_G 24 5 [v0, .int x0, v2, v3, v4] (.int x0 :: st) μ := g_iload_n (i := 1) (by decide +kernel) rfl
theorem i24_5 : m_G 24 5 L (.int x0 :: .ref a0 :: st) μ = b_i (m_ga μ a0 x0) 24 6 L st μ := g_iald (by decide +kernel)
theorem i24_6 : m_G 24 6 [v0, v1, v2, v3, v4] (.int x0 :: st) μ = m_G 24 7 [v0, v1, v2, .int x0, v4] st μ := g_istore_n (i := 3) (by decide +kernel) (Nat.le_of_ble_eq_true rfl) rfl
theorem i24_7 : m_G 24 7 L st μ = m_G 24 8 L (.int 0 :: st) μ := g_iconst (n := 0) (by decide +kernel) (by decide)
theorem i24_8 : m_G 24 8 [v0, v1, v2, v3, v4] (.int x0 :: st) μ = m_G 24 10 [v0, v1, v2, v3, .int x0] st μ := g_istore (i := 4) (by decide +kernel) (Nat.le_of_ble_eq_true rfl) rfl
theorem i24_10 : m_G 24 10 [v0, v1, v2, v3, .int x0] st μ = m_G 24 12 [v0, v1, v2, v3, .int x0] (.int x0 :: st) μ := g_iload (i := 4) (by decide +kernel) rfl
theorem i24_12 : m_G 24 12 [v0, v1, .int x0, v3, v4] st μ = m_G 24 13 [v0, v1, .int x0, v3, v4] (.int x0 :: st) μ := g_iload_n (i := 2) (by decide +kernel) rfl
theorem i24_13 : m_G 24 13 L (.int x1 :: .int x0 :: st) μ = if x0 < x1 then m_G 24 16 L st μ else m_G 24 28 L st μ := g_cmpge (off := 15) (by decide +kernel) (by decide)
theorem i24_16 : m_G 24 16 [v0, v1, v2, .int x0, v4] st μ = m_G 24 17 [v0, v1, v2, .int x0, v4] (.int x0 :: st) μ := g_iload_n (i := 3) (by decide +kernel) rfl
theorem i24_17 : m_G 24 17 [v0, v1, v2, .int x0, v4] st μ = m_G 24 18 [v0, v1, v2, .int x0, v4] (.int x0 :: st) μ := g_iload_n (i := 3) (by decide +kernel) rfl
theorem i24_18 : m_G 24 18 L st μ = m_G 24 19 L (.int 1 :: st) μ := g_iconst (n := 1) (by decide +kernel) (by decide)
theorem i24_19 : m_G 24 19 L (.int x1 :: .int x0 :: st) μ = m_G 24 20 L (.int (x0 - x1) :: st) μ := g_isub (by decide +kernel)
theorem i24_20 : m_G 24 20 L (.int x1 :: .int x0 :: st) μ = m_G 24 21 L (.int (x0 &&& x1) :: st) μ := g_iand (by decide +kernel)
theorem i24_21 : m_G 24 21 [v0, v1, v2, v3, v4] (.int x0 :: st) μ = m_G 24 22 [v0, v1, v2, .int x0, v4] st μ := g_istore_n (i := 3) (by decide +kernel) (Nat.le_of_ble_eq_true rfl) rfl
theorem i24_22 : m_G 24 22 [v0, v1, v2, v3, .int x0] st μ = m_G 24 25 [v0, v1, v2, v3, .int (x0 + 1)] st μ := g_iinc (i := 4) (n := 1) (by decide +kernel) rfl (by decide) rfl
theorem i24_25 : m_G 24 25 L st μ = m_G 24 10 L st μ := g_goto (off := -15) (by decide +kernel) (by decide)
theorem i24_28 : m_G 24 28 [v0, v1, v2, .int x0, v4] st μ = m_G 24 29 [v0, v1, v2, .int x0, v4] (.int x0 :: st) μ := g_iload_n (i := 3) (by decide +kernel) rfl
theorem i24_29 : m_G 24 29 L [.int x0] μ = some (some (.int x0), μ) := g_ireti (by decide +kernel) (by decide)
theorem D24 : m_D 24 [.ref a0, .int x0, .int x1] μ = m_G 24 0 [.ref a0, .int x0, .int x1, m_d, m_d] [] μ := d_def (by decide) rfl
theorem i25_0 : m_G 25 0 [.ref a0, v1, v2] st μ = m_G 25 1 [.ref a0, v1, v2] (.ref a0 :: st) μ := g_aload_n (i := 0) (by decide +kernel) rfl
theorem i25_1 : m_G 25 1 L (.ref a0 :: st) μ = b_v (m_gf μ a0 3 3) 25 4 L st μ := g_getf (i := 42) (by decide +kernel) (by decide +kernel)
theorem i25_4 : m_G 25 4 [v0, .int x0, v2] st μ = m_G 25 5 [v0, .int x0, v2] (.int x0 :: st) μ := g_iload_n (i := 1) (by decide +kernel) rfl
theorem i25_5 : m_G 25 5 L (.int x0 :: .ref a0 :: st) μ = b_i (m_ga μ a0 x0) 25 6 L st μ := g_iald (by decide +kernel)
theorem i25_6 : m_G 25 6 [v0, v1, v2] (.int x0 :: st) μ = m_G 25 7 [v0, v1, .int x0] st μ := g_istore_n (i := 2) (by decide +kernel) (Nat.le_of_ble_eq_true rfl) rfl
theorem i25_7 : m_G 25 7 [v0, v1, .int x0] st μ = m_G 25 8 [v0, v1, .int x0] (.int x0 :: st) μ := g_iload_n (i := 2) (by decide +kernel) rfl
theorem i25_8 : m_G 25 8 L st μ = m_G 25 9 L (.int (-1) :: st) μ := g_iconst (n := -1) (by decide +kernel) (by decide)
theorem i25_9 : m_G 25 9 L (.int x1 :: .int x0 :: st) μ = if x0 = x1 then m_G 25 12 L st μ else m_G 25 16 L st μ := g_cmpne (off := 7) (by decide +kernel) (by decide)
theorem i25_12 : m_G 25 12 L st μ = m_G 25 13 L (.int 0 :: st) μ := g_iconst (n := 0) (by decide +kernel) (by decide)
theorem i25_13 : m_G 25 13 L st μ = m_G 25 27 L st μ := g_goto (off := 14) (by decide +kernel) (by decide)
theorem i25_16 : m_G 25 16 [.ref a0, v1, v2] st μ = m_G 25 17 [.ref a0, v1, v2] (.ref a0 :: st) μ := g_aload_n (i := 0) (by decide +kernel) rfl
theorem i25_17 : m_G 25 17 L (.ref a0 :: st) μ = b_v (m_gf μ a0 3 5) 25 20 L st μ := g_getf (i := 46) (by decide +kernel) (by decide +kernel)
theorem i25_20 : m_G 25 20 [v0, v1, .int x0] st μ = m_G 25 21 [v0, v1, .int x0] (.int x0 :: st) μ := g_iload_n (i := 2) (by decide +kernel) rfl
theorem i25_21 : m_G 25 21 L (.int x0 :: .ref a0 :: st) μ = b_i (m_ga μ a0 x0) 25 22 L st μ := g_iald (by decide +kernel)
theorem i25_22 : m_G 25 22 L st μ = m_G 25 24 L (.int (-2) :: st) μ := g_bipush (n := -2) (by decide +kernel) (by decide)
theorem i25_24 : m_G 25 24 [v0, .int x0, v2] st μ = m_G 25 25 [v0, .int x0, v2] (.int x0 :: st) μ := g_iload_n (i := 1) (by decide +kernel) rfl
theorem i25_25 : m_G 25 25 L (.int x1 :: .int x0 :: st) μ = m_G 25 26 L (.int (x0 <<< (x1 &&& 31)) :: st) μ := g_ishl (by decide +kernel)
theorem i25_26 : m_G 25 26 L (.int x1 :: .int x0 :: st) μ = m_G 25 27 L (.int (x0 &&& x1) :: st) μ := g_iand (by decide +kernel)
theorem i25_27 : m_G 25 27 L [.int x0] μ = some (some (.int x0), μ) := g_ireti (by decide +kernel) (by decide)
theorem D25 : m_D 25 [.ref a0, .int x0] μ = m_G 25 0 [.ref a0, .int x0, m_d] [] μ := d_def (by decide) rfl
theorem i26_0 : m_G 26 0 [.ref a0, v1, v2] st μ = m_G 26 1 [.ref a0, v1, v2] (.ref a0 :: st) μ := g_aload_n (i := 0) (by decide +kernel) rfl
theorem i26_1 : m_G 26 1 L (.ref a0 :: st) μ = b_v (m_gf μ a0 3 15) 26 4 L st μ := g_getf (i := 92) (by decide +kernel) (by decide +kernel)
theorem i26_4 : m_G 26 4 L (.int x0 :: st) μ = if x0 = 0 then m_G 26 8 L st μ else m_G 26 7 L st μ := g_ifeq (off := 4) (by decide +kernel) (by decide)
theorem i26_7 : m_G 26 7 L [] μ = some (none, μ) := g_ret (by decide +kernel) (by decide)
theorem i26_8 : m_G 26 8 L st μ = m_G 26 9 L (.int 0 :: st) μ := g_iconst (n := 0) (by decide +kernel) (by decide)
theorem i26_9 : m_G 26 9 [v0, v1, v2] (.int x0 :: st) μ = m_G 26 10 [v0, .int x0, v2] st μ := g_istore_n (i := 1) (by decide +kernel) (Nat.le_of_ble_eq_true rfl) rfl
theorem i26_10 : m_G 26 10 [v0, .int x0, v2] st μ = m_G 26 11 [v0, .int x0, v2] (.int x0 :: st) μ := g_iload_n (i := 1) (by decide +kernel) rfl
theorem i26_11 : m_G 26 11 L st μ = m_G 26 14 L (.int 3615 :: st) μ := g_sipush (n := 3615) (by decide +kernel) (by decide)
theorem i26_14 : m_G 26 14 L (.int x1 :: .int x0 :: st) μ = if x0 < x1 then m_G 26 17 L st μ else m_G 26 68 L st μ := g_cmpge (off := 54) (by decide +kernel) (by decide)
theorem i26_17 : m_G 26 17 [v0, .int x0, v2] st μ = m_G 26 18 [v0, .int x0, v2] (.int x0 :: st) μ := g_iload_n (i := 1) (by decide +kernel) rfl
theorem i26_18 : m_G 26 18 L st μ = m_G 26 20 L (.int 15 :: st) μ := g_bipush (n := 15) (by decide +kernel) (by decide)
theorem i26_20 : m_G 26 20 L (.int x1 :: .int x0 :: st) μ = if x0 < x1 then m_G 26 23 L st μ else m_G 26 27 L st μ := g_cmpge (off := 7) (by decide +kernel) (by decide)
theorem i26_23 : m_G 26 23 L st μ = m_G 26 24 L (.int 1 :: st) μ := g_iconst (n := 1) (by decide +kernel) (by decide)
theorem i26_24 : m_G 26 24 L st μ = m_G 26 38 L st μ := g_goto (off := 14) (by decide +kernel) (by decide)
theorem i26_27 : m_G 26 27 [.ref a0, v1, v2] st μ = m_G 26 28 [.ref a0, v1, v2] (.ref a0 :: st) μ := g_aload_n (i := 0) (by decide +kernel) rfl
theorem i26_28 : m_G 26 28 L (.ref a0 :: st) μ = b_v (m_gf μ a0 3 14) 26 31 L st μ := g_getf (i := 15) (by decide +kernel) (by decide +kernel)
theorem i26_31 : m_G 26 31 [v0, .int x0, v2] st μ = m_G 26 32 [v0, .int x0, v2] (.int x0 :: st) μ := g_iload_n (i := 1) (by decide +kernel) rfl
theorem i26_32 : m_G 26 32 L st μ = m_G 26 34 L (.int 15 :: st) μ := g_bipush (n := 15) (by decide +kernel) (by decide)
theorem i26_34 (hy : ¬ x1 = 0) : m_G 26 34 L (.int x1 :: .int x0 :: st) μ = m_G 26 35 L (.int (x0 / x1) :: st) μ := g_idiv (by decide +kernel) hy
theorem i26_35 : m_G 26 35 L st μ = m_G 26 36 L (.int 1 :: st) μ := g_iconst (n := 1) (by decide +kernel) (by decide)
theorem i26_36 : m_G 26 36 L (.int x1 :: .int x0 :: st) μ = m_G 26 37 L (.int (x0 - x1) :: st) μ := g_isub (by decide +kernel)
theorem i26_37 : m_G 26 37 L (.int x0 :: .ref a0 :: st) μ = b_i (m_ga μ a0 x0) 26 38 L st μ := g_iald (by decide +kernel)
theorem i26_38 : m_G 26 38 [v0, v1, v2] (.int x0 :: st) μ = m_G 26 39 [v0, v1, .int x0] st μ := g_istore_n (i := 2) (by decide +kernel) (Nat.le_of_ble_eq_true rfl) rfl
theorem i26_39 : m_G 26 39 [.ref a0, v1, v2] st μ = m_G 26 40 [.ref a0, v1, v2] (.ref a0 :: st) μ := g_aload_n (i := 0) (by decide +kernel) rfl
theorem i26_40 : m_G 26 40 L (.ref a0 :: st) μ = b_v (m_gf μ a0 3 14) 26 43 L st μ := g_getf (i := 15) (by decide +kernel) (by decide +kernel)
theorem i26_43 : m_G 26 43 [v0, .int x0, v2] st μ = m_G 26 44 [v0, .int x0, v2] (.int x0 :: st) μ := g_iload_n (i := 1) (by decide +kernel) rfl
theorem i26_44 : m_G 26 44 [v0, v1, .int x0] st μ = m_G 26 45 [v0, v1, .int x0] (.int x0 :: st) μ := g_iload_n (i := 2) (by decide +kernel) rfl
theorem i26_45 : m_G 26 45 L (.int x0 :: st) μ = if x0 = 0 then m_G 26 48 L st μ else m_G 26 52 L st μ := g_ifne (off := 7) (by decide +kernel) (by decide)
theorem i26_48 : m_G 26 48 L st μ = m_G 26 49 L (.int 0 :: st) μ := g_iconst (n := 0) (by decide +kernel) (by decide)
theorem i26_49 : m_G 26 49 L st μ = m_G 26 61 L st μ := g_goto (off := 12) (by decide +kernel) (by decide)
theorem i26_52 : m_G 26 52 [.ref a0, v1, v2] st μ = m_G 26 53 [.ref a0, v1, v2] (.ref a0 :: st) μ := g_aload_n (i := 0) (by decide +kernel) rfl
theorem i26_53 : m_G 26 53 [v0, .int x0, v2] st μ = m_G 26 54 [v0, .int x0, v2] (.int x0 :: st) μ := g_iload_n (i := 1) (by decide +kernel) rfl
theorem i26_54 : m_G 26 54 L st μ = m_G 26 56 L (.int 15 :: st) μ := g_bipush (n := 15) (by decide +kernel) (by decide)
theorem i26_56 (hy : ¬ x1 = 0) : m_G 26 56 L (.int x1 :: .int x0 :: st) μ = m_G 26 57 L (.int (x0 - x0 / x1 * x1) :: st) μ := g_irem (by decide +kernel) hy
theorem i26_57 : m_G 26 57 [v0, v1, .int x0] st μ = m_G 26 58 [v0, v1, .int x0] (.int x0 :: st) μ := g_iload_n (i := 2) (by decide +kernel) rfl
theorem i26_58 (ho : m_oc μ a0 = some 3) : m_G 26 58 L (.int x1 :: .int x0 :: .ref a0 :: [w0, w1]) μ = b_c (m_D 22 [.ref a0, .int x0, .int x1] μ) 26 61 L [w0, w1] := g_virt (i := 95) (n := 2) (a := a0) (c := 3) (l := [(3, 22)]) (by decide +kernel) (by decide +kernel) rfl rfl (x_call_ok (ws := [1, 1, 1]) (Nat.le_of_ble_eq_true rfl) rfl (by decide +kernel) rfl (by decide +kernel) rfl rfl) ho
theorem i26_61 : m_G 26 61 L (.int x1 :: .int x0 :: .ref a0 :: st) μ = b_m (m_pa μ a0 x0 x1) 26 62 L st := g_iast (by decide +kernel)
theorem i26_62 : m_G 26 62 [v0, .int x0, v2] st μ = m_G 26 65 [v0, .int (x0 + 1), v2] st μ := g_iinc (i := 1) (n := 1) (by decide +kernel) rfl (by decide) rfl
theorem i26_65 : m_G 26 65 L st μ = m_G 26 10 L st μ := g_goto (off := -55) (by decide +kernel) (by decide)
theorem i26_68 : m_G 26 68 [.ref a0, v1, v2] st μ = m_G 26 69 [.ref a0, v1, v2] (.ref a0 :: st) μ := g_aload_n (i := 0) (by decide +kernel) rfl
theorem i26_69 : m_G 26 69 L st μ = m_G 26 70 L (.int 1 :: st) μ := g_iconst (n := 1) (by decide +kernel) (by decide)
theorem i26_70 : m_G 26 70 L (w0 :: .ref a0 :: st) μ = b_m (m_pf μ a0 3 15 .boolean w0) 26 73 L st := g_putf (i := 92) (by decide +kernel) (by decide +kernel) (Or.inl (by decide)) (by decide)
theorem i26_73 : m_G 26 73 L [] μ = some (none, μ) := g_ret (by decide +kernel) (by decide)
theorem D26 : m_D 26 [.ref a0] μ = m_G 26 0 [.ref a0, m_d, m_d] [] μ := d_def (by decide) rfl
theorem i27_0 : m_G 27 0 L st μ = m_G 27 1 L (.int 0 :: st) μ := g_iconst (n := 0) (by decide +kernel) (by decide)
theorem i27_1 : m_G 27 1 [v0, v1, v2, v3] (.int x0 :: st) μ = m_G 27 2 [v0, v1, .int x0, v3] st μ := g_istore_n (i := 2) (by decide +kernel) (Nat.le_of_ble_eq_true rfl) rfl
theorem i27_2 : m_G 27 2 L st μ = m_G 27 3 L (.int 0 :: st) μ := g_iconst (n := 0) (by decide +kernel) (by decide)
theorem i27_3 : m_G 27 3 [v0, v1, v2, v3] (.int x0 :: st) μ = m_G 27 4 [v0, v1, v2, .int x0] st μ := g_istore_n (i := 3) (by decide +kernel) (Nat.le_of_ble_eq_true rfl) rfl
theorem i27_4 : m_G 27 4 [v0, v1, v2, .int x0] st μ = m_G 27 5 [v0, v1, v2, .int x0] (.int x0 :: st) μ := g_iload_n (i := 3) (by decide +kernel) rfl
theorem i27_5 : m_G 27 5 [.ref a0, v1, v2, v3] st μ = m_G 27 6 [.ref a0, v1, v2, v3] (.ref a0 :: st) μ := g_aload_n (i := 0) (by decide +kernel) rfl
theorem i27_6 : m_G 27 6 L (.ref a0 :: st) μ = b_v (m_gf μ a0 3 0) 27 9 L st μ := g_getf (i := 24) (by decide +kernel) (by decide +kernel)
theorem i27_9 : m_G 27 9 L (.int x1 :: .int x0 :: st) μ = if x0 < x1 then m_G 27 12 L st μ else m_G 27 42 L st μ := g_cmpge (off := 33) (by decide +kernel) (by decide)
theorem i27_12 : m_G 27 12 [v0, .int x0, v2, v3] st μ = m_G 27 13 [v0, .int x0, v2, v3] (.int x0 :: st) μ := g_iload_n (i := 1) (by decide +kernel) rfl
theorem i27_13 : m_G 27 13 [.ref a0, v1, v2, v3] st μ = m_G 27 14 [.ref a0, v1, v2, v3] (.ref a0 :: st) μ := g_aload_n (i := 0) (by decide +kernel) rfl
theorem i27_14 : m_G 27 14 L (.ref a0 :: st) μ = b_v (m_gf μ a0 3 9) 27 17 L st μ := g_getf (i := 59) (by decide +kernel) (by decide +kernel)
theorem i27_17 : m_G 27 17 L (.int x1 :: .int x0 :: st) μ = m_G 27 18 L (.int (x0 &&& x1) :: st) μ := g_iand (by decide +kernel)
theorem i27_18 : m_G 27 18 [v0, v1, v2, .int x0] st μ = m_G 27 19 [v0, v1, v2, .int x0] (.int x0 :: st) μ := g_iload_n (i := 3) (by decide +kernel) rfl
theorem i27_19 : m_G 27 19 L (.int x1 :: .int x0 :: []) μ = b_c (m_D 96 [.int x0, .int x1] μ) 27 22 L [] := g_stat (i := 68) (n := 2) (by decide +kernel) (by decide +kernel) (by decide) (x_call_ok (ws := [1, 1]) (Nat.le_of_ble_eq_true rfl) rfl (by decide +kernel) rfl (by decide +kernel) rfl rfl)
theorem i27_22 : m_G 27 22 L (.int x0 :: st) μ = if x0 = 0 then m_G 27 36 L st μ else m_G 27 25 L st μ := g_ifeq (off := 14) (by decide +kernel) (by decide)
theorem i27_25 : m_G 27 25 [v0, v1, .int x0, v3] st μ = m_G 27 26 [v0, v1, .int x0, v3] (.int x0 :: st) μ := g_iload_n (i := 2) (by decide +kernel) rfl
theorem i27_26 : m_G 27 26 L st μ = m_G 27 27 L (.int 1 :: st) μ := g_iconst (n := 1) (by decide +kernel) (by decide)
theorem i27_27 : m_G 27 27 [.ref a0, v1, v2, v3] st μ = m_G 27 28 [.ref a0, v1, v2, v3] (.ref a0 :: st) μ := g_aload_n (i := 0) (by decide +kernel) rfl
theorem i27_28 : m_G 27 28 L (.ref a0 :: st) μ = b_v (m_gf μ a0 3 7) 27 31 L st μ := g_getf (i := 52) (by decide +kernel) (by decide +kernel)
theorem i27_31 : m_G 27 31 [v0, v1, v2, .int x0] st μ = m_G 27 32 [v0, v1, v2, .int x0] (.int x0 :: st) μ := g_iload_n (i := 3) (by decide +kernel) rfl
theorem i27_32 : m_G 27 32 L (.int x0 :: .ref a0 :: st) μ = b_i (m_ga μ a0 x0) 27 33 L st μ := g_iald (by decide +kernel)
theorem i27_33 : m_G 27 33 L (.int x1 :: .int x0 :: st) μ = m_G 27 34 L (.int (x0 <<< (x1 &&& 31)) :: st) μ := g_ishl (by decide +kernel)
theorem i27_34 : m_G 27 34 L (.int x1 :: .int x0 :: st) μ = m_G 27 35 L (.int (x0 ||| x1) :: st) μ := g_ior (by decide +kernel)
theorem i27_35 : m_G 27 35 [v0, v1, v2, v3] (.int x0 :: st) μ = m_G 27 36 [v0, v1, .int x0, v3] st μ := g_istore_n (i := 2) (by decide +kernel) (Nat.le_of_ble_eq_true rfl) rfl
theorem i27_36 : m_G 27 36 [v0, v1, v2, .int x0] st μ = m_G 27 39 [v0, v1, v2, .int (x0 + 1)] st μ := g_iinc (i := 3) (n := 1) (by decide +kernel) rfl (by decide) rfl
theorem i27_39 : m_G 27 39 L st μ = m_G 27 4 L st μ := g_goto (off := -35) (by decide +kernel) (by decide)
theorem i27_42 : m_G 27 42 [v0, v1, .int x0, v3] st μ = m_G 27 43 [v0, v1, .int x0, v3] (.int x0 :: st) μ := g_iload_n (i := 2) (by decide +kernel) rfl
theorem i27_43 : m_G 27 43 L [.int x0] μ = some (some (.int x0), μ) := g_ireti (by decide +kernel) (by decide)
theorem D27 : m_D 27 [.ref a0, .int x0] μ = m_G 27 0 [.ref a0, .int x0, m_d, m_d] [] μ := d_def (by decide) rfl
theorem i28_0 : m_G 28 0 L st μ = m_G 28 1 L (.int 0 :: st) μ := g_iconst (n := 0) (by decide +kernel) (by decide)
theorem i28_1 : m_G 28 1 [v0, v1, v2, v3] (.int x0 :: st) μ = m_G 28 2 [v0, v1, v2, .int x0] st μ := g_istore_n (i := 3) (by decide +kernel) (Nat.le_of_ble_eq_true rfl) rfl
theorem i28_2 : m_G 28 2 [v0, v1, v2, .int x0] st μ = m_G 28 3 [v0, v1, v2, .int x0] (.int x0 :: st) μ := g_iload_n (i := 3) (by decide +kernel) rfl
theorem i28_3 : m_G 28 3 [.ref a0, v1, v2, v3] st μ = m_G 28 4 [.ref a0, v1, v2, v3] (.ref a0 :: st) μ := g_aload_n (i := 0) (by decide +kernel) rfl
theorem i28_4 : m_G 28 4 L (.ref a0 :: st) μ = b_v (m_gf μ a0 3 0) 28 7 L st μ := g_getf (i := 24) (by decide +kernel) (by decide +kernel)
theorem i28_7 : m_G 28 7 L (.int x1 :: .int x0 :: st) μ = if x0 < x1 then m_G 28 10 L st μ else m_G 28 41 L st μ := g_cmpge (off := 34) (by decide +kernel) (by decide)
theorem i28_10 : m_G 28 10 [v0, .int x0, v2, v3] st μ = m_G 28 11 [v0, .int x0, v2, v3] (.int x0 :: st) μ := g_iload_n (i := 1) (by decide +kernel) rfl
theorem i28_11 : m_G 28 11 [.ref a0, v1, v2, v3] st μ = m_G 28 12 [.ref a0, v1, v2, v3] (.ref a0 :: st) μ := g_aload_n (i := 0) (by decide +kernel) rfl
theorem i28_12 : m_G 28 12 L (.ref a0 :: st) μ = b_v (m_gf μ a0 3 9) 28 15 L st μ := g_getf (i := 59) (by decide +kernel) (by decide +kernel)
theorem i28_15 : m_G 28 15 L (.int x1 :: .int x0 :: st) μ = m_G 28 16 L (.int (x0 &&& x1) :: st) μ := g_iand (by decide +kernel)
theorem i28_16 : m_G 28 16 [v0, v1, v2, .int x0] st μ = m_G 28 17 [v0, v1, v2, .int x0] (.int x0 :: st) μ := g_iload_n (i := 3) (by decide +kernel) rfl
theorem i28_17 : m_G 28 17 L (.int x1 :: .int x0 :: []) μ = b_c (m_D 96 [.int x0, .int x1] μ) 28 20 L [] := g_stat (i := 68) (n := 2) (by decide +kernel) (by decide +kernel) (by decide) (x_call_ok (ws := [1, 1]) (Nat.le_of_ble_eq_true rfl) rfl (by decide +kernel) rfl (by decide +kernel) rfl rfl)
theorem i28_20 : m_G 28 20 L (.int x0 :: st) μ = if x0 = 0 then m_G 28 35 L st μ else m_G 28 23 L st μ := g_ifeq (off := 15) (by decide +kernel) (by decide)
theorem i28_23 : m_G 28 23 [.ref a0, v1, v2, v3] st μ = m_G 28 24 [.ref a0, v1, v2, v3] (.ref a0 :: st) μ := g_aload_n (i := 0) (by decide +kernel) rfl
theorem i28_24 : m_G 28 24 L (.ref a0 :: st) μ = b_v (m_gf μ a0 3 2) 28 27 L st μ := g_getf (i := 38) (by decide +kernel) (by decide +kernel)
theorem i28_27 : m_G 28 27 [v0, v1, v2, .int x0] st μ = m_G 28 28 [v0, v1, v2, .int x0] (.int x0 :: st) μ := g_iload_n (i := 3) (by decide +kernel) rfl
theorem i28_28 : m_G 28 28 L (.int x0 :: .ref a0 :: st) μ = b_i (m_ga μ a0 x0) 28 29 L st μ := g_iald (by decide +kernel)
theorem i28_29 : m_G 28 29 [v0, v1, .int x0, v3] st μ = m_G 28 30 [v0, v1, .int x0, v3] (.int x0 :: st) μ := g_iload_n (i := 2) (by decide +kernel) rfl
theorem i28_30 : m_G 28 30 L (.int x1 :: .int x0 :: st) μ = if x0 = x1 then m_G 28 33 L st μ else m_G 28 35 L st μ := g_cmpne (off := 5) (by decide +kernel) (by decide)
theorem i28_33 : m_G 28 33 L st μ = m_G 28 34 L (.int 1 :: st) μ := g_iconst (n := 1) (by decide +kernel) (by decide)
theorem i28_34 (h : x0 &&& 1 = x0) : m_G 28 34 L [.int x0] μ = some (some (.int x0), μ) := g_iretz (by decide +kernel) (by decide) h
theorem i28_35 : m_G 28 35 [v0, v1, v2, .int x0] st μ = m_G 28 38 [v0, v1, v2, .int (x0 + 1)] st μ := g_iinc (i := 3) (n := 1) (by decide +kernel) rfl (by decide) rfl
theorem i28_38 : m_G 28 38 L st μ = m_G 28 2 L st μ := g_goto (off := -36) (by decide +kernel) (by decide)
theorem i28_41 : m_G 28 41 L st μ = m_G 28 42 L (.int 0 :: st) μ := g_iconst (n := 0) (by decide +kernel) (by decide)
theorem i28_42 (h : x0 &&& 1 = x0) : m_G 28 42 L [.int x0] μ = some (some (.int x0), μ) := g_iretz (by decide +kernel) (by decide) h
theorem D28 : m_D 28 [.ref a0, .int x0, .int x1] μ = m_G 28 0 [.ref a0, .int x0, .int x1, m_d] [] μ := d_def (by decide) rfl
theorem i29_0 : m_G 29 0 L st μ = m_G 29 1 L (.int 0 :: st) μ := g_iconst (n := 0) (by decide +kernel) (by decide)
theorem i29_1 : m_G 29 1 [v0, v1, v2, v3, v4, v5] (.int x0 :: st) μ = m_G 29 3 [v0, v1, v2, v3, .int x0, v5] st μ := g_istore (i := 4) (by decide +kernel) (Nat.le_of_ble_eq_true rfl) rfl
theorem i29_3 : m_G 29 3 L st μ = m_G 29 4 L (.int 0 :: st) μ := g_iconst (n := 0) (by decide +kernel) (by decide)
theorem i29_4 : m_G 29 4 [v0, v1, v2, v3, v4, v5] (.int x0 :: st) μ = m_G 29 6 [v0, v1, v2, v3, v4, .int x0] st μ := g_istore (i := 5) (by decide +kernel) (Nat.le_of_ble_eq_true rfl) rfl
theorem i29_6 : m_G 29 6 [v0, v1, v2, v3, v4, .int x0] st μ = m_G 29 8 [v0, v1, v2, v3, v4, .int x0] (.int x0 :: st) μ := g_iload (i := 5) (by decide +kernel) rfl
theorem i29_8 : m_G 29 8 [.ref a0, v1, v2, v3, v4, v5] st μ = m_G 29 9 [.ref a0, v1, v2, v3, v4, v5] (.ref a0 :: st) μ := g_aload_n (i := 0) (by decide +kernel) rfl
theorem i29_9 : m_G 29 9 L (.ref a0 :: st) μ = b_v (m_gf μ a0 3 0) 29 12 L st μ := g_getf (i := 24) (by decide +kernel) (by decide +kernel)
theorem i29_12 : m_G 29 12 L (.int x1 :: .int x0 :: st) μ = if x0 < x1 then m_G 29 15 L st μ else m_G 29 59 L st μ := g_cmpge (off := 47) (by decide +kernel) (by decide)
theorem i29_15 : m_G 29 15 [v0, .int x0, v2, v3, v4, v5] st μ = m_G 29 16 [v0, .int x0, v2, v3, v4, v5] (.int x0 :: st) μ := g_iload_n (i := 1) (by decide +kernel) rfl
theorem i29_16 : m_G 29 16 [.ref a0, v1, v2, v3, v4, v5] st μ = m_G 29 17 [.ref a0, v1, v2, v3, v4, v5] (.ref a0 :: st) μ := g_aload_n (i := 0) (by decide +kernel) rfl
theorem i29_17 : m_G 29 17 L (.ref a0 :: st) μ = b_v (m_gf μ a0 3 9) 29 20 L st μ := g_getf (i := 59) (by decide +kernel) (by decide +kernel)
theorem i29_20 : m_G 29 20 L (.int x1 :: .int x0 :: st) μ = m_G 29 21 L (.int (x0 &&& x1) :: st) μ := g_iand (by decide +kernel)
theorem i29_21 : m_G 29 21 [v0, v1, v2, v3, v4, .int x0] st μ = m_G 29 23 [v0, v1, v2, v3, v4, .int x0] (.int x0 :: st) μ := g_iload (i := 5) (by decide +kernel) rfl
theorem i29_23 : m_G 29 23 L (.int x1 :: .int x0 :: []) μ = b_c (m_D 96 [.int x0, .int x1] μ) 29 26 L [] := g_stat (i := 68) (n := 2) (by decide +kernel) (by decide +kernel) (by decide) (x_call_ok (ws := [1, 1]) (Nat.le_of_ble_eq_true rfl) rfl (by decide +kernel) rfl (by decide +kernel) rfl rfl)
theorem i29_26 : m_G 29 26 L (.int x0 :: st) μ = if x0 = 0 then m_G 29 53 L st μ else m_G 29 29 L st μ := g_ifeq (off := 27) (by decide +kernel) (by decide)
theorem i29_29 : m_G 29 29 [v0, v1, .ref a0, v3, v4, v5] st μ = m_G 29 30 [v0, v1, .ref a0, v3, v4, v5] (.ref a0 :: st) μ := g_aload_n (i := 2) (by decide +kernel) rfl
theorem i29_30 : m_G 29 30 [v0, v1, v2, .int x0, v4, v5] st μ = m_G 29 31 [v0, v1, v2, .int x0, v4, v5] (.int x0 :: st) μ := g_iload_n (i := 3) (by decide +kernel) rfl
theorem i29_31 : m_G 29 31 [.ref a0, v1, v2, v3, v4, v5] st μ = m_G 29 32 [.ref a0, v1, v2, v3, v4, v5] (.ref a0 :: st) μ := g_aload_n (i := 0) (by decide +kernel) rfl
theorem i29_32 : m_G 29 32 L (.ref a0 :: st) μ = b_v (m_gf μ a0 3 2) 29 35 L st μ := g_getf (i := 38) (by decide +kernel) (by decide +kernel)
theorem i29_35 : m_G 29 35 [v0, v1, v2, v3, v4, .int x0] st μ = m_G 29 37 [v0, v1, v2, v3, v4, .int x0] (.int x0 :: st) μ := g_iload (i := 5) (by decide +kernel) rfl
theorem i29_37 : m_G 29 37 L (.int x0 :: .ref a0 :: st) μ = b_i (m_ga μ a0 x0) 29 38 L st μ := g_iald (by decide +kernel)
theorem i29_38 (ho : m_oc μ a0 = some 3) : m_G 29 38 L (.int x1 :: .int x0 :: .ref a0 :: []) μ = b_c (m_D 28 [.ref a0, .int x0, .int x1] μ) 29 41 L [] := g_virt (i := 98) (n := 2) (a := a0) (c := 3) (l := [(3, 28)]) (by decide +kernel) (by decide +kernel) rfl rfl (x_call_ok (ws := [1, 1, 1]) (Nat.le_of_ble_eq_true rfl) rfl (by decide +kernel) rfl (by decide +kernel) rfl rfl) ho
theorem i29_41 : m_G 29 41 L (.int x0 :: st) μ = if x0 = 0 then m_G 29 53 L st μ else m_G 29 44 L st μ := g_ifeq (off := 12) (by decide +kernel) (by decide)
theorem i29_44 : m_G 29 44 [v0, v1, v2, v3, .int x0, v5] st μ = m_G 29 46 [v0, v1, v2, v3, .int x0, v5] (.int x0 :: st) μ := g_iload (i := 4) (by decide +kernel) rfl
theorem i29_46 : m_G 29 46 L st μ = m_G 29 47 L (.int 1 :: st) μ := g_iconst (n := 1) (by decide +kernel) (by decide)
theorem i29_47 : m_G 29 47 [v0, v1, v2, v3, v4, .int x0] st μ = m_G 29 49 [v0, v1, v2, v3, v4, .int x0] (.int x0 :: st) μ := g_iload (i := 5) (by decide +kernel) rfl
theorem i29_49 : m_G 29 49 L (.int x1 :: .int x0 :: st) μ = m_G 29 50 L (.int (x0 <<< (x1 &&& 31)) :: st) μ := g_ishl (by decide +kernel)
theorem i29_50 : m_G 29 50 L (.int x1 :: .int x0 :: st) μ = m_G 29 51 L (.int (x0 ||| x1) :: st) μ := g_ior (by decide +kernel)
theorem i29_51 : m_G 29 51 [v0, v1, v2, v3, v4, v5] (.int x0 :: st) μ = m_G 29 53 [v0, v1, v2, v3, .int x0, v5] st μ := g_istore (i := 4) (by decide +kernel) (Nat.le_of_ble_eq_true rfl) rfl
theorem i29_53 : m_G 29 53 [v0, v1, v2, v3, v4, .int x0] st μ = m_G 29 56 [v0, v1, v2, v3, v4, .int (x0 + 1)] st μ := g_iinc (i := 5) (n := 1) (by decide +kernel) rfl (by decide) rfl
theorem i29_56 : m_G 29 56 L st μ = m_G 29 6 L st μ := g_goto (off := -50) (by decide +kernel) (by decide)
theorem i29_59 : m_G 29 59 [v0, v1, v2, v3, .int x0, v5] st μ = m_G 29 61 [v0, v1, v2, v3, .int x0, v5] (.int x0 :: st) μ := g_iload (i := 4) (by decide +kernel) rfl
theorem i29_61 : m_G 29 61 L [.int x0] μ = some (some (.int x0), μ) := g_ireti (by decide +kernel) (by decide)
theorem D29 : m_D 29 [.ref a0, .int x0, .ref a2, .int x2] μ = m_G 29 0 [.ref a0, .int x0, .ref a2, .int x2, m_d, m_d] [] μ := d_def (by decide) rfl
theorem i30_0 : m_G 30 0 [.ref a0] st μ = m_G 30 1 [.ref a0] (.ref a0 :: st) μ := g_aload_n (i := 0) (by decide +kernel) rfl
theorem i30_1 : m_G 30 1 L (.ref a0 :: []) μ = b_c (m_D 44 [.ref a0] μ) 30 4 L [] := g_spec (i := 3) (n := 0) (a := a0) (by decide +kernel) (by decide +kernel) rfl (x_call_ok (ws := [1]) (Nat.le_of_ble_eq_true rfl) rfl (by decide +kernel) rfl (by decide +kernel) rfl rfl)
theorem i30_4 : m_G 30 4 [.ref a0] st μ = m_G 30 5 [.ref a0] (.ref a0 :: st) μ := g_aload_n (i := 0) (by decide +kernel) rfl
theorem i30_5 : m_G 30 5 L st μ = m_G 30 7 L (.int 24 :: st) μ := g_bipush (n := 24) (by decide +kernel) (by decide)
theorem i30_7 : m_G 30 7 L (.int x0 :: st) μ = if x_nok x0 = true then m_G 30 9 L (.ref (mN μ) :: st) (m_new μ x0.toNatClampNeg (m_ia 0 x0.toNatClampNeg (fun _ => 0))) else none := g_newa (t := .int) (by decide +kernel) rfl
theorem i30_9 : m_G 30 9 L (w0 :: .ref a0 :: st) μ = b_m (m_pf μ a0 4 0 (.array .int) w0) 30 12 L st := g_putf (i := 9) (by decide +kernel) (by decide +kernel) (Or.inr ⟨by decide, by decide⟩) (by decide)
theorem i30_12 : m_G 30 12 [.ref a0] st μ = m_G 30 13 [.ref a0] (.ref a0 :: st) μ := g_aload_n (i := 0) (by decide +kernel) rfl
theorem i30_13 : m_G 30 13 L st μ = m_G 30 15 L (.int 24 :: st) μ := g_bipush (n := 24) (by decide +kernel) (by decide)
theorem i30_15 : m_G 30 15 L (.int x0 :: st) μ = if x_nok x0 = true then m_G 30 17 L (.ref (mN μ) :: st) (m_new μ x0.toNatClampNeg (m_ia 0 x0.toNatClampNeg (fun _ => 0))) else none := g_newa (t := .int) (by decide +kernel) rfl
theorem i30_17 : m_G 30 17 L (w0 :: .ref a0 :: st) μ = b_m (m_pf μ a0 4 1 (.array .int) w0) 30 20 L st := g_putf (i := 15) (by decide +kernel) (by decide +kernel) (Or.inr ⟨by decide, by decide⟩) (by decide)
theorem i30_20 : m_G 30 20 [.ref a0] st μ = m_G 30 21 [.ref a0] (.ref a0 :: st) μ := g_aload_n (i := 0) (by decide +kernel) rfl
theorem i30_21 : m_G 30 21 L st μ = m_G 30 23 L (.int 24 :: st) μ := g_bipush (n := 24) (by decide +kernel) (by decide)
theorem i30_23 : m_G 30 23 L (.int x0 :: st) μ = if x_nok x0 = true then m_G 30 25 L (.ref (mN μ) :: st) (m_new μ x0.toNatClampNeg (m_ia 0 x0.toNatClampNeg (fun _ => 0))) else none := g_newa (t := .int) (by decide +kernel) rfl
theorem i30_25 : m_G 30 25 L (w0 :: .ref a0 :: st) μ = b_m (m_pf μ a0 4 2 (.array .int) w0) 30 28 L st := g_putf (i := 18) (by decide +kernel) (by decide +kernel) (Or.inr ⟨by decide, by decide⟩) (by decide)
theorem i30_28 : m_G 30 28 L [] μ = some (none, μ) := g_ret (by decide +kernel) (by decide)
theorem D30 : m_D 30 [.ref a0] μ = m_G 30 0 [.ref a0] [] μ := d_def (by decide) rfl
theorem i31_0 : m_G 31 0 [.ref a0] st μ = m_G 31 1 [.ref a0] (.ref a0 :: st) μ := g_aload_n (i := 0) (by decide +kernel) rfl
theorem i31_1 : m_G 31 1 L st μ = m_G 31 2 L (.int 0 :: st) μ := g_iconst (n := 0) (by decide +kernel) (by decide)
theorem i31_2 : m_G 31 2 L (w0 :: .ref a0 :: st) μ = b_m (m_pf μ a0 4 3 .int w0) 31 5 L st := g_putf (i := 21) (by decide +kernel) (by decide +kernel) (Or.inl (by decide)) (by decide)
theorem i31_5 : m_G 31 5 [.ref a0] st μ = m_G 31 6 [.ref a0] (.ref a0 :: st) μ := g_aload_n (i := 0) (by decide +kernel) rfl
theorem i31_6 : m_G 31 6 L st μ = m_G 31 7 L (.int (-1) :: st) μ := g_iconst (n := -1) (by decide +kernel) (by decide)
theorem i31_7 : m_G 31 7 L (w0 :: .ref a0 :: st) μ = b_m (m_pf μ a0 4 4 .int w0) 31 10 L st := g_putf (i := 25) (by decide +kernel) (by decide +kernel) (Or.inl (by decide)) (by decide)
theorem i31_10 : m_G 31 10 [.ref a0] st μ = m_G 31 11 [.ref a0] (.ref a0 :: st) μ := g_aload_n (i := 0) (by decide +kernel) rfl
theorem i31_11 : m_G 31 11 L st μ = m_G 31 12 L (.int 0 :: st) μ := g_iconst (n := 0) (by decide +kernel) (by decide)
theorem i31_12 : m_G 31 12 L (w0 :: .ref a0 :: st) μ = b_m (m_pf μ a0 4 5 .int w0) 31 15 L st := g_putf (i := 28) (by decide +kernel) (by decide +kernel) (Or.inl (by decide)) (by decide)
theorem i31_15 : m_G 31 15 [.ref a0] st μ = m_G 31 16 [.ref a0] (.ref a0 :: st) μ := g_aload_n (i := 0) (by decide +kernel) rfl
theorem i31_16 : m_G 31 16 L st μ = m_G 31 17 L (.int 0 :: st) μ := g_iconst (n := 0) (by decide +kernel) (by decide)
theorem i31_17 : m_G 31 17 L (w0 :: .ref a0 :: st) μ = b_m (m_pf μ a0 4 6 .boolean w0) 31 20 L st := g_putf (i := 31) (by decide +kernel) (by decide +kernel) (Or.inl (by decide)) (by decide)
theorem i31_20 : m_G 31 20 [.ref a0] st μ = m_G 31 21 [.ref a0] (.ref a0 :: st) μ := g_aload_n (i := 0) (by decide +kernel) rfl
theorem i31_21 : m_G 31 21 L st μ = m_G 31 22 L (.int 0 :: st) μ := g_iconst (n := 0) (by decide +kernel) (by decide)
theorem i31_22 : m_G 31 22 L (w0 :: .ref a0 :: st) μ = b_m (m_pf μ a0 4 7 .boolean w0) 31 25 L st := g_putf (i := 35) (by decide +kernel) (by decide +kernel) (Or.inl (by decide)) (by decide)
theorem i31_25 : m_G 31 25 L [] μ = some (none, μ) := g_ret (by decide +kernel) (by decide)
theorem D31 : m_D 31 [.ref a0] μ = m_G 31 0 [.ref a0] [] μ := d_def (by decide) rfl
theorem i32_0 : m_G 32 0 [.ref a0] st μ = m_G 32 1 [.ref a0] (.ref a0 :: st) μ := g_aload_n (i := 0) (by decide +kernel) rfl
theorem i32_1 : m_G 32 1 L (.ref a0 :: st) μ = b_v (m_gf μ a0 4 3) 32 4 L st μ := g_getf (i := 21) (by decide +kernel) (by decide +kernel)
theorem i32_4 : m_G 32 4 L (.int x0 :: st) μ = if x0 ≤ 0 then m_G 32 19 L st μ else m_G 32 7 L st μ := g_ifle (off := 15) (by decide +kernel) (by decide)
theorem i32_7 : m_G 32 7 [.ref a0] st μ = m_G 32 8 [.ref a0] (.ref a0 :: st) μ := g_aload_n (i := 0) (by decide +kernel) rfl
theorem i32_8 : m_G 32 8 L (.ref a0 :: st) μ = b_v (m_gf μ a0 4 4) 32 11 L st μ := g_getf (i := 25) (by decide +kernel) (by decide +kernel)
theorem i32_11 : m_G 32 11 L st μ = m_G 32 12 L (.int (-1) :: st) μ := g_iconst (n := -1) (by decide +kernel) (by decide)
theorem i32_12 : m_G 32 12 L (.int x1 :: .int x0 :: st) μ = if x0 = x1 then m_G 32 15 L st μ else m_G 32 19 L st μ := g_cmpne (off := 7) (by decide +kernel) (by decide)
theorem i32_15 : m_G 32 15 L st μ = m_G 32 16 L (.int 1 :: st) μ := g_iconst (n := 1) (by decide +kernel) (by decide)
theorem i32_16 : m_G 32 16 L st μ = m_G 32 20 L st μ := g_goto (off := 4) (by decide +kernel) (by decide)
theorem i32_19 : m_G 32 19 L st μ = m_G 32 20 L (.int 0 :: st) μ := g_iconst (n := 0) (by decide +kernel) (by decide)
theorem i32_20 (h : x0 &&& 1 = x0) : m_G 32 20 L [.int x0] μ = some (some (.int x0), μ) := g_iretz (by decide +kernel) (by decide) h
theorem D32 : m_D 32 [.ref a0] μ = m_G 32 0 [.ref a0] [] μ := d_def (by decide) rfl
theorem i33_0 : m_G 33 0 [v0, .int x0] st μ = m_G 33 1 [v0, .int x0] (.int x0 :: st) μ := g_iload_n (i := 1) (by decide +kernel) rfl
theorem i33_1 : m_G 33 1 L (.int x0 :: []) μ = b_c (m_D 45 [.int x0] μ) 33 4 L [] := g_stat (i := 38) (n := 1) (by decide +kernel) (by decide +kernel) (by decide) (x_call_ok (ws := [1]) (Nat.le_of_ble_eq_true rfl) rfl (by decide +kernel) rfl (by decide +kernel) rfl rfl)
theorem i33_4 : m_G 33 4 L (.int x0 :: st) μ = if x0 = 0 then m_G 33 16 L st μ else m_G 33 7 L st μ := g_ifeq (off := 12) (by decide +kernel) (by decide)
theorem i33_7 : m_G 33 7 [.ref a0, v1] st μ = m_G 33 8 [.ref a0, v1] (.ref a0 :: st) μ := g_aload_n (i := 0) (by decide +kernel) rfl
theorem i33_8 : m_G 33 8 [v0, .int x0] st μ = m_G 33 9 [v0, .int x0] (.int x0 :: st) μ := g_iload_n (i := 1) (by decide +kernel) rfl
theorem i33_9 : m_G 33 9 L st μ = m_G 33 11 L (.int 97 :: st) μ := g_bipush (n := 97) (by decide +kernel) (by decide)
theorem i33_11 : m_G 33 11 L (.int x1 :: .int x0 :: st) μ = m_G 33 12 L (.int (x0 - x1) :: st) μ := g_isub (by decide +kernel)
theorem i33_12 (ho : m_oc μ a0 = some 4) : m_G 33 12 L (.int x0 :: .ref a0 :: []) μ = b_c (m_D 34 [.ref a0, .int x0] μ) 33 15 L [] := g_virt (i := 42) (n := 1) (a := a0) (c := 4) (l := [(4, 34)]) (by decide +kernel) (by decide +kernel) rfl rfl (x_call_ok (ws := [1, 1]) (Nat.le_of_ble_eq_true rfl) rfl (by decide +kernel) rfl (by decide +kernel) rfl rfl) ho
theorem i33_15 (h : x0 &&& 1 = x0) : m_G 33 15 L [.int x0] μ = some (some (.int x0), μ) := g_iretz (by decide +kernel) (by decide) h
theorem i33_16 : m_G 33 16 [v0, .int x0] st μ = m_G 33 17 [v0, .int x0] (.int x0 :: st) μ := g_iload_n (i := 1) (by decide +kernel) rfl
theorem i33_17 : m_G 33 17 L (.int x0 :: []) μ = b_c (m_D 46 [.int x0] μ) 33 20 L [] := g_stat (i := 45) (n := 1) (by decide +kernel) (by decide +kernel) (by decide) (x_call_ok (ws := [1]) (Nat.le_of_ble_eq_true rfl) rfl (by decide +kernel) rfl (by decide +kernel) rfl rfl)
theorem i33_20 : m_G 33 20 L (.int x0 :: st) μ = if x0 = 0 then m_G 33 32 L st μ else m_G 33 23 L st μ := g_ifeq (off := 12) (by decide +kernel) (by decide)
theorem i33_23 : m_G 33 23 [.ref a0, v1] st μ = m_G 33 24 [.ref a0, v1] (.ref a0 :: st) μ := g_aload_n (i := 0) (by decide +kernel) rfl
theorem i33_24 : m_G 33 24 [v0, .int x0] st μ = m_G 33 25 [v0, .int x0] (.int x0 :: st) μ := g_iload_n (i := 1) (by decide +kernel) rfl
theorem i33_25 : m_G 33 25 L st μ = m_G 33 27 L (.int 48 :: st) μ := g_bipush (n := 48) (by decide +kernel) (by decide)
theorem i33_27 : m_G 33 27 L (.int x1 :: .int x0 :: st) μ = m_G 33 28 L (.int (x0 - x1) :: st) μ := g_isub (by decide +kernel)
theorem i33_28 (ho : m_oc μ a0 = some 4) : m_G 33 28 L (.int x0 :: .ref a0 :: []) μ = b_c (m_D 36 [.ref a0, .int x0] μ) 33 31 L [] := g_virt (i := 48) (n := 1) (a := a0) (c := 4) (l := [(4, 36)]) (by decide +kernel) (by decide +kernel) rfl rfl (x_call_ok (ws := [1, 1]) (Nat.le_of_ble_eq_true rfl) rfl (by decide +kernel) rfl (by decide +kernel) rfl rfl) ho
theorem i33_31 (h : x0 &&& 1 = x0) : m_G 33 31 L [.int x0] μ = some (some (.int x0), μ) := g_iretz (by decide +kernel) (by decide) h
theorem i33_32 : m_G 33 32 [v0, .int x0] st μ = m_G 33 33 [v0, .int x0] (.int x0 :: st) μ := g_iload_n (i := 1) (by decide +kernel) rfl
theorem i33_33 : m_G 33 33 L st μ = m_G 33 35 L (.int 40 :: st) μ := g_bipush (n := 40) (by decide +kernel) (by decide)
theorem i33_35 : m_G 33 35 L (.int x1 :: .int x0 :: st) μ = if x0 = x1 then m_G 33 38 L st μ else m_G 33 43 L st μ := g_cmpne (off := 8) (by decide +kernel) (by decide)
theorem i33_38 : m_G 33 38 [.ref a0, v1] st μ = m_G 33 39 [.ref a0, v1] (.ref a0 :: st) μ := g_aload_n (i := 0) (by decide +kernel) rfl
theorem i33_39 (ho : m_oc μ a0 = some 4) : m_G 33 39 L (.ref a0 :: []) μ = b_c (m_D 37 [.ref a0] μ) 33 42 L [] := g_virt (i := 51) (n := 0) (a := a0) (c := 4) (l := [(4, 37)]) (by decide +kernel) (by decide +kernel) rfl rfl (x_call_ok (ws := [1]) (Nat.le_of_ble_eq_true rfl) rfl (by decide +kernel) rfl (by decide +kernel) rfl rfl) ho
theorem i33_42 (h : x0 &&& 1 = x0) : m_G 33 42 L [.int x0] μ = some (some (.int x0), μ) := g_iretz (by decide +kernel) (by decide) h
theorem i33_43 : m_G 33 43 [v0, .int x0] st μ = m_G 33 44 [v0, .int x0] (.int x0 :: st) μ := g_iload_n (i := 1) (by decide +kernel) rfl
theorem i33_44 : m_G 33 44 L st μ = m_G 33 46 L (.int 41 :: st) μ := g_bipush (n := 41) (by decide +kernel) (by decide)
theorem i33_46 : m_G 33 46 L (.int x1 :: .int x0 :: st) μ = if x0 = x1 then m_G 33 49 L st μ else m_G 33 60 L st μ := g_cmpne (off := 14) (by decide +kernel) (by decide)
theorem i33_49 : m_G 33 49 [.ref a0, v1] st μ = m_G 33 50 [.ref a0, v1] (.ref a0 :: st) μ := g_aload_n (i := 0) (by decide +kernel) rfl
theorem i33_50 (ho : m_oc μ a0 = some 4) : m_G 33 50 L (.ref a0 :: []) μ = b_c (m_D 38 [.ref a0] μ) 33 53 L [] := g_virt (i := 55) (n := 0) (a := a0) (c := 4) (l := [(4, 38)]) (by decide +kernel) (by decide +kernel) rfl rfl (x_call_ok (ws := [1]) (Nat.le_of_ble_eq_true rfl) rfl (by decide +kernel) rfl (by decide +kernel) rfl rfl) ho
theorem i33_53 : m_G 33 53 L (.int x0 :: st) μ = if x0 = 0 then m_G 33 60 L st μ else m_G 33 56 L st μ := g_ifeq (off := 7) (by decide +kernel) (by decide)
theorem i33_56 : m_G 33 56 L st μ = m_G 33 57 L (.int 1 :: st) μ := g_iconst (n := 1) (by decide +kernel) (by decide)
theorem i33_57 : m_G 33 57 L st μ = m_G 33 61 L st μ := g_goto (off := 4) (by decide +kernel) (by decide)
theorem i33_60 : m_G 33 60 L st μ = m_G 33 61 L (.int 0 :: st) μ := g_iconst (n := 0) (by decide +kernel) (by decide)
theorem i33_61 (h : x0 &&& 1 = x0) : m_G 33 61 L [.int x0] μ = some (some (.int x0), μ) := g_iretz (by decide +kernel) (by decide) h
theorem D33 : m_D 33 [.ref a0, .int x0] μ = m_G 33 0 [.ref a0, .int x0] [] μ := d_def (by decide) rfl
theorem i34_0 : m_G 34 0 [.ref a0, v1] st μ = m_G 34 1 [.ref a0, v1] (.ref a0 :: st) μ := g_aload_n (i := 0) (by decide +kernel) rfl
theorem i34_1 : m_G 34 1 L (.ref a0 :: st) μ = b_v (m_gf μ a0 4 3) 34 4 L st μ := g_getf (i := 21) (by decide +kernel) (by decide +kernel)
theorem i34_4 : m_G 34 4 L st μ = m_G 34 6 L (.int 24 :: st) μ := g_bipush (n := 24) (by decide +kernel) (by decide)
theorem i34_6 : m_G 34 6 L (.int x1 :: .int x0 :: st) μ = if x0 < x1 then m_G 34 9 L st μ else m_G 34 24 L st μ := g_cmpge (off := 18) (by decide +kernel) (by decide)
theorem i34_9 : m_G 34 9 [.ref a0, v1] st μ = m_G 34 10 [.ref a0, v1] (.ref a0 :: st) μ := g_aload_n (i := 0) (by decide +kernel) rfl
theorem i34_10 : m_G 34 10 L (.ref a0 :: st) μ = b_v (m_gf μ a0 4 3) 34 13 L st μ := g_getf (i := 21) (by decide +kernel) (by decide +kernel)
theorem i34_13 : m_G 34 13 L (.int x0 :: st) μ = if x0 ≤ 0 then m_G 34 26 L st μ else m_G 34 16 L st μ := g_ifle (off := 13) (by decide +kernel) (by decide)
theorem i34_16 : m_G 34 16 [.ref a0, v1] st μ = m_G 34 17 [.ref a0, v1] (.ref a0 :: st) μ := g_aload_n (i := 0) (by decide +kernel) rfl
theorem i34_17 : m_G 34 17 L (.ref a0 :: st) μ = b_v (m_gf μ a0 4 4) 34 20 L st μ := g_getf (i := 25) (by decide +kernel) (by decide +kernel)
theorem i34_20 : m_G 34 20 L st μ = m_G 34 21 L (.int (-1) :: st) μ := g_iconst (n := -1) (by decide +kernel) (by decide)
theorem i34_21 : m_G 34 21 L (.int x1 :: .int x0 :: st) μ = if x0 = x1 then m_G 34 24 L st μ else m_G 34 26 L st μ := g_cmpne (off := 5) (by decide +kernel) (by decide)
theorem i34_24 : m_G 34 24 L st μ = m_G 34 25 L (.int 0 :: st) μ := g_iconst (n := 0) (by decide +kernel) (by decide)
theorem i34_25 (h : x0 &&& 1 = x0) : m_G 34 25 L [.int x0] μ = some (some (.int x0), μ) := g_iretz (by decide +kernel) (by decide) h
theorem i34_26 : m_G 34 26 [.ref a0, v1] st μ = m_G 34 27 [.ref a0, v1] (.ref a0 :: st) μ := g_aload_n (i := 0) (by decide +kernel) rfl
theorem i34_27 : m_G 34 27 L (.ref a0 :: st) μ = b_v (m_gf μ a0 4 0) 34 30 L st μ := g_getf (i := 9) (by decide +kernel) (by decide +kernel)
theorem i34_30 : m_G 34 30 [.ref a0, v1] st μ = m_G 34 31 [.ref a0, v1] (.ref a0 :: st) μ := g_aload_n (i := 0) (by decide +kernel) rfl
theorem i34_31 : m_G 34 31 L (.ref a0 :: st) μ = b_v (m_gf μ a0 4 3) 34 34 L st μ := g_getf (i := 21) (by decide +kernel) (by decide +kernel)
theorem i34_34 : m_G 34 34 [v0, .int x0] st μ = m_G 34 35 [v0, .int x0] (.int x0 :: st) μ := g_iload_n (i := 1) (by decide +kernel) rfl
theorem i34_35 : m_G 34 35 L (.int x1 :: .int x0 :: .ref a0 :: st) μ = b_m (m_pa μ a0 x0 x1) 34 36 L st := g_iast (by decide +kernel)
theorem i34_36 : m_G 34 36 [.ref a0, v1] st μ = m_G 34 37 [.ref a0, v1] (.ref a0 :: st) μ := g_aload_n (i := 0) (by decide +kernel) rfl
theorem i34_37 : m_G 34 37 L (.ref a0 :: st) μ = b_v (m_gf μ a0 4 1) 34 40 L st μ := g_getf (i := 15) (by decide +kernel) (by decide +kernel)
theorem i34_40 : m_G 34 40 [.ref a0, v1] st μ = m_G 34 41 [.ref a0, v1] (.ref a0 :: st) μ := g_aload_n (i := 0) (by decide +kernel) rfl
theorem i34_41 : m_G 34 41 L (.ref a0 :: st) μ = b_v (m_gf μ a0 4 3) 34 44 L st μ := g_getf (i := 21) (by decide +kernel) (by decide +kernel)
theorem i34_44 : m_G 34 44 L st μ = m_G 34 45 L (.int (-1) :: st) μ := g_iconst (n := -1) (by decide +kernel) (by decide)
theorem i34_45 : m_G 34 45 L (.int x1 :: .int x0 :: .ref a0 :: st) μ = b_m (m_pa μ a0 x0 x1) 34 46 L st := g_iast (by decide +kernel)
theorem i34_46 : m_G 34 46 [.ref a0, v1] st μ = m_G 34 47 [.ref a0, v1] (.ref a0 :: st) μ := g_aload_n (i := 0) (by decide +kernel) rfl
theorem i34_47 : m_G 34 47 L (.ref a0 :: st) μ = b_v (m_gf μ a0 4 2) 34 50 L st μ := g_getf (i := 18) (by decide +kernel) (by decide +kernel)
theorem i34_50 : m_G 34 50 [.ref a0, v1] st μ = m_G 34 51 [.ref a0, v1] (.ref a0 :: st) μ := g_aload_n (i := 0) (by decide +kernel) rfl
theorem i34_51 : m_G 34 51 L (.ref a0 :: st) μ = b_v (m_gf μ a0 4 3) 34 54 L st μ := g_getf (i := 21) (by decide +kernel) (by decide +kernel)
theorem i34_54 : m_G 34 54 [.ref a0, v1] st μ = m_G 34 55 [.ref a0, v1] (.ref a0 :: st) μ := g_aload_n (i := 0) (by decide +kernel) rfl
theorem i34_55 : m_G 34 55 L (.ref a0 :: st) μ = b_v (m_gf μ a0 4 4) 34 58 L st μ := g_getf (i := 25) (by decide +kernel) (by decide +kernel)
theorem i34_58 : m_G 34 58 L (.int x1 :: .int x0 :: .ref a0 :: st) μ = b_m (m_pa μ a0 x0 x1) 34 59 L st := g_iast (by decide +kernel)
theorem i34_59 : m_G 34 59 [.ref a0, v1] st μ = m_G 34 60 [.ref a0, v1] (.ref a0 :: st) μ := g_aload_n (i := 0) (by decide +kernel) rfl
theorem i34_60 : m_G 34 60 L (.ref a0 :: st) μ = m_G 34 61 L (.ref a0 :: .ref a0 :: st) μ := g_dupr (by decide +kernel)
theorem i34_60I : m_G 34 60 L (.int x0 :: st) μ = m_G 34 61 L (.int x0 :: .int x0 :: st) μ := g_dupi (by decide +kernel)
theorem i34_61 : m_G 34 61 L (.ref a0 :: st) μ = b_v (m_gf μ a0 4 3) 34 64 L st μ := g_getf (i := 21) (by decide +kernel) (by decide +kernel)
theorem i34_64 : m_G 34 64 L st μ = m_G 34 65 L (.int 1 :: st) μ := g_iconst (n := 1) (by decide +kernel) (by decide)
theorem i34_65 : m_G 34 65 L (.int x1 :: .int x0 :: st) μ = m_G 34 66 L (.int (x0 + x1) :: st) μ := g_iadd (by decide +kernel)
theorem i34_66 : m_G 34 66 L (w0 :: .ref a0 :: st) μ = b_m (m_pf μ a0 4 3 .int w0) 34 69 L st := g_putf (i := 21) (by decide +kernel) (by decide +kernel) (Or.inl (by decide)) (by decide)
theorem i34_69 : m_G 34 69 [.ref a0, v1] st μ = m_G 34 70 [.ref a0, v1] (.ref a0 :: st) μ := g_aload_n (i := 0) (by decide +kernel) rfl
theorem i34_70 : m_G 34 70 L st μ = m_G 34 71 L (.int 0 :: st) μ := g_iconst (n := 0) (by decide +kernel) (by decide)
theorem i34_71 : m_G 34 71 L (w0 :: .ref a0 :: st) μ = b_m (m_pf μ a0 4 5 .int w0) 34 74 L st := g_putf (i := 28) (by decide +kernel) (by decide +kernel) (Or.inl (by decide)) (by decide)
theorem i34_74 : m_G 34 74 [.ref a0, v1] st μ = m_G 34 75 [.ref a0, v1] (.ref a0 :: st) μ := g_aload_n (i := 0) (by decide +kernel) rfl
theorem i34_75 : m_G 34 75 L st μ = m_G 34 76 L (.int 0 :: st) μ := g_iconst (n := 0) (by decide +kernel) (by decide)
theorem i34_76 : m_G 34 76 L (w0 :: .ref a0 :: st) μ = b_m (m_pf μ a0 4 6 .boolean w0) 34 79 L st := g_putf (i := 31) (by decide +kernel) (by decide +kernel) (Or.inl (by decide)) (by decide)
theorem i34_79 : m_G 34 79 [.ref a0, v1] st μ = m_G 34 80 [.ref a0, v1] (.ref a0 :: st) μ := g_aload_n (i := 0) (by decide +kernel) rfl
theorem i34_80 : m_G 34 80 L st μ = m_G 34 81 L (.int 0 :: st) μ := g_iconst (n := 0) (by decide +kernel) (by decide)
theorem i34_81 : m_G 34 81 L (w0 :: .ref a0 :: st) μ = b_m (m_pf μ a0 4 7 .boolean w0) 34 84 L st := g_putf (i := 35) (by decide +kernel) (by decide +kernel) (Or.inl (by decide)) (by decide)
theorem i34_84 : m_G 34 84 L st μ = m_G 34 85 L (.int 1 :: st) μ := g_iconst (n := 1) (by decide +kernel) (by decide)
theorem i34_85 (h : x0 &&& 1 = x0) : m_G 34 85 L [.int x0] μ = some (some (.int x0), μ) := g_iretz (by decide +kernel) (by decide) h
theorem D34 : m_D 34 [.ref a0, .int x0] μ = m_G 34 0 [.ref a0, .int x0] [] μ := d_def (by decide) rfl
theorem i35_0 : m_G 35 0 [.ref a0] st μ = m_G 35 1 [.ref a0] (.ref a0 :: st) μ := g_aload_n (i := 0) (by decide +kernel) rfl
theorem i35_1 : m_G 35 1 L (.ref a0 :: st) μ = b_v (m_gf μ a0 4 3) 35 4 L st μ := g_getf (i := 21) (by decide +kernel) (by decide +kernel)
theorem i35_4 : m_G 35 4 L (.int x0 :: st) μ = if x0 ≤ 0 then m_G 35 25 L st μ else m_G 35 7 L st μ := g_ifle (off := 21) (by decide +kernel) (by decide)
theorem i35_7 : m_G 35 7 [.ref a0] st μ = m_G 35 8 [.ref a0] (.ref a0 :: st) μ := g_aload_n (i := 0) (by decide +kernel) rfl
theorem i35_8 : m_G 35 8 L (.ref a0 :: st) μ = b_v (m_gf μ a0 4 6) 35 11 L st μ := g_getf (i := 31) (by decide +kernel) (by decide +kernel)
theorem i35_11 : m_G 35 11 L (.int x0 :: st) μ = if x0 = 0 then m_G 35 14 L st μ else m_G 35 25 L st μ := g_ifne (off := 14) (by decide +kernel) (by decide)
theorem i35_14 : m_G 35 14 [.ref a0] st μ = m_G 35 15 [.ref a0] (.ref a0 :: st) μ := g_aload_n (i := 0) (by decide +kernel) rfl
theorem i35_15 : m_G 35 15 L (.ref a0 :: st) μ = b_v (m_gf μ a0 4 7) 35 18 L st μ := g_getf (i := 35) (by decide +kernel) (by decide +kernel)
theorem i35_18 : m_G 35 18 L (.int x0 :: st) μ = if x0 = 0 then m_G 35 21 L st μ else m_G 35 25 L st μ := g_ifne (off := 7) (by decide +kernel) (by decide)
theorem i35_21 : m_G 35 21 L st μ = m_G 35 22 L (.int 1 :: st) μ := g_iconst (n := 1) (by decide +kernel) (by decide)
theorem i35_22 : m_G 35 22 L st μ = m_G 35 26 L st μ := g_goto (off := 4) (by decide +kernel) (by decide)
theorem i35_25 : m_G 35 25 L st μ = m_G 35 26 L (.int 0 :: st) μ := g_iconst (n := 0) (by decide +kernel) (by decide)
theorem i35_26 (h : x0 &&& 1 = x0) : m_G 35 26 L [.int x0] μ = some (some (.int x0), μ) := g_iretz (by decide +kernel) (by decide) h
theorem D35 : m_D 35 [.ref a0] μ = m_G 35 0 [.ref a0] [] μ := d_def (by decide) rfl
theorem i36_0 : m_G 36 0 [.ref a0, v1, v2] st μ = m_G 36 1 [.ref a0, v1, v2] (.ref a0 :: st) μ := g_aload_n (i := 0) (by decide +kernel) rfl
theorem i36_1 (ho : m_oc μ a0 = some 4) : m_G 36 1 L (.ref a0 :: []) μ = b_c (m_D 35 [.ref a0] μ) 36 4 L [] := g_virt (i := 58) (n := 0) (a := a0) (c := 4) (l := [(4, 35)]) (by decide +kernel) (by decide +kernel) rfl rfl (x_call_ok (ws := [1]) (Nat.le_of_ble_eq_true rfl) rfl (by decide +kernel) rfl (by decide +kernel) rfl rfl) ho
theorem i36_4 : m_G 36 4 L (.int x0 :: st) μ = if x0 = 0 then m_G 36 15 L st μ else m_G 36 7 L st μ := g_ifeq (off := 11) (by decide +kernel) (by decide)
theorem i36_7 : m_G 36 7 [.ref a0, v1, v2] st μ = m_G 36 8 [.ref a0, v1, v2] (.ref a0 :: st) μ := g_aload_n (i := 0) (by decide +kernel) rfl
theorem i36_8 : m_G 36 8 L (.ref a0 :: st) μ = b_v (m_gf μ a0 4 5) 36 11 L st μ := g_getf (i := 28) (by decide +kernel) (by decide +kernel)
theorem i36_11 : m_G 36 11 L st μ = m_G 36 12 L (.int 2 :: st) μ := g_iconst (n := 2) (by decide +kernel) (by decide)
theorem i36_12 : m_G 36 12 L (.int x1 :: .int x0 :: st) μ = if x0 < x1 then m_G 36 17 L st μ else m_G 36 15 L st μ := g_cmplt (off := 5) (by decide +kernel) (by decide)
theorem i36_15 : m_G 36 15 L st μ = m_G 36 16 L (.int 0 :: st) μ := g_iconst (n := 0) (by decide +kernel) (by decide)
theorem i36_16 (h : x0 &&& 1 = x0) : m_G 36 16 L [.int x0] μ = some (some (.int x0), μ) := g_iretz (by decide +kernel) (by decide) h
theorem i36_17 : m_G 36 17 [.ref a0, v1, v2] st μ = m_G 36 18 [.ref a0, v1, v2] (.ref a0 :: st) μ := g_aload_n (i := 0) (by decide +kernel) rfl
theorem i36_18 : m_G 36 18 L (.ref a0 :: st) μ = b_v (m_gf μ a0 4 3) 36 21 L st μ := g_getf (i := 21) (by decide +kernel) (by decide +kernel)
theorem i36_21 : m_G 36 21 L st μ = m_G 36 22 L (.int 1 :: st) μ := g_iconst (n := 1) (by decide +kernel) (by decide)
theorem i36_22 : m_G 36 22 L (.int x1 :: .int x0 :: st) μ = m_G 36 23 L (.int (x0 - x1) :: st) μ := g_isub (by decide +kernel)
theorem i36_23 : m_G 36 23 [v0, v1, v2] (.int x0 :: st) μ = m_G 36 24 [v0, v1, .int x0] st μ := g_istore_n (i := 2) (by decide +kernel) (Nat.le_of_ble_eq_true rfl) rfl
theorem i36_24 : m_G 36 24 [.ref a0, v1, v2] st μ = m_G 36 25 [.ref a0, v1, v2] (.ref a0 :: st) μ := g_aload_n (i := 0) (by decide +kernel) rfl
theorem i36_25 : m_G 36 25 L (.ref a0 :: st) μ = b_v (m_gf μ a0 4 1) 36 28 L st μ := g_getf (i := 15) (by decide +kernel) (by decide +kernel)
theorem i36_28 : m_G 36 28 [v0, v1, .int x0] st μ = m_G 36 29 [v0, v1, .int x0] (.int x0 :: st) μ := g_iload_n (i := 2) (by decide +kernel) rfl
theorem i36_29 : m_G 36 29 [.ref a0, v1, v2] st μ = m_G 36 30 [.ref a0, v1, v2] (.ref a0 :: st) μ := g_aload_n (i := 0) (by decide +kernel) rfl
theorem i36_30 : m_G 36 30 L (.ref a0 :: st) μ = b_v (m_gf μ a0 4 5) 36 33 L st μ := g_getf (i := 28) (by decide +kernel) (by decide +kernel)
theorem i36_33 : m_G 36 33 L (.int x0 :: st) μ = if x0 = 0 then m_G 36 36 L st μ else m_G 36 40 L st μ := g_ifne (off := 7) (by decide +kernel) (by decide)
theorem i36_36 : m_G 36 36 [v0, .int x0, v2] st μ = m_G 36 37 [v0, .int x0, v2] (.int x0 :: st) μ := g_iload_n (i := 1) (by decide +kernel) rfl
theorem i36_37 : m_G 36 37 L st μ = m_G 36 51 L st μ := g_goto (off := 14) (by decide +kernel) (by decide)
theorem i36_40 : m_G 36 40 [.ref a0, v1, v2] st μ = m_G 36 41 [.ref a0, v1, v2] (.ref a0 :: st) μ := g_aload_n (i := 0) (by decide +kernel) rfl
theorem i36_41 : m_G 36 41 L (.ref a0 :: st) μ = b_v (m_gf μ a0 4 1) 36 44 L st μ := g_getf (i := 15) (by decide +kernel) (by decide +kernel)
theorem i36_44 : m_G 36 44 [v0, v1, .int x0] st μ = m_G 36 45 [v0, v1, .int x0] (.int x0 :: st) μ := g_iload_n (i := 2) (by decide +kernel) rfl
theorem i36_45 : m_G 36 45 L (.int x0 :: .ref a0 :: st) μ = b_i (m_ga μ a0 x0) 36 46 L st μ := g_iald (by decide +kernel)
theorem i36_46 : m_G 36 46 L st μ = m_G 36 48 L (.int 10 :: st) μ := g_bipush (n := 10) (by decide +kernel) (by decide)
theorem i36_48 : m_G 36 48 L (.int x1 :: .int x0 :: st) μ = m_G 36 49 L (.int (x0 * x1) :: st) μ := g_imul (by decide +kernel)
theorem i36_49 : m_G 36 49 [v0, .int x0, v2] st μ = m_G 36 50 [v0, .int x0, v2] (.int x0 :: st) μ := g_iload_n (i := 1) (by decide +kernel) rfl
theorem i36_50 : m_G 36 50 L (.int x1 :: .int x0 :: st) μ = m_G 36 51 L (.int (x0 + x1) :: st) μ := g_iadd (by decide +kernel)
theorem i36_51 : m_G 36 51 L (.int x1 :: .int x0 :: .ref a0 :: st) μ = b_m (m_pa μ a0 x0 x1) 36 52 L st := g_iast (by decide +kernel)
theorem i36_52 : m_G 36 52 [.ref a0, v1, v2] st μ = m_G 36 53 [.ref a0, v1, v2] (.ref a0 :: st) μ := g_aload_n (i := 0) (by decide +kernel) rfl
theorem i36_53 : m_G 36 53 L (.ref a0 :: st) μ = m_G 36 54 L (.ref a0 :: .ref a0 :: st) μ := g_dupr (by decide +kernel)
theorem i36_53I : m_G 36 53 L (.int x0 :: st) μ = m_G 36 54 L (.int x0 :: .int x0 :: st) μ := g_dupi (by decide +kernel)
theorem i36_54 : m_G 36 54 L (.ref a0 :: st) μ = b_v (m_gf μ a0 4 5) 36 57 L st μ := g_getf (i := 28) (by decide +kernel) (by decide +kernel)
theorem i36_57 : m_G 36 57 L st μ = m_G 36 58 L (.int 1 :: st) μ := g_iconst (n := 1) (by decide +kernel) (by decide)
theorem i36_58 : m_G 36 58 L (.int x1 :: .int x0 :: st) μ = m_G 36 59 L (.int (x0 + x1) :: st) μ := g_iadd (by decide +kernel)
theorem i36_59 : m_G 36 59 L (w0 :: .ref a0 :: st) μ = b_m (m_pf μ a0 4 5 .int w0) 36 62 L st := g_putf (i := 28) (by decide +kernel) (by decide +kernel) (Or.inl (by decide)) (by decide)
theorem i36_62 : m_G 36 62 L st μ = m_G 36 63 L (.int 1 :: st) μ := g_iconst (n := 1) (by decide +kernel) (by decide)
theorem i36_63 (h : x0 &&& 1 = x0) : m_G 36 63 L [.int x0] μ = some (some (.int x0), μ) := g_iretz (by decide +kernel) (by decide) h
theorem D36 : m_D 36 [.ref a0, .int x0] μ = m_G 36 0 [.ref a0, .int x0, m_d] [] μ := d_def (by decide) rfl
theorem i37_0 : m_G 37 0 [.ref a0] st μ = m_G 37 1 [.ref a0] (.ref a0 :: st) μ := g_aload_n (i := 0) (by decide +kernel) rfl
theorem i37_1 (ho : m_oc μ a0 = some 4) : m_G 37 1 L (.ref a0 :: []) μ = b_c (m_D 35 [.ref a0] μ) 37 4 L [] := g_virt (i := 58) (n := 0) (a := a0) (c := 4) (l := [(4, 35)]) (by decide +kernel) (by decide +kernel) rfl rfl (x_call_ok (ws := [1]) (Nat.le_of_ble_eq_true rfl) rfl (by decide +kernel) rfl (by decide +kernel) rfl rfl) ho
theorem i37_4 : m_G 37 4 L (.int x0 :: st) μ = if x0 = 0 then m_G 37 16 L st μ else m_G 37 7 L st μ := g_ifeq (off := 12) (by decide +kernel) (by decide)
theorem i37_7 : m_G 37 7 [.ref a0] st μ = m_G 37 8 [.ref a0] (.ref a0 :: st) μ := g_aload_n (i := 0) (by decide +kernel) rfl
theorem i37_8 : m_G 37 8 L (.ref a0 :: st) μ = b_v (m_gf μ a0 4 3) 37 11 L st μ := g_getf (i := 21) (by decide +kernel) (by decide +kernel)
theorem i37_11 : m_G 37 11 L st μ = m_G 37 13 L (.int 24 :: st) μ := g_bipush (n := 24) (by decide +kernel) (by decide)
theorem i37_13 : m_G 37 13 L (.int x1 :: .int x0 :: st) μ = if x0 < x1 then m_G 37 18 L st μ else m_G 37 16 L st μ := g_cmplt (off := 5) (by decide +kernel) (by decide)
theorem i37_16 : m_G 37 16 L st μ = m_G 37 17 L (.int 0 :: st) μ := g_iconst (n := 0) (by decide +kernel) (by decide)
theorem i37_17 (h : x0 &&& 1 = x0) : m_G 37 17 L [.int x0] μ = some (some (.int x0), μ) := g_iretz (by decide +kernel) (by decide) h
theorem i37_18 : m_G 37 18 [.ref a0] st μ = m_G 37 19 [.ref a0] (.ref a0 :: st) μ := g_aload_n (i := 0) (by decide +kernel) rfl
theorem i37_19 : m_G 37 19 [.ref a0] st μ = m_G 37 20 [.ref a0] (.ref a0 :: st) μ := g_aload_n (i := 0) (by decide +kernel) rfl
theorem i37_20 : m_G 37 20 L (.ref a0 :: st) μ = b_v (m_gf μ a0 4 3) 37 23 L st μ := g_getf (i := 21) (by decide +kernel) (by decide +kernel)
theorem i37_23 : m_G 37 23 L st μ = m_G 37 24 L (.int 1 :: st) μ := g_iconst (n := 1) (by decide +kernel) (by decide)
theorem i37_24 : m_G 37 24 L (.int x1 :: .int x0 :: st) μ = m_G 37 25 L (.int (x0 - x1) :: st) μ := g_isub (by decide +kernel)
theorem i37_25 : m_G 37 25 L (w0 :: .ref a0 :: st) μ = b_m (m_pf μ a0 4 4 .int w0) 37 28 L st := g_putf (i := 25) (by decide +kernel) (by decide +kernel) (Or.inl (by decide)) (by decide)
theorem i37_28 : m_G 37 28 [.ref a0] st μ = m_G 37 29 [.ref a0] (.ref a0 :: st) μ := g_aload_n (i := 0) (by decide +kernel) rfl
theorem i37_29 : m_G 37 29 L st μ = m_G 37 30 L (.int 1 :: st) μ := g_iconst (n := 1) (by decide +kernel) (by decide)
theorem i37_30 : m_G 37 30 L (w0 :: .ref a0 :: st) μ = b_m (m_pf μ a0 4 6 .boolean w0) 37 33 L st := g_putf (i := 31) (by decide +kernel) (by decide +kernel) (Or.inl (by decide)) (by decide)
theorem i37_33 : m_G 37 33 L st μ = m_G 37 34 L (.int 1 :: st) μ := g_iconst (n := 1) (by decide +kernel) (by decide)
theorem i37_34 (h : x0 &&& 1 = x0) : m_G 37 34 L [.int x0] μ = some (some (.int x0), μ) := g_iretz (by decide +kernel) (by decide) h
theorem D37 : m_D 37 [.ref a0] μ = m_G 37 0 [.ref a0] [] μ := d_def (by decide) rfl
theorem i38_0 : m_G 38 0 [.ref a0] st μ = m_G 38 1 [.ref a0] (.ref a0 :: st) μ := g_aload_n (i := 0) (by decide +kernel) rfl
theorem i38_1 : m_G 38 1 L (.ref a0 :: st) μ = b_v (m_gf μ a0 4 4) 38 4 L st μ := g_getf (i := 25) (by decide +kernel) (by decide +kernel)
theorem i38_4 : m_G 38 4 L st μ = m_G 38 5 L (.int (-1) :: st) μ := g_iconst (n := -1) (by decide +kernel) (by decide)
theorem i38_5 : m_G 38 5 L (.int x1 :: .int x0 :: st) μ = if x0 = x1 then m_G 38 15 L st μ else m_G 38 8 L st μ := g_cmpeq (off := 10) (by decide +kernel) (by decide)
theorem i38_8 : m_G 38 8 [.ref a0] st μ = m_G 38 9 [.ref a0] (.ref a0 :: st) μ := g_aload_n (i := 0) (by decide +kernel) rfl
theorem i38_9 : m_G 38 9 L (.ref a0 :: st) μ = b_v (m_gf μ a0 4 6) 38 12 L st μ := g_getf (i := 31) (by decide +kernel) (by decide +kernel)
theorem i38_12 : m_G 38 12 L (.int x0 :: st) μ = if x0 = 0 then m_G 38 17 L st μ else m_G 38 15 L st μ := g_ifeq (off := 5) (by decide +kernel) (by decide)
theorem i38_15 : m_G 38 15 L st μ = m_G 38 16 L (.int 0 :: st) μ := g_iconst (n := 0) (by decide +kernel) (by decide)
theorem i38_16 (h : x0 &&& 1 = x0) : m_G 38 16 L [.int x0] μ = some (some (.int x0), μ) := g_iretz (by decide +kernel) (by decide) h
theorem i38_17 : m_G 38 17 [.ref a0] st μ = m_G 38 18 [.ref a0] (.ref a0 :: st) μ := g_aload_n (i := 0) (by decide +kernel) rfl
theorem i38_18 : m_G 38 18 [.ref a0] st μ = m_G 38 19 [.ref a0] (.ref a0 :: st) μ := g_aload_n (i := 0) (by decide +kernel) rfl
theorem i38_19 : m_G 38 19 L (.ref a0 :: st) μ = b_v (m_gf μ a0 4 2) 38 22 L st μ := g_getf (i := 18) (by decide +kernel) (by decide +kernel)
theorem i38_22 : m_G 38 22 [.ref a0] st μ = m_G 38 23 [.ref a0] (.ref a0 :: st) μ := g_aload_n (i := 0) (by decide +kernel) rfl
theorem i38_23 : m_G 38 23 L (.ref a0 :: st) μ = b_v (m_gf μ a0 4 4) 38 26 L st μ := g_getf (i := 25) (by decide +kernel) (by decide +kernel)
theorem i38_26 : m_G 38 26 L (.int x0 :: .ref a0 :: st) μ = b_i (m_ga μ a0 x0) 38 27 L st μ := g_iald (by decide +kernel)
theorem i38_27 : m_G 38 27 L (w0 :: .ref a0 :: st) μ = b_m (m_pf μ a0 4 4 .int w0) 38 30 L st := g_putf (i := 25) (by decide +kernel) (by decide +kernel) (Or.inl (by decide)) (by decide)
theorem i38_30 : m_G 38 30 [.ref a0] st μ = m_G 38 31 [.ref a0] (.ref a0 :: st) μ := g_aload_n (i := 0) (by decide +kernel) rfl
theorem i38_31 : m_G 38 31 L st μ = m_G 38 32 L (.int 1 :: st) μ := g_iconst (n := 1) (by decide +kernel) (by decide)
theorem i38_32 : m_G 38 32 L (w0 :: .ref a0 :: st) μ = b_m (m_pf μ a0 4 7 .boolean w0) 38 35 L st := g_putf (i := 35) (by decide +kernel) (by decide +kernel) (Or.inl (by decide)) (by decide)
theorem i38_35 : m_G 38 35 L st μ = m_G 38 36 L (.int 1 :: st) μ := g_iconst (n := 1) (by decide +kernel) (by decide)
theorem i38_36 (h : x0 &&& 1 = x0) : m_G 38 36 L [.int x0] μ = some (some (.int x0), μ) := g_iretz (by decide +kernel) (by decide) h
theorem D38 : m_D 38 [.ref a0] μ = m_G 38 0 [.ref a0] [] μ := d_def (by decide) rfl
theorem i39_0 : m_G 39 0 [.ref a0] st μ = m_G 39 1 [.ref a0] (.ref a0 :: st) μ := g_aload_n (i := 0) (by decide +kernel) rfl
theorem i39_1 : m_G 39 1 L (.ref a0 :: []) μ = m_G 39 4 L [] μ := g_obj (i := 3) (by decide +kernel) (by decide +kernel) ⟨Nat.le_of_ble_eq_true rfl, by decide, by decide⟩
theorem i39_4 : m_G 39 4 [.ref a0] st μ = m_G 39 5 [.ref a0] (.ref a0 :: st) μ := g_aload_n (i := 0) (by decide +kernel) rfl
theorem i39_5 : m_G 39 5 L st μ = m_G 39 8 L (.int 576 :: st) μ := g_sipush (n := 576) (by decide +kernel) (by decide)
theorem i39_8 : m_G 39 8 L (.int x0 :: st) μ = if x_nok x0 = true then m_G 39 10 L (.ref (mN μ) :: st) (m_new μ x0.toNatClampNeg (m_ia 0 x0.toNatClampNeg (fun _ => 0))) else none := g_newa (t := .int) (by decide +kernel) rfl
theorem i39_10 : m_G 39 10 L (w0 :: .ref a0 :: st) μ = b_m (m_pf μ a0 5 0 (.array .int) w0) 39 13 L st := g_putf (i := 9) (by decide +kernel) (by decide +kernel) (Or.inr ⟨by decide, by decide⟩) (by decide)
theorem i39_13 : m_G 39 13 [.ref a0] st μ = m_G 39 14 [.ref a0] (.ref a0 :: st) μ := g_aload_n (i := 0) (by decide +kernel) rfl
theorem i39_14 : m_G 39 14 L st μ = m_G 39 16 L (.int 25 :: st) μ := g_bipush (n := 25) (by decide +kernel) (by decide)
theorem i39_16 : m_G 39 16 L (.int x0 :: st) μ = if x_nok x0 = true then m_G 39 18 L (.ref (mN μ) :: st) (m_new μ x0.toNatClampNeg (m_ia 0 x0.toNatClampNeg (fun _ => 0))) else none := g_newa (t := .int) (by decide +kernel) rfl
theorem i39_18 : m_G 39 18 L (w0 :: .ref a0 :: st) μ = b_m (m_pf μ a0 5 1 (.array .int) w0) 39 21 L st := g_putf (i := 15) (by decide +kernel) (by decide +kernel) (Or.inr ⟨by decide, by decide⟩) (by decide)
theorem i39_21 : m_G 39 21 L [] μ = some (none, μ) := g_ret (by decide +kernel) (by decide)
theorem D39 : m_D 39 [.ref a0] μ = m_G 39 0 [.ref a0] [] μ := d_def (by decide) rfl
theorem i40_0 : m_G 40 0 [v0, .ref a0, v2, v3, v4] st μ = m_G 40 1 [v0, .ref a0, v2, v3, v4] (.ref a0 :: st) μ := g_aload_n (i := 1) (by decide +kernel) rfl
theorem i40_1 : m_G 40 1 L (.ref a0 :: st) μ = b_v (m_gf μ a0 3 0) 40 4 L st μ := g_getf (i := 18) (by decide +kernel) (by decide +kernel)
theorem i40_4 : m_G 40 4 L st μ = m_G 40 5 L (.int 1 :: st) μ := g_iconst (n := 1) (by decide +kernel) (by decide)
theorem i40_5 : m_G 40 5 L (.int x1 :: .int x0 :: st) μ = m_G 40 6 L (.int (x0 - x1) :: st) μ := g_isub (by decide +kernel)
theorem i40_6 : m_G 40 6 [v0, v1, v2, v3, v4] (.int x0 :: st) μ = m_G 40 7 [v0, v1, v2, .int x0, v4] st μ := g_istore_n (i := 3) (by decide +kernel) (Nat.le_of_ble_eq_true rfl) rfl
theorem i40_7 : m_G 40 7 [v0, v1, v2, .int x0, v4] st μ = m_G 40 8 [v0, v1, v2, .int x0, v4] (.int x0 :: st) μ := g_iload_n (i := 3) (by decide +kernel) rfl
theorem i40_8 : m_G 40 8 L (.int x0 :: st) μ = if x0 < 0 then m_G 40 57 L st μ else m_G 40 11 L st μ := g_iflt (off := 49) (by decide +kernel) (by decide)
theorem i40_11 : m_G 40 11 [v0, v1, .ref a0, v3, v4] st μ = m_G 40 12 [v0, v1, .ref a0, v3, v4] (.ref a0 :: st) μ := g_aload_n (i := 2) (by decide +kernel) rfl
theorem i40_12 : m_G 40 12 L (.ref a0 :: st) μ = b_v (m_gf μ a0 3 0) 40 15 L st μ := g_getf (i := 18) (by decide +kernel) (by decide +kernel)
theorem i40_15 : m_G 40 15 L st μ = m_G 40 16 L (.int 1 :: st) μ := g_iconst (n := 1) (by decide +kernel) (by decide)
theorem i40_16 : m_G 40 16 L (.int x1 :: .int x0 :: st) μ = m_G 40 17 L (.int (x0 - x1) :: st) μ := g_isub (by decide +kernel)
theorem i40_17 : m_G 40 17 [v0, v1, v2, v3, v4] (.int x0 :: st) μ = m_G 40 19 [v0, v1, v2, v3, .int x0] st μ := g_istore (i := 4) (by decide +kernel) (Nat.le_of_ble_eq_true rfl) rfl
theorem i40_19 : m_G 40 19 [v0, v1, v2, v3, .int x0] st μ = m_G 40 21 [v0, v1, v2, v3, .int x0] (.int x0 :: st) μ := g_iload (i := 4) (by decide +kernel) rfl
theorem i40_21 : m_G 40 21 L (.int x0 :: st) μ = if x0 < 0 then m_G 40 51 L st μ else m_G 40 24 L st μ := g_iflt (off := 30) (by decide +kernel) (by decide)
theorem i40_24 : m_G 40 24 [.ref a0, v1, v2, v3, v4] st μ = m_G 40 25 [.ref a0, v1, v2, v3, v4] (.ref a0 :: st) μ := g_aload_n (i := 0) (by decide +kernel) rfl
theorem i40_25 : m_G 40 25 L (.ref a0 :: st) μ = b_v (m_gf μ a0 5 0) 40 28 L st μ := g_getf (i := 9) (by decide +kernel) (by decide +kernel)
theorem i40_28 : m_G 40 28 [v0, v1, v2, .int x0, v4] st μ = m_G 40 29 [v0, v1, v2, .int x0, v4] (.int x0 :: st) μ := g_iload_n (i := 3) (by decide +kernel) rfl
theorem i40_29 : m_G 40 29 L st μ = m_G 40 31 L (.int 24 :: st) μ := g_bipush (n := 24) (by decide +kernel) (by decide)
theorem i40_31 : m_G 40 31 L (.int x1 :: .int x0 :: st) μ = m_G 40 32 L (.int (x0 * x1) :: st) μ := g_imul (by decide +kernel)
theorem i40_32 : m_G 40 32 [v0, v1, v2, v3, .int x0] st μ = m_G 40 34 [v0, v1, v2, v3, .int x0] (.int x0 :: st) μ := g_iload (i := 4) (by decide +kernel) rfl
theorem i40_34 : m_G 40 34 L (.int x1 :: .int x0 :: st) μ = m_G 40 35 L (.int (x0 + x1) :: st) μ := g_iadd (by decide +kernel)
theorem i40_35 : m_G 40 35 [.ref a0, v1, v2, v3, v4] st μ = m_G 40 36 [.ref a0, v1, v2, v3, v4] (.ref a0 :: st) μ := g_aload_n (i := 0) (by decide +kernel) rfl
theorem i40_36 : m_G 40 36 [v0, .ref a0, v2, v3, v4] st μ = m_G 40 37 [v0, .ref a0, v2, v3, v4] (.ref a0 :: st) μ := g_aload_n (i := 1) (by decide +kernel) rfl
theorem i40_37 : m_G 40 37 [v0, v1, v2, .int x0, v4] st μ = m_G 40 38 [v0, v1, v2, .int x0, v4] (.int x0 :: st) μ := g_iload_n (i := 3) (by decide +kernel) rfl
theorem i40_38 : m_G 40 38 [v0, v1, .ref a0, v3, v4] st μ = m_G 40 39 [v0, v1, .ref a0, v3, v4] (.ref a0 :: st) μ := g_aload_n (i := 2) (by decide +kernel) rfl
theorem i40_39 : m_G 40 39 [v0, v1, v2, v3, .int x0] st μ = m_G 40 41 [v0, v1, v2, v3, .int x0] (.int x0 :: st) μ := g_iload (i := 4) (by decide +kernel) rfl
theorem i40_41 (ho : m_oc μ a0 = some 5) : m_G 40 41 L (.int x3 :: .ref a3 :: .int x1 :: .ref a1 :: .ref a0 :: [w0, w1]) μ = b_c (m_D 41 [.ref a0, .ref a1, .int x1, .ref a3, .int x3] μ) 40 44 L [w0, w1] := g_virt (i := 24) (n := 4) (a := a0) (c := 5) (l := [(5, 41)]) (by decide +kernel) (by decide +kernel) rfl rfl (x_call_ok (ws := [1, 1, 1, 1, 1]) (Nat.le_of_ble_eq_true rfl) rfl (by decide +kernel) rfl (by decide +kernel) rfl rfl) ho
theorem i40_44 : m_G 40 44 L (.int x1 :: .int x0 :: .ref a0 :: st) μ = b_m (m_pa μ a0 x0 x1) 40 45 L st := g_iast (by decide +kernel)
theorem i40_45 : m_G 40 45 [v0, v1, v2, v3, .int x0] st μ = m_G 40 48 [v0, v1, v2, v3, .int (x0 + (-1))] st μ := g_iinc (i := 4) (n := -1) (by decide +kernel) rfl (by decide) rfl
theorem i40_48 : m_G 40 48 L st μ = m_G 40 19 L st μ := g_goto (off := -29) (by decide +kernel) (by decide)
theorem i40_51 : m_G 40 51 [v0, v1, v2, .int x0, v4] st μ = m_G 40 54 [v0, v1, v2, .int (x0 + (-1)), v4] st μ := g_iinc (i := 3) (n := -1) (by decide +kernel) rfl (by decide) rfl
theorem i40_54 : m_G 40 54 L st μ = m_G 40 7 L st μ := g_goto (off := -47) (by decide +kernel) (by decide)
theorem i40_57 : m_G 40 57 [.ref a0, v1, v2, v3, v4] st μ = m_G 40 58 [.ref a0, v1, v2, v3, v4] (.ref a0 :: st) μ := g_aload_n (i := 0) (by decide +kernel) rfl
theorem i40_58 : m_G 40 58 L (.ref a0 :: st) μ = b_v (m_gf μ a0 5 0) 40 61 L st μ := g_getf (i := 9) (by decide +kernel) (by decide +kernel)
theorem i40_61 : m_G 40 61 L st μ = m_G 40 62 L (.int 0 :: st) μ := g_iconst (n := 0) (by decide +kernel) (by decide)
theorem i40_62 : m_G 40 62 L (.int x0 :: .ref a0 :: st) μ = b_i (m_ga μ a0 x0) 40 63 L st μ := g_iald (by decide +kernel)
theorem i40_63 : m_G 40 63 L [.int x0] μ = some (some (.int x0), μ) := g_ireti (by decide +kernel) (by decide)
theorem D40 : m_D 40 [.ref a0, .ref a1, .ref a2] μ = m_G 40 0 [.ref a0, .ref a1, .ref a2, m_d, m_d] [] μ := d_def (by decide) rfl
theorem i41_0 : m_G 41 0 [v0, .ref a0, v2, v3, v4, v5, v6] st μ = m_G 41 1 [v0, .ref a0, v2, v3, v4, v5, v6] (.ref a0 :: st) μ := g_aload_n (i := 1) (by decide +kernel) rfl
theorem i41_1 : m_G 41 1 L (.ref a0 :: st) μ = b_v (m_gf μ a0 3 1) 41 4 L st μ := g_getf (i := 28) (by decide +kernel) (by decide +kernel)
theorem i41_4 : m_G 41 4 [v0, v1, .int x0, v3, v4, v5, v6] st μ = m_G 41 5 [v0, v1, .int x0, v3, v4, v5, v6] (.int x0 :: st) μ := g_iload_n (i := 2) (by decide +kernel) rfl
theorem i41_5 : m_G 41 5 L (.int x0 :: .ref a0 :: st) μ = b_i (m_ga μ a0 x0) 41 6 L st μ := g_iald (by decide +kernel)
theorem i41_6 : m_G 41 6 [v0, v1, v2, .ref a0, v4, v5, v6] st μ = m_G 41 7 [v0, v1, v2, .ref a0, v4, v5, v6] (.ref a0 :: st) μ := g_aload_n (i := 3) (by decide +kernel) rfl
theorem i41_7 : m_G 41 7 L (.ref a0 :: st) μ = b_v (m_gf μ a0 3 1) 41 10 L st μ := g_getf (i := 28) (by decide +kernel) (by decide +kernel)
theorem i41_10 : m_G 41 10 [v0, v1, v2, v3, .int x0, v5, v6] st μ = m_G 41 12 [v0, v1, v2, v3, .int x0, v5, v6] (.int x0 :: st) μ := g_iload (i := 4) (by decide +kernel) rfl
theorem i41_12 : m_G 41 12 L (.int x0 :: .ref a0 :: st) μ = b_i (m_ga μ a0 x0) 41 13 L st μ := g_iald (by decide +kernel)
theorem i41_13 : m_G 41 13 L (.int x1 :: .int x0 :: st) μ = if x0 = x1 then m_G 41 18 L st μ else m_G 41 16 L st μ := g_cmpeq (off := 5) (by decide +kernel) (by decide)
theorem i41_16 : m_G 41 16 L st μ = m_G 41 17 L (.int 0 :: st) μ := g_iconst (n := 0) (by decide +kernel) (by decide)
theorem i41_17 : m_G 41 17 L [.int x0] μ = some (some (.int x0), μ) := g_ireti (by decide +kernel) (by decide)
theorem i41_18 : m_G 41 18 [v0, .ref a0, v2, v3, v4, v5, v6] st μ = m_G 41 19 [v0, .ref a0, v2, v3, v4, v5, v6] (.ref a0 :: st) μ := g_aload_n (i := 1) (by decide +kernel) rfl
theorem i41_19 : m_G 41 19 L (.ref a0 :: st) μ = b_v (m_gf μ a0 3 2) 41 22 L st μ := g_getf (i := 31) (by decide +kernel) (by decide +kernel)
theorem i41_22 : m_G 41 22 [v0, v1, .int x0, v3, v4, v5, v6] st μ = m_G 41 23 [v0, v1, .int x0, v3, v4, v5, v6] (.int x0 :: st) μ := g_iload_n (i := 2) (by decide +kernel) rfl
theorem i41_23 : m_G 41 23 L (.int x0 :: .ref a0 :: st) μ = b_i (m_ga μ a0 x0) 41 24 L st μ := g_iald (by decide +kernel)
theorem i41_24 : m_G 41 24 [v0, v1, v2, .ref a0, v4, v5, v6] st μ = m_G 41 25 [v0, v1, v2, .ref a0, v4, v5, v6] (.ref a0 :: st) μ := g_aload_n (i := 3) (by decide +kernel) rfl
theorem i41_25 : m_G 41 25 L (.ref a0 :: st) μ = b_v (m_gf μ a0 3 2) 41 28 L st μ := g_getf (i := 31) (by decide +kernel) (by decide +kernel)
theorem i41_28 : m_G 41 28 [v0, v1, v2, v3, .int x0, v5, v6] st μ = m_G 41 30 [v0, v1, v2, v3, .int x0, v5, v6] (.int x0 :: st) μ := g_iload (i := 4) (by decide +kernel) rfl
theorem i41_30 : m_G 41 30 L (.int x0 :: .ref a0 :: st) μ = b_i (m_ga μ a0 x0) 41 31 L st μ := g_iald (by decide +kernel)
theorem i41_31 : m_G 41 31 L (.int x1 :: .int x0 :: st) μ = if x0 = x1 then m_G 41 34 L st μ else m_G 41 38 L st μ := g_cmpne (off := 7) (by decide +kernel) (by decide)
theorem i41_34 : m_G 41 34 L st μ = m_G 41 35 L (.int 2 :: st) μ := g_iconst (n := 2) (by decide +kernel) (by decide)
theorem i41_35 : m_G 41 35 L st μ = m_G 41 39 L st μ := g_goto (off := 4) (by decide +kernel) (by decide)
theorem i41_38 : m_G 41 38 L st μ = m_G 41 39 L (.int 1 :: st) μ := g_iconst (n := 1) (by decide +kernel) (by decide)
theorem i41_39 : m_G 41 39 [v0, v1, v2, v3, v4, v5, v6] (.int x0 :: st) μ = m_G 41 41 [v0, v1, v2, v3, v4, .int x0, v6] st μ := g_istore (i := 5) (by decide +kernel) (Nat.le_of_ble_eq_true rfl) rfl
theorem i41_41 : m_G 41 41 [v0, .ref a0, v2, v3, v4, v5, v6] st μ = m_G 41 42 [v0, .ref a0, v2, v3, v4, v5, v6] (.ref a0 :: st) μ := g_aload_n (i := 1) (by decide +kernel) rfl
theorem i41_42 : m_G 41 42 L (.ref a0 :: st) μ = b_v (m_gf μ a0 3 5) 41 45 L st μ := g_getf (i := 34) (by decide +kernel) (by decide +kernel)
theorem i41_45 : m_G 41 45 [v0, v1, .int x0, v3, v4, v5, v6] st μ = m_G 41 46 [v0, v1, .int x0, v3, v4, v5, v6] (.int x0 :: st) μ := g_iload_n (i := 2) (by decide +kernel) rfl
theorem i41_46 : m_G 41 46 L (.int x0 :: .ref a0 :: st) μ = b_i (m_ga μ a0 x0) 41 47 L st μ := g_iald (by decide +kernel)
theorem i41_47 : m_G 41 47 L (.int x0 :: st) μ = if x0 = 0 then m_G 41 60 L st μ else m_G 41 50 L st μ := g_ifeq (off := 13) (by decide +kernel) (by decide)
theorem i41_50 : m_G 41 50 [v0, v1, v2, .ref a0, v4, v5, v6] st μ = m_G 41 51 [v0, v1, v2, .ref a0, v4, v5, v6] (.ref a0 :: st) μ := g_aload_n (i := 3) (by decide +kernel) rfl
theorem i41_51 : m_G 41 51 L (.ref a0 :: st) μ = b_v (m_gf μ a0 3 5) 41 54 L st μ := g_getf (i := 34) (by decide +kernel) (by decide +kernel)
theorem i41_54 : m_G 41 54 [v0, v1, v2, v3, .int x0, v5, v6] st μ = m_G 41 56 [v0, v1, v2, v3, .int x0, v5, v6] (.int x0 :: st) μ := g_iload (i := 4) (by decide +kernel) rfl
theorem i41_56 : m_G 41 56 L (.int x0 :: .ref a0 :: st) μ = b_i (m_ga μ a0 x0) 41 57 L st μ := g_iald (by decide +kernel)
theorem i41_57 : m_G 41 57 L (.int x0 :: st) μ = if x0 = 0 then m_G 41 60 L st μ else m_G 41 64 L st μ := g_ifne (off := 7) (by decide +kernel) (by decide)
theorem i41_60 : m_G 41 60 L st μ = m_G 41 61 L (.int 0 :: st) μ := g_iconst (n := 0) (by decide +kernel) (by decide)
theorem i41_61 : m_G 41 61 L st μ = m_G 41 81 L st μ := g_goto (off := 20) (by decide +kernel) (by decide)
theorem i41_64 : m_G 41 64 [.ref a0, v1, v2, v3, v4, v5, v6] st μ = m_G 41 65 [.ref a0, v1, v2, v3, v4, v5, v6] (.ref a0 :: st) μ := g_aload_n (i := 0) (by decide +kernel) rfl
theorem i41_65 : m_G 41 65 [v0, .ref a0, v2, v3, v4, v5, v6] st μ = m_G 41 66 [v0, .ref a0, v2, v3, v4, v5, v6] (.ref a0 :: st) μ := g_aload_n (i := 1) (by decide +kernel) rfl
theorem i41_66 : m_G 41 66 L (.ref a0 :: st) μ = b_v (m_gf μ a0 3 5) 41 69 L st μ := g_getf (i := 34) (by decide +kernel) (by decide +kernel)
theorem i41_69 : m_G 41 69 [v0, v1, .int x0, v3, v4, v5, v6] st μ = m_G 41 70 [v0, v1, .int x0, v3, v4, v5, v6] (.int x0 :: st) μ := g_iload_n (i := 2) (by decide +kernel) rfl
theorem i41_70 : m_G 41 70 L (.int x0 :: .ref a0 :: st) μ = b_i (m_ga μ a0 x0) 41 71 L st μ := g_iald (by decide +kernel)
theorem i41_71 : m_G 41 71 [v0, v1, v2, .ref a0, v4, v5, v6] st μ = m_G 41 72 [v0, v1, v2, .ref a0, v4, v5, v6] (.ref a0 :: st) μ := g_aload_n (i := 3) (by decide +kernel) rfl
theorem i41_72 : m_G 41 72 L (.ref a0 :: st) μ = b_v (m_gf μ a0 3 5) 41 75 L st μ := g_getf (i := 34) (by decide +kernel) (by decide +kernel)
theorem i41_75 : m_G 41 75 [v0, v1, v2, v3, .int x0, v5, v6] st μ = m_G 41 77 [v0, v1, v2, v3, .int x0, v5, v6] (.int x0 :: st) μ := g_iload (i := 4) (by decide +kernel) rfl
theorem i41_77 : m_G 41 77 L (.int x0 :: .ref a0 :: st) μ = b_i (m_ga μ a0 x0) 41 78 L st μ := g_iald (by decide +kernel)
theorem i41_78 (ho : m_oc μ a0 = some 5) : m_G 41 78 L (.int x1 :: .int x0 :: .ref a0 :: []) μ = b_c (m_D 42 [.ref a0, .int x0, .int x1] μ) 41 81 L [] := g_virt (i := 37) (n := 2) (a := a0) (c := 5) (l := [(5, 42)]) (by decide +kernel) (by decide +kernel) rfl rfl (x_call_ok (ws := [1, 1, 1]) (Nat.le_of_ble_eq_true rfl) rfl (by decide +kernel) rfl (by decide +kernel) rfl rfl) ho
theorem i41_81 : m_G 41 81 [v0, v1, v2, v3, v4, v5, v6] (.int x0 :: st) μ = m_G 41 83 [v0, v1, v2, v3, v4, v5, .int x0] st μ := g_istore (i := 6) (by decide +kernel) (Nat.le_of_ble_eq_true rfl) rfl
theorem i41_83 : m_G 41 83 [v0, v1, v2, v3, v4, .int x0, v6] st μ = m_G 41 85 [v0, v1, v2, v3, v4, .int x0, v6] (.int x0 :: st) μ := g_iload (i := 5) (by decide +kernel) rfl
theorem i41_85 : m_G 41 85 [v0, v1, v2, v3, v4, v5, .int x0] st μ = m_G 41 87 [v0, v1, v2, v3, v4, v5, .int x0] (.int x0 :: st) μ := g_iload (i := 6) (by decide +kernel) rfl
theorem i41_87 : m_G 41 87 L (.int x1 :: .int x0 :: st) μ = m_G 41 88 L (.int (x0 + x1) :: st) μ := g_iadd (by decide +kernel)
theorem i41_88 : m_G 41 88 L [.int x0] μ = some (some (.int x0), μ) := g_ireti (by decide +kernel) (by decide)
theorem D41 : m_D 41 [.ref a0, .ref a1, .int x1, .ref a3, .int x3] μ = m_G 41 0 [.ref a0, .ref a1, .int x1, .ref a3, .int x3, m_d, m_d] [] μ := d_def (by decide) rfl
theorem i42_0 : m_G 42 0 [.ref a0, v1, v2, v3, v4] st μ = m_G 42 1 [.ref a0, v1, v2, v3, v4] (.ref a0 :: st) μ := g_aload_n (i := 0) (by decide +kernel) rfl
theorem i42_1 : m_G 42 1 L (.ref a0 :: st) μ = b_v (m_gf μ a0 5 1) 42 4 L st μ := g_getf (i := 15) (by decide +kernel) (by decide +kernel)
theorem i42_4 : m_G 42 4 L st μ = m_G 42 5 L (.int 0 :: st) μ := g_iconst (n := 0) (by decide +kernel) (by decide)
theorem i42_5 : m_G 42 5 L (.int x1 :: .ref a1 :: []) μ = b_c (m_D 172 [.ref a1, .int x1] μ) 42 8 L [] := g_stat (i := 41) (n := 2) (by decide +kernel) (by decide +kernel) (by decide) (x_call_ok (ws := [1, 1]) (Nat.le_of_ble_eq_true rfl) rfl (by decide +kernel) rfl (by decide +kernel) rfl rfl)
theorem i42_8 : m_G 42 8 L st μ = m_G 42 9 L (.int 0 :: st) μ := g_iconst (n := 0) (by decide +kernel) (by decide)
theorem i42_9 : m_G 42 9 [v0, v1, v2, v3, v4] (.int x0 :: st) μ = m_G 42 10 [v0, v1, v2, .int x0, v4] st μ := g_istore_n (i := 3) (by decide +kernel) (Nat.le_of_ble_eq_true rfl) rfl
theorem i42_10 : m_G 42 10 L st μ = m_G 42 11 L (.int 0 :: st) μ := g_iconst (n := 0) (by decide +kernel) (by decide)
theorem i42_11 : m_G 42 11 [v0, v1, v2, v3, v4] (.int x0 :: st) μ = m_G 42 13 [v0, v1, v2, v3, .int x0] st μ := g_istore (i := 4) (by decide +kernel) (Nat.le_of_ble_eq_true rfl) rfl
theorem i42_13 : m_G 42 13 [v0, v1, v2, v3, .int x0] st μ = m_G 42 15 [v0, v1, v2, v3, .int x0] (.int x0 :: st) μ := g_iload (i := 4) (by decide +kernel) rfl
theorem i42_15 : m_G 42 15 L st μ = m_G 42 17 L (.int 24 :: st) μ := g_bipush (n := 24) (by decide +kernel) (by decide)
theorem i42_17 : m_G 42 17 L (.int x1 :: .int x0 :: st) μ = if x0 < x1 then m_G 42 20 L st μ else m_G 42 43 L st μ := g_cmpge (off := 26) (by decide +kernel) (by decide)
theorem i42_20 : m_G 42 20 [v0, .int x0, v2, v3, v4] st μ = m_G 42 21 [v0, .int x0, v2, v3, v4] (.int x0 :: st) μ := g_iload_n (i := 1) (by decide +kernel) rfl
theorem i42_21 : m_G 42 21 [v0, v1, v2, v3, .int x0] st μ = m_G 42 23 [v0, v1, v2, v3, .int x0] (.int x0 :: st) μ := g_iload (i := 4) (by decide +kernel) rfl
theorem i42_23 : m_G 42 23 L (.int x1 :: .int x0 :: []) μ = b_c (m_D 96 [.int x0, .int x1] μ) 42 26 L [] := g_stat (i := 47) (n := 2) (by decide +kernel) (by decide +kernel) (by decide) (x_call_ok (ws := [1, 1]) (Nat.le_of_ble_eq_true rfl) rfl (by decide +kernel) rfl (by decide +kernel) rfl rfl)
theorem i42_26 : m_G 42 26 L (.int x0 :: st) μ = if x0 = 0 then m_G 42 37 L st μ else m_G 42 29 L st μ := g_ifeq (off := 11) (by decide +kernel) (by decide)
theorem i42_29 : m_G 42 29 [.ref a0, v1, v2, v3, v4] st μ = m_G 42 30 [.ref a0, v1, v2, v3, v4] (.ref a0 :: st) μ := g_aload_n (i := 0) (by decide +kernel) rfl
theorem i42_30 : m_G 42 30 [v0, v1, v2, v3, .int x0] st μ = m_G 42 32 [v0, v1, v2, v3, .int x0] (.int x0 :: st) μ := g_iload (i := 4) (by decide +kernel) rfl
theorem i42_32 : m_G 42 32 [v0, v1, .int x0, v3, v4] st μ = m_G 42 33 [v0, v1, .int x0, v3, v4] (.int x0 :: st) μ := g_iload_n (i := 2) (by decide +kernel) rfl
theorem i42_33 (ho : m_oc μ a0 = some 5) : m_G 42 33 L (.int x1 :: .int x0 :: .ref a0 :: []) μ = b_c (m_D 43 [.ref a0, .int x0, .int x1] μ) 42 36 L [] := g_virt (i := 51) (n := 2) (a := a0) (c := 5) (l := [(5, 43)]) (by decide +kernel) (by decide +kernel) rfl rfl (x_call_ok (ws := [1, 1, 1]) (Nat.le_of_ble_eq_true rfl) rfl (by decide +kernel) rfl (by decide +kernel) rfl rfl) ho
theorem i42_36 : m_G 42 36 [v0, v1, v2, v3, v4] (.int x0 :: st) μ = m_G 42 37 [v0, v1, v2, .int x0, v4] st μ := g_istore_n (i := 3) (by decide +kernel) (Nat.le_of_ble_eq_true rfl) rfl
theorem i42_37 : m_G 42 37 [v0, v1, v2, v3, .int x0] st μ = m_G 42 40 [v0, v1, v2, v3, .int (x0 + 1)] st μ := g_iinc (i := 4) (n := 1) (by decide +kernel) rfl (by decide) rfl
theorem i42_40 : m_G 42 40 L st μ = m_G 42 13 L st μ := g_goto (off := -27) (by decide +kernel) (by decide)
theorem i42_43 : m_G 42 43 [v0, v1, v2, .int x0, v4] st μ = m_G 42 44 [v0, v1, v2, .int x0, v4] (.int x0 :: st) μ := g_iload_n (i := 3) (by decide +kernel) rfl
theorem i42_44 : m_G 42 44 L [.int x0] μ = some (some (.int x0), μ) := g_ireti (by decide +kernel) (by decide)
theorem D42 : m_D 42 [.ref a0, .int x0, .int x1] μ = m_G 42 0 [.ref a0, .int x0, .int x1, m_d, m_d] [] μ := d_def (by decide) rfl
theorem i43_0 : m_G 43 0 L st μ = m_G 43 1 L (.int 0 :: st) μ := g_iconst (n := 0) (by decide +kernel) (by decide)
theorem i43_1 : m_G 43 1 [v0, v1, v2, v3, v4, v5, v6] (.int x0 :: st) μ = m_G 43 2 [v0, v1, v2, .int x0, v4, v5, v6] st μ := g_istore_n (i := 3) (by decide +kernel) (Nat.le_of_ble_eq_true rfl) rfl
theorem i43_2 : m_G 43 2 L st μ = m_G 43 3 L (.int 0 :: st) μ := g_iconst (n := 0) (by decide +kernel) (by decide)
theorem i43_3 : m_G 43 3 [v0, v1, v2, v3, v4, v5, v6] (.int x0 :: st) μ = m_G 43 5 [v0, v1, v2, v3, .int x0, v5, v6] st μ := g_istore (i := 4) (by decide +kernel) (Nat.le_of_ble_eq_true rfl) rfl
theorem i43_5 : m_G 43 5 L st μ = m_G 43 6 L (.int 0 :: st) μ := g_iconst (n := 0) (by decide +kernel) (by decide)
theorem i43_6 : m_G 43 6 [v0, v1, v2, v3, v4, v5, v6] (.int x0 :: st) μ = m_G 43 8 [v0, v1, v2, v3, v4, .int x0, v6] st μ := g_istore (i := 5) (by decide +kernel) (Nat.le_of_ble_eq_true rfl) rfl
theorem i43_8 : m_G 43 8 [v0, v1, v2, v3, v4, .int x0, v6] st μ = m_G 43 10 [v0, v1, v2, v3, v4, .int x0, v6] (.int x0 :: st) μ := g_iload (i := 5) (by decide +kernel) rfl
theorem i43_10 : m_G 43 10 L st μ = m_G 43 12 L (.int 24 :: st) μ := g_bipush (n := 24) (by decide +kernel) (by decide)
theorem i43_12 : m_G 43 12 L (.int x1 :: .int x0 :: st) μ = if x0 < x1 then m_G 43 15 L st μ else m_G 43 86 L st μ := g_cmpge (off := 74) (by decide +kernel) (by decide)
theorem i43_15 : m_G 43 15 [v0, v1, .int x0, v3, v4, v5, v6] st μ = m_G 43 16 [v0, v1, .int x0, v3, v4, v5, v6] (.int x0 :: st) μ := g_iload_n (i := 2) (by decide +kernel) rfl
theorem i43_16 : m_G 43 16 [v0, v1, v2, v3, v4, .int x0, v6] st μ = m_G 43 18 [v0, v1, v2, v3, v4, .int x0, v6] (.int x0 :: st) μ := g_iload (i := 5) (by decide +kernel) rfl
theorem i43_18 : m_G 43 18 L (.int x1 :: .int x0 :: []) μ = b_c (m_D 96 [.int x0, .int x1] μ) 43 21 L [] := g_stat (i := 47) (n := 2) (by decide +kernel) (by decide +kernel) (by decide) (x_call_ok (ws := [1, 1]) (Nat.le_of_ble_eq_true rfl) rfl (by decide +kernel) rfl (by decide +kernel) rfl rfl)
theorem i43_21 : m_G 43 21 L (.int x0 :: st) μ = if x0 = 0 then m_G 43 80 L st μ else m_G 43 24 L st μ := g_ifeq (off := 59) (by decide +kernel) (by decide)
theorem i43_24 : m_G 43 24 [v0, v1, v2, .int x0, v4, v5, v6] st μ = m_G 43 27 [v0, v1, v2, .int (x0 + 1), v4, v5, v6] st μ := g_iinc (i := 3) (n := 1) (by decide +kernel) rfl (by decide) rfl
theorem i43_27 : m_G 43 27 [v0, v1, v2, v3, .int x0, v5, v6] st μ = m_G 43 29 [v0, v1, v2, v3, .int x0, v5, v6] (.int x0 :: st) μ := g_iload (i := 4) (by decide +kernel) rfl
theorem i43_29 : m_G 43 29 [.ref a0, v1, v2, v3, v4, v5, v6] st μ = m_G 43 30 [.ref a0, v1, v2, v3, v4, v5, v6] (.ref a0 :: st) μ := g_aload_n (i := 0) (by decide +kernel) rfl
theorem i43_30 : m_G 43 30 L (.ref a0 :: st) μ = b_v (m_gf μ a0 5 0) 43 33 L st μ := g_getf (i := 9) (by decide +kernel) (by decide +kernel)
theorem i43_33 : m_G 43 33 [v0, .int x0, v2, v3, v4, v5, v6] st μ = m_G 43 34 [v0, .int x0, v2, v3, v4, v5, v6] (.int x0 :: st) μ := g_iload_n (i := 1) (by decide +kernel) rfl
theorem i43_34 : m_G 43 34 L st μ = m_G 43 36 L (.int 24 :: st) μ := g_bipush (n := 24) (by decide +kernel) (by decide)
theorem i43_36 : m_G 43 36 L (.int x1 :: .int x0 :: st) μ = m_G 43 37 L (.int (x0 * x1) :: st) μ := g_imul (by decide +kernel)
theorem i43_37 : m_G 43 37 [v0, v1, v2, v3, v4, .int x0, v6] st μ = m_G 43 39 [v0, v1, v2, v3, v4, .int x0, v6] (.int x0 :: st) μ := g_iload (i := 5) (by decide +kernel) rfl
theorem i43_39 : m_G 43 39 L (.int x1 :: .int x0 :: st) μ = m_G 43 40 L (.int (x0 + x1) :: st) μ := g_iadd (by decide +kernel)
theorem i43_40 : m_G 43 40 L (.int x0 :: .ref a0 :: st) μ = b_i (m_ga μ a0 x0) 43 41 L st μ := g_iald (by decide +kernel)
theorem i43_41 : m_G 43 41 L (.int x1 :: .int x0 :: st) μ = m_G 43 42 L (.int (x0 + x1) :: st) μ := g_iadd (by decide +kernel)
theorem i43_42 : m_G 43 42 [v0, v1, v2, v3, v4, v5, v6] (.int x0 :: st) μ = m_G 43 44 [v0, v1, v2, v3, v4, v5, .int x0] st μ := g_istore (i := 6) (by decide +kernel) (Nat.le_of_ble_eq_true rfl) rfl
theorem i43_44 : m_G 43 44 [.ref a0, v1, v2, v3, v4, v5, v6] st μ = m_G 43 45 [.ref a0, v1, v2, v3, v4, v5, v6] (.ref a0 :: st) μ := g_aload_n (i := 0) (by decide +kernel) rfl
theorem i43_45 : m_G 43 45 L (.ref a0 :: st) μ = b_v (m_gf μ a0 5 1) 43 48 L st μ := g_getf (i := 15) (by decide +kernel) (by decide +kernel)
theorem i43_48 : m_G 43 48 [v0, v1, v2, .int x0, v4, v5, v6] st μ = m_G 43 49 [v0, v1, v2, .int x0, v4, v5, v6] (.int x0 :: st) μ := g_iload_n (i := 3) (by decide +kernel) rfl
theorem i43_49 : m_G 43 49 L (.int x0 :: .ref a0 :: st) μ = b_i (m_ga μ a0 x0) 43 50 L st μ := g_iald (by decide +kernel)
theorem i43_50 : m_G 43 50 [v0, v1, v2, v3, v4, v5, v6] (.int x0 :: st) μ = m_G 43 52 [v0, v1, v2, v3, .int x0, v5, v6] st μ := g_istore (i := 4) (by decide +kernel) (Nat.le_of_ble_eq_true rfl) rfl
theorem i43_52 : m_G 43 52 [.ref a0, v1, v2, v3, v4, v5, v6] st μ = m_G 43 53 [.ref a0, v1, v2, v3, v4, v5, v6] (.ref a0 :: st) μ := g_aload_n (i := 0) (by decide +kernel) rfl
theorem i43_53 : m_G 43 53 L (.ref a0 :: st) μ = b_v (m_gf μ a0 5 1) 43 56 L st μ := g_getf (i := 15) (by decide +kernel) (by decide +kernel)
theorem i43_56 : m_G 43 56 [v0, v1, v2, .int x0, v4, v5, v6] st μ = m_G 43 57 [v0, v1, v2, .int x0, v4, v5, v6] (.int x0 :: st) μ := g_iload_n (i := 3) (by decide +kernel) rfl
theorem i43_57 : m_G 43 57 [v0, v1, v2, v3, v4, v5, .int x0] st μ = m_G 43 59 [v0, v1, v2, v3, v4, v5, .int x0] (.int x0 :: st) μ := g_iload (i := 6) (by decide +kernel) rfl
theorem i43_59 : m_G 43 59 [.ref a0, v1, v2, v3, v4, v5, v6] st μ = m_G 43 60 [.ref a0, v1, v2, v3, v4, v5, v6] (.ref a0 :: st) μ := g_aload_n (i := 0) (by decide +kernel) rfl
theorem i43_60 : m_G 43 60 L (.ref a0 :: st) μ = b_v (m_gf μ a0 5 1) 43 63 L st μ := g_getf (i := 15) (by decide +kernel) (by decide +kernel)
theorem i43_63 : m_G 43 63 [v0, v1, v2, .int x0, v4, v5, v6] st μ = m_G 43 64 [v0, v1, v2, .int x0, v4, v5, v6] (.int x0 :: st) μ := g_iload_n (i := 3) (by decide +kernel) rfl
theorem i43_64 : m_G 43 64 L (.int x0 :: .ref a0 :: st) μ = b_i (m_ga μ a0 x0) 43 65 L st μ := g_iald (by decide +kernel)
theorem i43_65 : m_G 43 65 [.ref a0, v1, v2, v3, v4, v5, v6] st μ = m_G 43 66 [.ref a0, v1, v2, v3, v4, v5, v6] (.ref a0 :: st) μ := g_aload_n (i := 0) (by decide +kernel) rfl
theorem i43_66 : m_G 43 66 L (.ref a0 :: st) μ = b_v (m_gf μ a0 5 1) 43 69 L st μ := g_getf (i := 15) (by decide +kernel) (by decide +kernel)
theorem i43_69 : m_G 43 69 [v0, v1, v2, .int x0, v4, v5, v6] st μ = m_G 43 70 [v0, v1, v2, .int x0, v4, v5, v6] (.int x0 :: st) μ := g_iload_n (i := 3) (by decide +kernel) rfl
theorem i43_70 : m_G 43 70 L st μ = m_G 43 71 L (.int 1 :: st) μ := g_iconst (n := 1) (by decide +kernel) (by decide)
theorem i43_71 : m_G 43 71 L (.int x1 :: .int x0 :: st) μ = m_G 43 72 L (.int (x0 - x1) :: st) μ := g_isub (by decide +kernel)
theorem i43_72 : m_G 43 72 L (.int x0 :: .ref a0 :: st) μ = b_i (m_ga μ a0 x0) 43 73 L st μ := g_iald (by decide +kernel)
theorem i43_73 : m_G 43 73 L (.int x1 :: .int x0 :: [w0, w1, w2]) μ = m_G 43 76 L (.int (if x0 < x1 then x1 else x0) :: [w0, w1, w2]) μ := g_max (i := 54) (by decide +kernel) (by decide +kernel) ⟨Nat.le_of_ble_eq_true rfl, by decide, by decide⟩
theorem i43_76 : m_G 43 76 L (.int x1 :: .int x0 :: [w0, w1]) μ = m_G 43 79 L (.int (if x0 < x1 then x1 else x0) :: [w0, w1]) μ := g_max (i := 54) (by decide +kernel) (by decide +kernel) ⟨Nat.le_of_ble_eq_true rfl, by decide, by decide⟩
theorem i43_79 : m_G 43 79 L (.int x1 :: .int x0 :: .ref a0 :: st) μ = b_m (m_pa μ a0 x0 x1) 43 80 L st := g_iast (by decide +kernel)
theorem i43_80 : m_G 43 80 [v0, v1, v2, v3, v4, .int x0, v6] st μ = m_G 43 83 [v0, v1, v2, v3, v4, .int (x0 + 1), v6] st μ := g_iinc (i := 5) (n := 1) (by decide +kernel) rfl (by decide) rfl
theorem i43_83 : m_G 43 83 L st μ = m_G 43 8 L st μ := g_goto (off := -75) (by decide +kernel) (by decide)
theorem i43_86 : m_G 43 86 [.ref a0, v1, v2, v3, v4, v5, v6] st μ = m_G 43 87 [.ref a0, v1, v2, v3, v4, v5, v6] (.ref a0 :: st) μ := g_aload_n (i := 0) (by decide +kernel) rfl
theorem i43_87 : m_G 43 87 L (.ref a0 :: st) μ = b_v (m_gf μ a0 5 1) 43 90 L st μ := g_getf (i := 15) (by decide +kernel) (by decide +kernel)
theorem i43_90 : m_G 43 90 [v0, v1, v2, .int x0, v4, v5, v6] st μ = m_G 43 91 [v0, v1, v2, .int x0, v4, v5, v6] (.int x0 :: st) μ := g_iload_n (i := 3) (by decide +kernel) rfl
theorem i43_91 : m_G 43 91 L (.int x0 :: .ref a0 :: st) μ = b_i (m_ga μ a0 x0) 43 92 L st μ := g_iald (by decide +kernel)
theorem i43_92 : m_G 43 92 L [.int x0] μ = some (some (.int x0), μ) := g_ireti (by decide +kernel) (by decide)
theorem D43 : m_D 43 [.ref a0, .int x0, .int x1] μ = m_G 43 0 [.ref a0, .int x0, .int x1, m_d, m_d, m_d, m_d] [] μ := d_def (by decide) rfl
end i_22_ib
